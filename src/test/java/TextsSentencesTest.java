/** Texts, and promises 11 to 13: for each sentence that names a boundary case a test of its own. */
public final class TextsSentencesTest extends Sentences {
    private static final String DIGITS = "0123456789";
    private static final String KINDS = "wxnm";
    /** All signs of one byte, and some that look like signs of an order. */
    private static final String SIGNS = signs();

    public static void main(String[] args) throws IllegalAccessException {
        run(TextsSentencesTest.class);
    }

    private static String signs() {
        StringBuilder all = new StringBuilder();
        for (int sign = 0; sign < 256; sign++) {
            all.append((char) sign);
        }
        for (int sign : new int[] {0x130, 0x137, 0x17f, 0x660, 0x37e, 0x966, 0x2024, 0xff0e, 0xff10, 0xff1b, 0xff1d, 0xffff}) {
            all.append((char) sign);
        }
        return all.toString();
    }

    /** Behind this beginning just these signs are allowed; with each other one the fault is there, whatever follows. */
    private static void follows(String beginning, String allowed) {
        int place = beginning.length();
        for (char sign : SIGNS.toCharArray()) {
            String text = beginning + sign;
            boolean there = performed(text) == -100 - place;
            due("is the fault of " + beginning + " and the sign " + (int) sign + " there?", there ? 1 : 0, allowed.indexOf(sign) >= 0 ? 0 : 1);
            if (allowed.indexOf(sign) < 0) {
                due(text + " with something behind it", performed(text + "w0.0=1;n0"), -100 - place);
            }
        }
    }

    /** Such a text ends too early. */
    private static void endsTooEarly(String text) {
        due("perform of " + text, performed(text), -100 - text.length());
    }

    /** Such a text is whole, and has so many orders. */
    private static void isWhole(String text, int orders) {
        due("perform of " + text, performed(text), orders);
    }

    private static Story full(String order, String last) {
        StringBuilder text = new StringBuilder();
        while (text.length() + order.length() + last.length() <= 60) {
            text.append(order);
        }
        text.append(last);
        due("length of " + text, text.length(), 60);
        return Story.rich().and(LocalMenders::clearText).typed(text.toString());
    }

    // ---- texts

    @Sentence(at = "TEXTS", says = "There is a text of at most 60 characters, empty at first.")
    static void emptyAtFirst() {
        LocalMenders x = new LocalMenders();
        due("length", x.total(11), 0);
        due("perform", x.perform(), -100);
        due("clearText", x.clearText(), 0);
        due("the first character", x.type('n'), 1);
    }

    @Sentence(at = "TEXTS", says = "There is a text of at most 60 characters, empty at first.")
    static void atMost60Characters() {
        LocalMenders x = new LocalMenders();
        for (int length = 1; length <= 60; length++) {
            due("type", x.type('w'), length);
        }
        due("the 61st", x.type('w'), FULL);
        due("length", x.total(11), 60);
    }

    @Sentence(at = "TEXTS", says = "It is a list of one or more orders with \";\" between two")
    static void fromOneOrderToAsManyAsHaveRoom() {
        isWhole("n0", 1);
        isWhole("n0;n0", 2);
        isWhole("n0;n0;n0;n0;n0;n0;n0;n0;n0;n0;n0;n0;n0;n0;n0;n0;n0;n0;n0;n0", 20);
        isWhole("w0.0=1;x0.1;n9;m0.1", 4);
    }

    @Sentence(at = "TEXTS", says = "It is a list of one or more orders with \";\" between two")
    static void semicolonsStandBetweenTwoOrdersAlone() {
        follows("", KINDS);
        follows("n0;", KINDS);
        follows("w0.5=1;x3.9;", KINDS);
        endsTooEarly("n0;");
        endsTooEarly("w0.5=15;");
        due("ahead of the first", performed(";n0"), -100);
        due("two of them", performed("n0;;n0"), -103);
        due("none", performed("n0n0"), -102);
        due("none behind two digits", performed("w0.5=15w0.5=15"), -107);
    }

    @Sentence(at = "TEXTS", says = "\"w\", a digit (stripe), \".\", a cell, \"=\" and a value (write)")
    static void eachPlaceOfWrite() {
        follows("w", DIGITS);
        follows("w0", ".");
        follows("w9", ".");
        follows("w0.", DIGITS);
        follows("w0.0", "=");
        follows("w0.1", DIGITS + "=");
        follows("w0.9", DIGITS + "=");
        follows("w0.12", "=");
        follows("w0.1=", DIGITS);
        follows("w0.12=", DIGITS);
        follows("w0.1=0", ";");
        follows("w0.1=1", DIGITS + ";");
        follows("w0.1=15", ";");
        for (String text : new String[] {"w", "w0", "w0.", "w0.1", "w0.12", "w0.1=", "w0.12="}) {
            endsTooEarly(text);
        }
        isWhole("w0.0=1", 1);
        isWhole("w3.5=15", 1);
    }

    @Sentence(at = "TEXTS", says = "\"x\", a digit (stripe), \".\", a cell (lose the cell)")
    static void eachPlaceOfLose() {
        eachPlaceOfAStripesCell("x");
        LocalMenders x = new LocalMenders();
        type(x, "x3.9");
        due("perform", x.perform(), 1);
        queueIs("the last cell", x, 309);
    }

    @Sentence(at = "TEXTS", says = "\"m\", a digit (stripe), \".\", a cell (mend)")
    static void eachPlaceOfMend() {
        eachPlaceOfAStripesCell("m");
        LocalMenders x = Story.fresh().losing(3, 9, 0).typed("m3.9").told();
        due("perform", x.perform(), 1);
        queueIs("the last cell is mended", x, 300);
    }

    private static void eachPlaceOfAStripesCell(String kind) {
        follows(kind, DIGITS);
        follows(kind + "0", ".");
        follows(kind + "9", ".");
        follows(kind + "0.", DIGITS);
        follows(kind + "0.0", ";");
        follows(kind + "0.1", DIGITS + ";");
        follows(kind + "0.9", DIGITS + ";");
        follows(kind + "0.12", ";");
        for (String rest : new String[] {"", "0", "0."}) {
            endsTooEarly(kind + rest);
        }
        isWhole(kind + "0.0", 1);
        isWhole(kind + "3.9", 1);
    }

    @Sentence(at = "TEXTS", says = "\"n\" and a node (lose the node)")
    static void eachPlaceOfLoseNode() {
        follows("n", DIGITS);
        follows("n0", ";");
        follows("n1", DIGITS + ";");
        follows("n9", DIGITS + ";");
        follows("n12", ";");
        endsTooEarly("n");
        isWhole("n0", 1);
        isWhole("n9", 1);
        LocalMenders x = Story.layout(3, 5, 1, 0).typed("n19").told();
        due("two digits", x.perform(), 1);
        due("the last node", x.lost(0), 1 << 19);
    }

    @Sentence(at = "TEXTS", says = "Cells, nodes and values are numbers of one or two digits")
    static void oneOrTwoDigitsButNotThree() {
        LocalMenders x = Story.layout(3, 5, 1, 0).typed("w0.14=15;w0.9=9;x0.19;n18;n1").told();
        due("perform", x.perform(), 5);
        due("lost", x.lost(0), 1 << 19 | 1 << 18 | 1 << 1);
        due("two digits", x.value(0, 14), 15);
        due("one digit", x.value(0, 9), 9);
        due("three of a written cell", performed("w0.100=1"), -105);
        due("three of a value", performed("w0.1=100"), -107);
        due("three of a lost cell", performed("x0.100"), -105);
        due("three of a node", performed("n100"), -103);
        due("three of a mended cell", performed("m0.100"), -105);
        due("the greatest of two", performed("n99"), UNKNOWN);
        due("the greatest of two", performed("w0.1=99"), OUT_OF_RANGE);
    }

    @Sentence(at = "TEXTS", says = "a digit (stripe)")
    static void aStripeIsOneDigit() {
        due("two of a write", performed("w00.1=1"), -102);
        due("two of a loss", performed("x10.1"), -102);
        due("two of a mending", performed("m10.1"), -102);
        due("the greatest one", performed("x9.1"), UNKNOWN);
        due("the least one", performed("x0.1"), 1);
        LocalMenders x = Story.layout(2, 3, 8, 1).typed("x7.1;x8.1").told();
        due("the first that is not there", x.perform(), UNKNOWN);
        due("the last that is there", Story.layout(2, 3, 8, 1).typed("x7.1").told().perform(), 1);
    }

    @Sentence(at = "TEXTS", says = "without zeros ahead of other digits")
    static void noZerosAheadOfOtherDigits() {
        due("a written cell", performed("w0.01=1"), -104);
        due("a written cell", performed("w0.00=1"), -104);
        due("a value", performed("w0.1=01"), -106);
        due("a value", performed("w0.1=00"), -106);
        due("a lost cell", performed("x0.05"), -104);
        due("a node", performed("n00"), -102);
        due("a node", performed("n09"), -102);
        due("a mended cell", performed("m0.05"), -104);
        isWhole("w0.0=0;x0.0;n0;m0.0", 4);
        LocalMenders x = Story.layout(3, 5, 1, 0).typed("w0.10=10;x0.10;n10;m0.10").told();
        due("zeros behind other digits", x.perform(), 4);
    }

    @Sentence(at = "TEXTS", says = "The fault of the text is the index, from 0, of the first character that is not allowed at its place")
    static void theFaultFromTheFirstToTheLastIndex() {
        due("the first character", performed("y"), -100);
        due("the first of several", performed("yyy"), -100);
        due("the last character", performed("n0;n1y"), -105);
        due("the first of two faults", performed("n0y;n1y"), -102);
        due("index 59", full("n0;", "n0y").told().perform(), -159);
        due("index 0 of 60", full("y", "").told().perform(), -100);
    }

    @Sentence(at = "TEXTS", says = "or the length of the text if it ends too early (the empty text does)")
    static void endsTooEarlyFromNoneTo60Characters() {
        endsTooEarly("");
        endsTooEarly("n");
        due("60 characters", full("n0;", "").told().perform(), -160);
        due("59 characters", performed("n0;n0;n0;n0;n0;n0;n0;n0;n0;n0;n0;n0;n0;n0;n0;n0;n0;n0;w0.0="), -159);
        due("cleared", Story.rich().and(LocalMenders::clearText).told().perform(), -100);
    }

    // ---- type

    @Sentence(at = "Promise 11", says = "Returns the length of the text then")
    static void p11FromTheFirstToThe60th() {
        LocalMenders x = new LocalMenders();
        for (int length = 1; length <= 60; length++) {
            due("type", x.type('n'), length);
            due("length", x.total(11), length);
        }
        x.clearText();
        due("from the start again", x.type('n'), 1);
    }

    @Sentence(at = "Promise 11", says = "FULL if it has 60 characters")
    static void p11TheFullText() {
        Story full = full("n0;", "n2y");
        full.refuses("type into a faulty text", x -> x.type('n'), FULL);
        Story whole = full("n0;", "n10");
        whole.refuses("type into a whole text", x -> x.type(';'), FULL);
        due("one less", Story.fresh().typed("n0;n0;n0;n0;n0;n0;n0;n0;n0;n0;n0;n0;n0;n0;n0;n0;n0;n0;n0;n0").told().type(';'), 60);
        due("full, but cleared", full.and(LocalMenders::clearText).told().type('n'), 1);
        LocalMenders x = Story.layout(3, 5, 1, 0).typed("n0;n0;n0;n0;n0;n0;n0;n0;n0;n0;n0;n0;n0;n0;n0;n0;n0;n0;n0;n10").told();
        due("the 61st", x.type('0'), FULL);
        due("is not there", x.perform(), 20);
        due("the 60th is", x.lost(0), 1 | 1 << 10);
    }

    @Sentence(at = "Promise 11", says = "`character`: any character")
    static void p11TheLeastAndTheGreatestCharacter() {
        for (int sign : new int[] {0, 1, 127, 128, 255, 256, 0xd800, 0xfffe, 0xffff}) {
            LocalMenders x = new LocalMenders();
            due("type", x.type((char) sign), 1);
            due("it counts", x.total(11), 1);
            due("but is no order", x.perform(), -100);
        }
    }

    @Sentence(at = "Promise 11", says = "Appends a character to the text.")
    static void p11AppendsBehindTheLastOne() {
        LocalMenders x = new LocalMenders();
        type(x, "n");
        due("ends too early", x.perform(), -101);
        type(x, "1");
        due("one digit", x.perform(), 1);
        type(x, "0");
        due("two digits", x.perform(), UNKNOWN);
        type(x, "0");
        due("three digits", x.perform(), -103);
    }

    @Sentence(at = "Promise 11", says = "Appends a character to the text.")
    static void p11IsNoChange() {
        Story rich = Story.rich();
        same("state", rich.and(x -> x.type(';')).state(), rich.state());
        due("history", rich.and(x -> x.type(';')).told().total(10), 4);
        same("undo", rich.and(x -> x.type(';')).back(1).state(), rich.back(1).state());
        due("a new object's history", Story.fresh().and(x -> x.type(';')).told().total(10), 0);
    }

    // ---- clearText

    @Sentence(at = "Promise 12", says = "Returns the length that it had.")
    static void p12FromTheEmptyToTheFullText() {
        Story.fresh().leaves("empty", LocalMenders::clearText, 0);
        due("one", Story.fresh().typed("n").told().clearText(), 1);
        due("full", full("n0;", "n0;").told().clearText(), 60);
        due("full, and one refused", full("n0;", "n0;").typed("n").told().clearText(), 60);
        Story.rich().and(LocalMenders::clearText).leaves("cleared already", LocalMenders::clearText, 0);
    }

    @Sentence(at = "Promise 12", says = "Empties the text.")
    static void p12EmptiesTheTextAndNothingElse() {
        Story rich = Story.rich();
        Story cleared = rich.and(LocalMenders::clearText);
        due("length", cleared.told().total(11), 0);
        due("perform", cleared.told().perform(), -100);
        same("state", cleared.state(), rich.state());
        due("history", cleared.told().total(10), 4);
        same("undo", cleared.back(1).state(), rich.back(1).state());
        due("undo does not bring it back", cleared.back(1).told().total(11), 0);
        LocalMenders x = cleared.typed("n9").told();
        due("nothing of it is left", x.perform(), 1);
        due("but what is typed then", x.total(11), 2);
    }

    // ---- perform

    @Sentence(at = "Promise 13", says = "Returns how many orders the text has")
    static void p13TheFewestAndTheMostOrders() {
        Story.rich().and(LocalMenders::clearText).typed("n8").changes("one", LocalMenders::perform, 1);
        full("n0;", "x3.9;x2.1").changes("nineteen", LocalMenders::perform, 19);
        Story.layout(3, 5, 1, 0).typed("n0;n0;n0;n0;n0;n0;n0;n0;n0;n0;n0;n0;n0;n0;n0;n0;n0;n0;n0;n10").changes("twenty", LocalMenders::perform, 20);
    }

    @Sentence(at = "Promise 13", says = "-100 minus the fault of the text if it has one (this is an error)")
    static void p13AFaultChangesNothing() {
        Story.rich().and(LocalMenders::clearText).refuses("the empty text", LocalMenders::perform, -100);
        Story.fresh().refuses("a new object", LocalMenders::perform, -100);
        Story.rich().typed(";").refuses("ends too early", LocalMenders::perform, -112);
        Story.rich().typed(";n0;n1 ").refuses("behind four good orders", LocalMenders::perform, -117);
        full("n0;", "").refuses("60 characters", LocalMenders::perform, -160);
    }

    @Sentence(at = "Promise 13", says = {"-100 minus the fault of the text if it has one (this is an error)", "otherwise the error of the first order that returns one"})
    static void p13AFaultComesBeforeTheErrorsOfOrders() {
        Story.fresh().typed("n99;x9.9;").refuses("ahead of it", LocalMenders::perform, -109);
        Story.fresh().typed("w0.0=16;n").refuses("ahead of it", LocalMenders::perform, -109);
    }

    @Sentence(at = "Promise 13", says = "all of them, or none if one of them returns an error")
    static void p13NoneIfTheFirstOrTheLastReturnsAnError() {
        Story cleared = Story.rich().and(LocalMenders::clearText);
        cleared.typed("n10;w1.0=1;x1.1").refuses("the first", LocalMenders::perform, UNKNOWN);
        cleared.typed("w1.0=1;m0.9;n0;x1.6;n10").refuses("the last", LocalMenders::perform, UNKNOWN);
        cleared.typed("w1.0=1;n10;x1.1").refuses("the middle", LocalMenders::perform, UNKNOWN);
        cleared.typed("w1.0=1;m0.9;n0;x1.6;n9").changes("none", LocalMenders::perform, 5);
    }

    @Sentence(at = "Promise 13", says = "otherwise the error of the first order that returns one")
    static void p13TheFirstOfSeveralErrors() {
        Story cleared = Story.rich().and(LocalMenders::clearText);
        cleared.typed("w1.0=16;n99").refuses("two", LocalMenders::perform, OUT_OF_RANGE);
        cleared.typed("n99;w1.0=16").refuses("two", LocalMenders::perform, UNKNOWN);
        cleared.typed("w1.0=0;w2.0=1;n99").refuses("behind NONE", LocalMenders::perform, NOT_POSSIBLE);
    }

    @Sentence(at = "Promise 13", says = "otherwise the error of the first order that returns one")
    static void p13EachErrorOfEachOrder() {
        String[] texts = {"w4.0=1", "w9.0=1", "w1.6=1", "w1.9=1", "w1.10=1", "w1.99=99", "w1.0=16", "w1.0=99", "w2.0=16", "w2.0=1", "w2.0=0",
            "x4.0", "x9.0", "x1.10", "x1.99", "n10", "n99", "m4.0", "m9.0", "m1.10", "m1.99", "x1.0;x1.1;x1.2;x1.6;m1.0"};
        int[] errors = {UNKNOWN, UNKNOWN, UNKNOWN, UNKNOWN, UNKNOWN, UNKNOWN, OUT_OF_RANGE, OUT_OF_RANGE, OUT_OF_RANGE, NOT_POSSIBLE, NOT_POSSIBLE,
            UNKNOWN, UNKNOWN, UNKNOWN, UNKNOWN, UNKNOWN, UNKNOWN, UNKNOWN, UNKNOWN, UNKNOWN, UNKNOWN, NOT_POSSIBLE};
        for (int k = 0; k < texts.length; k++) {
            Story.rich().and(LocalMenders::clearText).typed(texts[k]).refuses(texts[k], LocalMenders::perform, errors[k]);
        }
    }

    @Sentence(at = "Promise 13", says = "Carries out the orders of the text, which stays, one after the other")
    static void p13EachOrderSeesWhatTheOnesBeforeItDid() {
        LocalMenders x = new LocalMenders();
        type(x, "w0.0=7;x0.0;m0.0;w0.0=8");
        due("write behind mend", x.perform(), 4);
        cellsAre("the last write", x, 0, 8, 0, 0, 0, 0, 0, 8, 0, 8, 8);
        due("reads", x.total(6), 3);
        due("the text stays", x.total(11), 23);
        due("performed again", x.perform(), 4);
        due("reads", x.total(6), 6);
        LocalMenders y = new LocalMenders();
        type(y, "x0.0;w0.1=7");
        due("write behind lose", y.perform(), NOT_POSSIBLE);
        LocalMenders z = new LocalMenders();
        type(z, "x0.1;n0;x3.9");
        z.perform();
        queueIs("in their order", z, 1, 0, 109, 208, 307, 309);
    }

    @Sentence(at = "Promise 13", says = "(An order that returns NONE does nothing, and is no error.)")
    static void p13OrdersThatReturnNone() {
        Story cleared = Story.rich().and(LocalMenders::clearText);
        LocalMenders x = cleared.typed("w1.0=0;x2.7;m1.0;x1.0").told();
        due("all kinds, and one that loses", x.perform(), 4);
        queueIs("the one", x, 207, 203, 9, 100);
        due("lost so far", x.total(9), 6);
        LocalMenders y = cleared.typed("n9;n9").told();
        due("a node twice", y.perform(), 2);
        queueIs("once", y, 207, 203, 9, 108, 306);
    }

    @Sentence(at = "Promise 13", says = "This is one change (also if each order returns NONE).")
    static void p13IsOneChangeAlsoIfNothingIsDone() {
        Story cleared = Story.rich().and(LocalMenders::clearText);
        cleared.typed("w1.0=0;x2.7;m1.0").changes("each returns NONE", LocalMenders::perform, 3);
        Story.fresh().typed("m0.0").changes("a single one", LocalMenders::perform, 1);
        cleared.typed("w1.0=1;x2.0;m2.0;n1").changes("each does something", LocalMenders::perform, 4);
        Story.fresh().typed("w0.0=1;w0.0=0").changes("back to where it was", LocalMenders::perform, 2);
    }
}
