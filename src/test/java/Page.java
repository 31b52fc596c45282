import java.io.IOException;
import java.nio.file.Files;
import java.nio.file.Path;
import java.util.ArrayList;
import java.util.List;

/** The lines of a page such as README.md and ../shared/DOC.md, and what stands in them. It is read from the project's folder. */
record Page(List<String> lines) {
    static Page readme() throws IOException {
        return new Page(Files.readAllLines(Path.of("README.md")));
    }

    static Page document() throws IOException {
        return new Page(Files.readAllLines(Path.of("../shared/DOC.md")));
    }

    boolean isEmpty() {
        return lines.stream().allMatch(String::isBlank);
    }

    String inOneLine() {
        return String.join(" ", lines).replaceAll("\\s+", " ");
    }

    /** The lines below a headline, down to the next one that is as high. */
    Page below(String headline) {
        int start = lines.indexOf(headline);
        if (start < 0) {
            return new Page(List.of());
        }
        String mark = headline.substring(0, headline.indexOf(' ') + 1);
        int end = start + 1;
        while (end < lines.size() && !lines.get(end).startsWith(mark)) {
            end++;
        }
        return new Page(lines.subList(start + 1, end));
    }

    List<String> startingWith(String... starts) {
        return lines.stream().filter(line -> List.of(starts).stream().anyMatch(line::startsWith)).toList();
    }

    /** Each piece of code in a language. */
    List<List<String>> code(String language) {
        List<List<String>> pieces = new ArrayList<>();
        List<String> piece = null;
        for (String line : lines) {
            if (line.startsWith("```")) {
                piece = piece == null ? new ArrayList<>() : null;
                if (line.equals("```" + language)) {
                    pieces.add(piece);
                }
            } else if (piece != null) {
                piece.add(line);
            }
        }
        return pieces;
    }

    /** Each quote, in one line. */
    List<String> quotes() {
        List<String> quotes = new ArrayList<>();
        String quote = "";
        for (String line : lines) {
            if (line.startsWith("> ")) {
                quote = (quote + " " + line.substring(2)).strip();
            } else if (!quote.isEmpty()) {
                quotes.add(quote);
                quote = "";
            }
        }
        if (!quote.isEmpty()) {
            quotes.add(quote);
        }
        return quotes;
    }
}
