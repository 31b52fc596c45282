/-! THE ABSTRACT HEAP: cell i of the list h lies at the address base + i; '.ref i' in h, in locals and on stacks means that cell. Three cells that were there before are named by BIGN, BIGN + 1, BIGN + 2 (POWERS, INVERSES, the script). -/
abbrev AEnv : Type := Nat × va_G × (Nat → ClassId) × (Nat → Nat) × (Nat × (Nat → Int32))
def EB (E : AEnv) : Nat := E.1
def ED (E : AEnv) : va_G := E.2.1
def ETc (E : AEnv) : Nat → ClassId := E.2.2.1
def ESp (E : AEnv) : Nat → Nat := E.2.2.2.1
def ESc (E : AEnv) : Nat × (Nat → Int32) := E.2.2.2.2
def BIGN : Nat := 1000000
def aR (E : AEnv) (k : Nat) : Nat := if k < BIGN then EB E + k else ESp E (k - BIGN)
def cV (E : AEnv) (v : Value) : Value := match v with
  | .ref k => .ref (aR E k)
  | w => w
def cAr (E : AEnv) (x : vp_A) : vp_A := match x with
  | (n, .inr (.inr (.inr (.inr f)))) => (n, .inr (.inr (.inr (.inr (fun j => (f j).map (aR E))))))
  | y => y
def cE (E : AEnv) (e : va_E) : va_E := match e with
  | .inl (t, x) => .inl (ETc E t, cAr E x)
  | .inr (ci, fs) => .inr (ci, fs.map (cV E))
def cW (E : AEnv) (h : List va_E) : va_W := h.mapIdx (fun i e => (EB E + i, cE E e))
def AA (E : AEnv) : Nat → Prop := fun q => EB E ≤ q
def tysE (E : AEnv) : List (ClassId × FieldType) := [(ETc E 0, .int), (ETc E 1, .char), (ETc E 2, .object RX4)]
def Inv (E : AEnv) (h : List va_E) (H : Heap) : Prop := h.length ≤ BIGN ∧ H.size = EB E + h.length ∧ va_P (ED E) vwCl (cW E h) H
def POWf : Nat → Int32 := fun j => ([1, 2, 4, 8, 3, 6, 12, 11, 5, 10, 7, 14, 15, 13, 9] : List Int32).getD j 0
def INVf : Nat → Int32 := fun j => ([0, 1, 9, 14, 13, 11, 7, 6, 15, 2, 12, 5, 10, 4, 3, 8] : List Int32).getD j 0
def isNestW (w : Cond) : Bool := match w with
  | .methodLinkNest _ _ _ _ => true
  | .fieldLinkNest _ _ _ _ _ _ => true
  | _ => false
/-- the nest words of the tables, and all other words that stay -/
def NW : List Cond := tables_1.filter isNestW
def BW : List Cond := lw_tbl.filter goodWord
def EnvOK (E : AEnv) (s : State) : Prop :=
  va_K (ED E) vwCl (tysE E) s ∧ (∀ w ∈ NW, va_Nw w s) ∧ va_AO RX4 s ∧ EB E ≤ s.heap.size ∧
  va_T .int (ESp E 0) 15 (fun j => .int (POWf j)) (AA E) s s.heap ∧ va_T .int (ESp E 1) 16 (fun j => .int (INVf j)) (AA E) s s.heap ∧
  va_T .int (ESp E 2) (ESc E).1 (fun j => .int ((ESc E).2 j)) (AA E) s s.heap ∧
  va_Z "LocalMenders" "POWERS" "[I" (.ref (ESp E 0)) (AA E) s s.heap ∧ va_Z "LocalMenders" "INVERSES" "[I" (.ref (ESp E 1)) (AA E) s s.heap
theorem cW_get {E : AEnv} {h : List va_E} {a : Nat} {e : va_E} (hg : h[a]? = some e) : (cW E h)[a]? = some (EB E + a, cE E e) := by
  unfold cW
  rw [List.getElem?_mapIdx, hg]
  rfl
theorem cW_inv {E : AEnv} {h : List va_E} {a : Nat} {q : Nat × va_E} (hg : (cW E h)[a]? = some q) : q.1 = EB E + a ∧ ∃ e, h[a]? = some e ∧ q.2 = cE E e := by
  unfold cW at hg
  rw [List.getElem?_mapIdx] at hg
  cases he : h[a]? with
  | none => rw [he] at hg; cases hg
  | some e =>
    rw [he] at hg
    cases hg
    exact ⟨rfl, e, rfl, rfl⟩
theorem cW_set {E : AEnv} {h : List va_E} {a : Nat} {e : va_E} : (cW E h).set a (EB E + a, cE E e) = cW E (h.set a e) := by
  apply List.ext_getElem?
  intro i
  unfold cW
  rw [List.getElem?_mapIdx, List.getElem?_set, List.getElem?_set, List.getElem?_mapIdx, List.length_mapIdx]
  by_cases hi : a = i
  · subst hi
    by_cases hl : a < h.length
    · simp [hl]
    · simp [hl]
  · simp [hi]
theorem cW_app {E : AEnv} {h : List va_E} {e : va_E} : cW E h ++ [(EB E + h.length, cE E e)] = cW E (h ++ [e]) := by
  unfold cW
  rw [List.mapIdx_append]
  simp
theorem cW_D {E : AEnv} {h : List va_E} : va_D (AA E) (cW E h) := by
  refine ⟨fun i j p q hi hj he => ?_, fun k q hk => ?_⟩
  · have h1 := (cW_inv hi).1
    have h2 := (cW_inv hj).1
    omega
  · have h1 := (cW_inv hk).1
    show EB E ≤ q.1
    omega
theorem aR_lo {E : AEnv} {h : List va_E} {H : Heap} (hI : Inv E h H) {a : Nat} {e : va_E} (hg : h[a]? = some e) : aR E a = EB E + a := by
  have h1 := (List.getElem?_eq_some_iff.mp hg).1
  have h2 := hI.1
  unfold aR
  rw [if_pos (by omega)]
theorem cV_int {E : AEnv} {x : Int32} : cV E (.int x) = .int x := rfl
theorem cV_ref {E : AEnv} {a : Nat} : cV E (.ref a) = .ref (aR E a) := rfl
theorem cV_cat {E : AEnv} (v : Value) : (cV E v).category = v.category := by cases v <;> rfl
theorem cV_sum {E : AEnv} (vs : List Value) : ((vs.map (cV E)).map fun v => v.category).sum = (vs.map fun v => v.category).sum := by
  induction vs with
  | nil => rfl
  | cons v vs ih => simp only [List.map_cons, List.sum_cons, ih, cV_cat]
theorem EnvOK.next {E : AEnv} {s U : State} {locs : List Loc} (h : EnvOK E s) (hW : s.WarmedH U.vm) (hS : va_S (AA E) s.heap U.heap locs) : EnvOK E U := by
  obtain ⟨h1, h2, h3, h4, h5, h6, h7, h8, h9⟩ := h
  have hq : ∀ a : Nat, a < s.heap.size → ¬ AA E a → U.heap[a]? = s.heap[a]? := hS.2.1
  refine ⟨h1.moved hW.alike, fun w hw => ?_, h3.moved hW.alike, Nat.le_trans h4 hS.1, (h5.moved hW.alike).kept hq, (h6.moved hW.alike).kept hq, (h7.moved hW.alike).kept hq, (h8.moved hW.alike).kept hq, (h9.moved hW.alike).kept hq⟩
  have hn : isNestW w = true := (List.mem_filter.mp hw).2
  have hz := h2 w hw
  cases w <;> first | exact hz.warmM hW | exact hz.warmF hW | (simp [isNestW] at hn)
theorem EnvOK.calling {E : AEnv} {U : State} {g : JFrame} {mk : MethodId} {a : Array Value} (h : EnvOK E U) : EnvOK E (U.calling g mk a) := by
  obtain ⟨h1, h2, h3, h4, h5, h6, h7, h8, h9⟩ := h
  have hA : U.vm.Alike (U.calling g mk a).vm := Vm.Alike.refl U.vm
  refine ⟨h1.moved hA, fun w hw => ?_, h3.moved hA, h4, h5.moved hA, h6.moved hA, h7.moved hA, h8.moved hA, h9.moved hA⟩
  have hn : isNestW w = true := (List.mem_filter.mp hw).2
  have hz := h2 w hw
  cases w <;> first | exact va_Nw.same rfl (rfl : U.vm = (U.calling g mk a).vm) hz | (simp [isNestW] at hn)
/-! THE INSTRUCTIONS OF A METHOD, AND ITS CONTRACT -/
abbrev MI : Type := MethodName × ByteArray × Nat × Option FieldType
def wsM (Y : MI) : List Cond := Cond.code Y.1 Y.2.1 Y.2.2.1 Y.2.2.2 :: BW
def rmM (d k n : Nat) : Room := { frames := d, cells := k, slots := n, locals := 36 * d + 20 }
/-- a method's end: an answer and a heap of which Ψ holds -/
abbrev Pst : Type := Option Value → List va_E → Prop
def QR (E : AEnv) (Ψ : Pst) : Array Value → State → Outcome → State → Prop := fun _ st o t => ∃ (r : Option Value) (h' : List va_E), Ψ r h' ∧ o = .returned (r.map (cV E)) ∧ Inv E h' t.heap ∧ va_F (AA E) st t
/-- method Y, at depth d, called with args in the heap h, comes back with an answer and a heap of which Ψ holds; it makes at most k cells of n slots -/
def Calls (E : AEnv) (Y : MI) (d k n : Nat) (args : List Value) (h : List va_E) (Ψ : Pst) : Prop :=
  ∀ l : Launch, Met l Y.1 (wsM Y) (rmM d k n) (va_Pc (args.map (cV E)) (fun U => Inv E h U.heap ∧ EnvOK E U)) (QR E Ψ) k n (AA E)
def RetOK (Y : MI) (r : Option Value) : Prop := (r = none ∧ Y.2.2.2 = none) ∨ (∃ (x : Int32) (ty : FieldType), r = some (.int x) ∧ Y.2.2.2 = some ty ∧ narrow ty (.int x) = .int x) ∨ ∃ x : Int64, r = some (.long x) ∧ Y.2.2.2 = some .long
/-- the instruction that ends with it -/
def retI (r : Option Value) : Instr := match r with
  | none => .return_
  | some (.long _) => .lreturn
  | some _ => .ireturn
def Ctx (E : AEnv) (Y : MI) (d : Nat) (p : Program) (R : Room) (s : State) (m : MethodId) (args : Array Value) (meth : Method) (c : Code) : Prop :=
  p.tables.exec = Jvm.exec ∧ c.code = Y.2.1 ∧ c.maxLocals = Y.2.2.1 ∧ s.vm.findClass Y.1.cls = some m.cls ∧ (∀ w ∈ BW, w.before args s = true) ∧ EnvOK E s ∧ d ≤ R.frames ∧ 36 * d + 20 ≤ R.locals ∧ meth.name = Y.1.name
def LV (E : AEnv) (nL : Nat) (ls : List (Option Value)) (lsA : Array Slot) : Prop := lsA.size = nL ∧ lv_wf lsA ∧ ls.length ≤ nL ∧ ∀ (i : Nat) (v : Value), ls[i]? = some (some v) → v.category = 1 ∨ ls[i + 1]? = some none → lsA[i]? = some (.val (cV E v))
def RetH (E : AEnv) (Y : MI) (p : Program) (l : Launch) (e : Env) (R : Room) (s : State) (m : MethodId) (args : Array Value) (below : List Frame) (meth : Method) (c : Code) (Q : State → Prop) (Ψ : Pst) : Prop :=
  ∀ (r : Option Value) (h' : List va_E) (H : Heap) (locs : List Loc) (cells slots : Nat) (lsA : Array Slot) (pc : Nat), Ψ r h' → RetOK Y r → Inv E h' H → va_S (AA E) s.heap H locs → cells ≤ R.cells → slots ≤ R.slots → decode Y.2.1 pc = .ok (retI r, 1) →
    W p l e R s m args below meth c H locs cells slots Q (F0 m pc lsA (r.toList.map (cV E)))
/-- in method Y, at pc, with the locals ls, the stack st, the heap h: it comes to its end with an answer and a heap of which Ψ holds -/
def Go (E : AEnv) (Y : MI) (d k n pc : Nat) (ls : List (Option Value)) (st : List Value) (h : List va_E) (Ψ : Pst) : Prop :=
  ∀ (p : Program) (l : Launch) (e : Env) (R : Room) (s : State) (m : MethodId) (args : Array Value) (below : List Frame) (meth : Method) (c : Code) (Q : State → Prop),
    Ctx E Y d p R s m args meth c → RetH E Y p l e R s m args below meth c Q Ψ →
    ∀ (H : Heap) (locs : List Loc) (cells slots : Nat) (lsA : Array Slot), Inv E h H → va_S (AA E) s.heap H locs → cells + k ≤ R.cells → slots + n ≤ R.slots → LV E Y.2.2.1 ls lsA →
    W p l e R s m args below meth c H locs cells slots Q (F0 m pc lsA (st.map (cV E)))
def ilen (i : Instr) : Nat := match i with
  | .bipush _ => 2 | .sipush _ => 3 | .ldc _ => 2 | .ldc_w _ => 3 | .iload _ => 2 | .aload _ => 2 | .istore _ => 2 | .astore _ => 2 | .iinc _ _ => 3
  | .newarray _ => 2 | .anewarray _ => 3 | .new _ => 3 | .getfield _ => 3 | .putfield _ => 3 | .getstatic _ => 3 | .invokevirtual _ => 3 | .invokestatic _ => 3 | .invokespecial _ => 3
  | .ldc2_w _ => 3 | .lload _ => 2 | .lstore _ => 2 | .goto _ => 3 | .if_icmp _ _ => 3 | .ifCond _ _ => 3 | .ifnull _ => 3 | .ifnonnull _ => 3 | .tableswitch _ _ _ _ => 0 | .lookupswitch _ _ => 0
  | _ => 1
def Dc (Y : MI) (pc : Nat) (i : Instr) (pc' : Nat) : Prop := decode Y.2.1 pc = .ok (i, pc' - pc) ∧ (ilen i = 0 ∨ pc' = pc + ilen i)
theorem Dc.is {Y : MI} {pc pc' n : Nat} {i : Instr} (h : Dc Y pc i pc') (hn : ilen i = n + 1) : pc' = pc + (n + 1) ∧ decode Y.2.1 pc = .ok (i, n + 1) := by
  obtain ⟨h1, h2⟩ := h
  have h3 : pc' = pc + (n + 1) := by rcases h2 with h2 | h2 <;> omega
  refine ⟨h3, ?_⟩
  rw [h1, h3, Nat.add_sub_cancel_left]
def DAll (Y : MI) (L : List (Nat × Instr × Nat)) : Prop := ∀ q ∈ L, Dc Y q.1 q.2.1 q.2.2
def dchk (Y : MI) (L : List (Nat × Instr × Nat)) : Bool := L.all fun q => decide (decode Y.2.1 q.1 = .ok (q.2.1, q.2.2 - q.1)) && (ilen q.2.1 == 0 || q.2.2 == q.1 + ilen q.2.1)
theorem DAll.of {Y : MI} {L : List (Nat × Instr × Nat)} (h : dchk Y L = true) : DAll Y L := by
  intro q hq
  have h1 := List.all_eq_true.mp h q hq
  simp only [Bool.and_eq_true, Bool.or_eq_true, beq_iff_eq, decide_eq_true_eq] at h1
  exact ⟨h1.1, h1.2⟩
theorem DAll.at {Y : MI} {L : List (Nat × Instr × Nat)} (h : DAll Y L) (i : Nat) {pc pc' : Nat} {ins : Instr} (e : L[i]? = some (pc, ins, pc')) : Dc Y pc ins pc' := h (pc, ins, pc') (List.mem_of_getElem? e)
/-! words of the tables by their places -/
theorem BW_mem {w : Cond} (h : w ∈ lw_tbl) (hg : goodWord w = true) : w ∈ BW := List.mem_filter.mpr ⟨h, hg⟩
theorem BW_good : ∀ w ∈ BW, goodWord w = true := fun _ h => (List.mem_filter.mp h).2
theorem goodIn_BW {Y : MI} (hc : Cond.code Y.1 Y.2.1 Y.2.2.1 Y.2.2.2 ∈ BW) : GoodIn BW (wsM Y) := by
  intro w hw
  rcases List.mem_cons.mp hw with rfl | hw
  · exact ⟨hc, good_of_word (BW_good _ hc)⟩
  · exact ⟨hw, good_of_word (BW_good _ hw)⟩
theorem FB_ok {E : AEnv} {args : List Value} {h : List va_E} : FrameBlind (va_Pc (args.map (cV E)) (fun U => Inv E h U.heap ∧ EnvOK E U)) := by
  intro a U g mk hq
  obtain ⟨h1, h2, h3⟩ := hq
  exact ⟨h1, h2, h3.calling⟩
