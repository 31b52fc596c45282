/-! THE CLASS: now, before, the snapshot and the history, whatever a state means -/
abbrev RP : Type := Rows → Prop
/-- a meaning looks only at what lies in the rows -/
def RC (N : RP) : Prop := ∀ σ σ', REq σ' σ → N σ → N σ'
def StP (h : List va_E) (b : Nat) (N : RP) : Prop := ∃ σ, StAt h b σ ∧ N σ
def HsP (h : List va_E) (b n : Nat) (Hs : Nat → RP) : Prop := ∃ (F : Nat → Option Nat) (p : Nat → Nat), h[b + 19]? = some (hsA F) ∧ (∀ i, i < 4 → p i < 4 ∧ F i = some (b + 28 + 6 * p i)) ∧ (∀ i j, i < 4 → j < 4 → p i = p j → i = j) ∧ (∀ q, q < 4 → ∃ σ, StAt h (b + 28 + 6 * q) σ) ∧ ∀ i, i < n → StP h (b + 28 + 6 * p i) (Hs i)
def Frm (G : Nat → Option va_E) (b : Nat) (h : List va_E) : Prop := ∀ i, (i < b ∨ b + 52 ≤ i) → h[i]? = G i
theorem Frm.up {G : Nat → Option va_E} {b lo hi : Nat} {h h1 : List va_E} (f : Frm G b h) (u : Only lo hi h h1) (h1' : b ≤ lo) (h2 : hi ≤ b + 52) : Frm G b h1 := fun i hi => (u.2 i (by omega)).trans (f i hi)
/-- the object at b: now N, before B, the snapshot S, n states of history, taken or not, the text -/
def ClAt (G : Nat → Option va_E) (h : List va_E) (b : Nat) (N B S : RP) (n : Nat) (Hs : Nat → RP) (tk : Nat) (o X : Nat → Int32) : Prop := h[b]? = some (clO b (nI n) (nI tk)) ∧ n ≤ 4 ∧ StP h (b + 1) N ∧ StP h (b + 7) B ∧ StP h (b + 13) S ∧ HsP h b n Hs ∧ OrAt h (b + 20) o X ∧ (∃ s u, PlIs h (b + 22) s u) ∧ Frm G b h ∧ ∃ w fd l rf, SeIs h (b + 26) w fd l rf
theorem StP.keep {h h1 : List va_E} {b lo hi : Nat} {N : RP} (q : StP h b N) (hO : Only lo hi h h1) (hd : b + 6 ≤ lo ∨ hi ≤ b) : StP h1 b N := by
  obtain ⟨σ, s, w⟩ := q
  exact ⟨σ, s.keep hO hd, w⟩
theorem HsP.keep {h h1 : List va_E} {b n lo hi : Nat} {Hs : Nat → RP} (q : HsP h b n Hs) (hO : Only lo hi h h1) (hn : n ≤ 4) (hd : hi ≤ b + 19 ∨ (b + 20 ≤ lo ∧ hi ≤ b + 28)) : HsP h1 b n Hs := by
  obtain ⟨F, p, h1, h2, h3, h4, h5⟩ := q
  refine ⟨F, p, hO.at (by omega) h1, h2, h3, fun q hq => ?_, fun i hi => (h5 i hi).keep hO (by omega)⟩
  obtain ⟨σ, s⟩ := h4 q hq
  exact ⟨σ, s.keep hO (by omega)⟩
section CL
variable {E : AEnv} {d : Nat} {h h' : List va_E} {b : Nat} {N B S : RP} {n : Nat} {Hs : Nat → RP} {tk : Nat} {o X : Nat → Int32} {G : Nat → Option va_E}
theorem ClAt.toNow {M : RP} {σ' : Rows} (q : ClAt G h b N B S n Hs tk o X) (u : StU h (b + 1) σ' h') (hM : M σ') : ClAt G h' b M B S n Hs tk o X := by
  obtain ⟨q0, qn, q1, q2, q3, q4, q5, ⟨s, t, q6⟩, fr, w, fd, l, rf, q7⟩ := q
  exact ⟨u.2.at (by omega) q0, qn, ⟨σ', u.1, hM⟩, q2.keep u.2 (by omega), q3.keep u.2 (by omega), q4.keep u.2 qn (by omega), q5.keep u.2 (by omega), ⟨s, t, q6.keep u.2 (by omega)⟩, fr.up u.2 (by omega) (by omega), w, fd, l, rf, q7.keep u.2 (by omega)⟩
theorem ClAt.toBefore {M : RP} {σ' : Rows} (q : ClAt G h b N B S n Hs tk o X) (u : StU h (b + 7) σ' h') (hM : M σ') : ClAt G h' b N M S n Hs tk o X := by
  obtain ⟨q0, qn, q1, q2, q3, q4, q5, ⟨s, t, q6⟩, fr, w, fd, l, rf, q7⟩ := q
  exact ⟨u.2.at (by omega) q0, qn, q1.keep u.2 (by omega), ⟨σ', u.1, hM⟩, q3.keep u.2 (by omega), q4.keep u.2 qn (by omega), q5.keep u.2 (by omega), ⟨s, t, q6.keep u.2 (by omega)⟩, fr.up u.2 (by omega) (by omega), w, fd, l, rf, q7.keep u.2 (by omega)⟩
theorem ClAt.toSnap {M : RP} {σ' : Rows} (q : ClAt G h b N B S n Hs tk o X) (u : StU h (b + 13) σ' h') (hM : M σ') : ClAt G h' b N B M n Hs tk o X := by
  obtain ⟨q0, qn, q1, q2, q3, q4, q5, ⟨s, t, q6⟩, fr, w, fd, l, rf, q7⟩ := q
  exact ⟨u.2.at (by omega) q0, qn, q1.keep u.2 (by omega), q2.keep u.2 (by omega), ⟨σ', u.1, hM⟩, q4.keep u.2 qn (by omega), q5.keep u.2 (by omega), ⟨s, t, q6.keep u.2 (by omega)⟩, fr.up u.2 (by omega) (by omega), w, fd, l, rf, q7.keep u.2 (by omega)⟩
theorem ClAt.toText {o' X' : Nat → Int32} (q : ClAt G h b N B S n Hs tk o X) (u : OrU h (b + 20) o' X' h') : ClAt G h' b N B S n Hs tk o' X' := by
  obtain ⟨q0, qn, q1, q2, q3, q4, q5, ⟨s, t, q6⟩, fr, w, fd, l, rf, q7⟩ := q
  exact ⟨u.2.at (by omega) q0, qn, q1.keep u.2 (by omega), q2.keep u.2 (by omega), q3.keep u.2 (by omega), q4.keep u.2 qn (by omega), u.1, ⟨s, t, q6.keep u.2 (by omega)⟩, fr.up u.2 (by omega) (by omega), w, fd, l, rf, q7.keep u.2 (by omega)⟩
theorem ClAt.toPlan {s' t' : Int32} (q : ClAt G h b N B S n Hs tk o X) (u : PlIs h' (b + 22) s' t' ∧ Only (b + 22) (b + 26) h h') : ClAt G h' b N B S n Hs tk o X := by
  obtain ⟨q0, qn, q1, q2, q3, q4, q5, -, fr, w, fd, l, rf, q7⟩ := q
  exact ⟨u.2.at (by omega) q0, qn, q1.keep u.2 (by omega), q2.keep u.2 (by omega), q3.keep u.2 (by omega), q4.keep u.2 qn (by omega), q5.keep u.2 (by omega), ⟨s', t', u.1⟩, fr.up u.2 (by omega) (by omega), w, fd, l, rf, q7.keep u.2 (by omega)⟩
theorem ClAt.toSearch {w' fd' l' : Nat} {rf' : Nat → Int32} (q : ClAt G h b N B S n Hs tk o X) (u : SeIs h' (b + 26) w' fd' l' rf' ∧ Only (b + 26) (b + 28) h h') : ClAt G h' b N B S n Hs tk o X := by
  obtain ⟨q0, qn, q1, q2, q3, q4, q5, ⟨s, t, q6⟩, fr, -⟩ := q
  exact ⟨u.2.at (by omega) q0, qn, q1.keep u.2 (by omega), q2.keep u.2 (by omega), q3.keep u.2 (by omega), q4.keep u.2 qn (by omega), q5.keep u.2 (by omega), ⟨s, t, q6.keep u.2 (by omega)⟩, fr.up u.2 (by omega) (by omega), w', fd', l', rf', u.1⟩
theorem ClAt.toObj {n' tk' : Nat} (q : ClAt G h b N B S n Hs tk o X) (hn' : n' ≤ 4) (hh : HsP h b n Hs → HsP (h.set b (clO b (nI n') (nI tk'))) b n Hs → HsP (h.set b (clO b (nI n') (nI tk'))) b n' Hs) : ClAt G (h.set b (clO b (nI n') (nI tk'))) b N B S n' Hs tk' o X := by
  obtain ⟨q0, qn, q1, q2, q3, q4, q5, ⟨s, t, q6⟩, fr, w, fd, l, rf, q7⟩ := q
  have u : Only b (b + 1) h (h.set b (clO b (nI n') (nI tk'))) := Only.set (by omega) (by omega)
  exact ⟨get_set q0, hn', q1.keep u (by omega), q2.keep u (by omega), q3.keep u (by omega), hh q4 (q4.keep u qn (by omega)), q5.keep u (by omega), ⟨s, t, q6.keep u (by omega)⟩, fr.up u (by omega) (by omega), w, fd, l, rf, q7.keep u (by omega)⟩
theorem c_copyP {a c : Nat} {σ1 : Rows} {M : RP} (hA : StAt h a σ1) (hB : StP h c M) (hM : RC M) (hac : a + 6 ≤ c ∨ c + 6 ≤ a) (hd : 2 ≤ d) : Calls E mX4_copyFrom d 0 0 [.ref a, .ref c] h (RV (fun h' => ∃ σ', StU h a σ' h' ∧ M σ')) := by
  obtain ⟨σ2, hB, hw⟩ := hB
  refine (c_copyFrom hA hB hac hd).weaken (fun r h1 q => ?_)
  obtain ⟨e, σ', u, q⟩ := q
  exact ⟨e, σ', u, hM _ _ q hw⟩
theorem c_begin (hC : ClAt G h b N B S n Hs tk o X) (hN : RC N) (hd : 3 ≤ d) : Calls E mX5_begin d 0 0 [.ref b] h (RV (fun h' => ClAt G h' b N N S n Hs tk o X)) := by
  refine Calls.of (ls := [some (.ref b)]) (by decide +kernel) rfl (Nat.le_of_ble_eq_true rfl) (cat_ok rfl) ?_
  obtain ⟨σb, sb, -⟩ := hC.2.2.2.1
  refine go_aload_0 (DX5_begin.at 0 rfl) ?_
  refine go_getfield (DX5_begin.at 1 rfl) fX5_16 hC.1 rfl ?_
  refine go_aload_0 (DX5_begin.at 2 rfl) ?_
  refine go_getfield (DX5_begin.at 3 rfl) fX5_10 hC.1 rfl ?_
  refine go_cVv1 (DX5_begin.at 4 rfl) nX5_127 vX4_copyFrom (by omega) (c_copyP sb hC.2.2.1 hN (by omega) (by omega)) sb.1 rfl (Nat.le_of_ble_eq_true rfl) (fun h8 q8 => ?_)
  obtain ⟨σ', u, w⟩ := q8
  exact go_return (DX5_begin.at 5 rfl) rfl (RV.mk (hC.toBefore u w))

end CL
