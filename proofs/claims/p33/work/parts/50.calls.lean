/-! WHAT EACH CALL ANSWERS, AND WHAT BECOMES OF THE STORE: (now, (how many, history), (taken, snapshot), (length, text)) -/
abbrev Zt : Type := Ab × (Nat × (Nat → Ab)) × (Nat × Ab) × (Nat × (Nat → Nat))
def zA (Z : Zt) : Ab := Z.1
def zn (Z : Zt) : Nat := Z.2.1.1
def zH (Z : Zt) : Nat → Ab := Z.2.1.2
def zk (Z : Zt) : Nat := Z.2.2.1.1
def zS (Z : Zt) : Ab := Z.2.2.1.2
def zN (Z : Zt) : Nat := Z.2.2.2.1
def zY (Z : Zt) : Nat → Nat := Z.2.2.2.2
def recA (n : Nat) (Hs : Nat → Ab) (B : Ab) : Nat → Ab := fun i => if i = (if n < 4 then n else 3) then B else if n < 4 then Hs i else Hs (i + 1)
theorem recH_rep {n : Nat} {Hs : Nat → Ab} {B : Ab} : recH n (fun i => RepS (Hs i)) (RepS B) = fun i => RepS (recA n Hs B i) := by
  funext i
  unfold recH recA
  by_cases q : i = (if n < 4 then n else 3)
  · rw [if_pos q, if_pos q]
  · rw [if_neg q, if_neg q]
    by_cases q2 : n < 4
    · rw [if_pos q2, if_pos q2]
    · rw [if_neg q2, if_neg q2]
/-- a change: recorded, if it answers neither an error nor NONE -/
noncomputable def chZ (Z : Zt) (R : Int32 × Ab) : Int32 × Zt := cI (R.1 < 0) (R.1, Z) (R.1, (R.2, (recN (zn Z), recA (zn Z) (zH Z) (zA Z)), Z.2.2))
theorem chZ_no {Z : Zt} {R : Int32 × Ab} (h : R.1 < 0) : chZ Z R = (R.1, Z) := cI_t h
theorem chZ_yes {Z : Zt} {R : Int32 × Ab} (h : ¬ R.1 < 0) : chZ Z R = (R.1, (R.2, (recN (zn Z), recA (zn Z) (zH Z) (zA Z)), Z.2.2)) := cI_f h
noncomputable def ceQ (A : Ab) (x y : Int32) (f : Nat → Nat → Int32) : Int32 := cI (inR x (aT A) ∧ inR y (nc (aG A) (aS A))) (f x.toNatClampNeg y.toNatClampNeg) (-1)
theorem ceQ_out {A : Ab} {x y : Int32} {f : Nat → Nat → Int32} (h : ¬ (inR x (aT A) ∧ inR y (nc (aG A) (aS A)))) : ceQ A x y f = -1 := cI_f h
theorem ceQ_in {A : Ab} {t c : Nat} {f : Nat → Nat → Int32} (hA : AOK A) (ht : t < aT A) (hc : c < nc (aG A) (aS A)) : ceQ A (nI t) (nI c) f = f t c := by
  have hn := hA.1.nc
  have h8 : aT A ≤ 8 := hA.1.2.2.2.2.2.2.1
  unfold ceQ
  rw [cI_t (cell_in hA ht hc), nI_cl (by omega), nI_cl (by omega)]
noncomputable def stQ (A : Ab) (x : Int32) (f : Nat → Int32) : Int32 := cI (inR x (aT A)) (f x.toNatClampNeg) (-1)
theorem stQ_out {A : Ab} {x : Int32} {f : Nat → Int32} (h : ¬ inR x (aT A)) : stQ A x f = -1 := cI_f h
theorem stQ_in {A : Ab} {t : Nat} {f : Nat → Int32} (hA : AOK A) (ht : t < aT A) : stQ A (nI t) f = f t := by
  have h8 : aT A ≤ 8 := hA.1.2.2.2.2.2.2.1
  unfold stQ
  rw [cI_t ((inR_nI (by omega) (by omega)).mpr ht), nI_cl (by omega)]
noncomputable def ndQ (A : Ab) (x : Int32) (f : Nat → Int32) : Int32 := cI (inR x (nc (aG A) (aS A))) (f x.toNatClampNeg) (-1)
theorem ndQ_out {A : Ab} {x : Int32} {f : Nat → Int32} (h : ¬ inR x (nc (aG A) (aS A))) : ndQ A x f = -1 := cI_f h
theorem ndQ_in {A : Ab} {c : Nat} {f : Nat → Int32} (hA : AOK A) (hc : c < nc (aG A) (aS A)) : ndQ A (nI c) f = f c := by
  have hn := hA.1.nc
  unfold ndQ
  rw [cI_t ((inR_nI (by omega) (by omega)).mpr hc), nI_cl (by omega)]
noncomputable def vaF (A : Ab) (x y : Int32) : Int32 := ceQ A x y (fun t c => cI (bit (aM A t) c) (-5) (nI (aV A t c)))
noncomputable def noF (A : Ab) (x y : Int32) : Int32 := ceQ A x y (fun t c => nI ((c + t * aH A) % nc (aG A) (aS A)))
noncomputable def ldF (A : Ab) (x : Int32) : Int32 := ndQ A x (aL A)
noncomputable def ltF (A : Ab) (x : Int32) : Int32 := stQ A x (fun t => nI (aM A t))
noncomputable def waF (A : Ab) (x : Int32) : Int32 := cI (x < 0) (-2) (match (aQ A)[x.toNatClampNeg]? with
  | none => -5
  | some y => nI (100 * (y / 20) + y % 20))
noncomputable def faF (A : Ab) (x : Int32) : Int32 := stQ A x (fun t => cI (aM A t = 0) (nI (flg (aSum A t) 6)) (-4))
noncomputable def asF (A : Ab) (x y : Int32) (f : Nat → Nat → Nat → Int32) (z : Int32) : Int32 := ceQ A x y (fun t c => cI (bit (aM A t) c) (match wyF A t c with
  | none => z
  | some p => f p.1 p.2.1 p.2.2) (-5))
noncomputable def cuF (A : Ab) (x : Int32) : Int32 := stQ A x (fun t => cI (aM A t = 0) (match cpF A t with
  | none => -5
  | some c => nI c) (-4))
noncomputable def svF (A : Ab) (x : Int32) : Int32 := cI (inR x (2 ^ nc (aG A) (aS A))) (bP (IndP (colv (aG A) (aS A)) x.toNatClampNeg (nc (aG A) (aS A)))) (-2)
noncomputable def aRun (A : Ab) (w : Nat) : Nat × Nat := frun (colv (aG A) (aS A)) (aG A) (aS A) (aH A) (aT A) w
noncomputable def fsF (A : Ab) (x : Int32) : Int32 := cI (nI 1 ≤ x ∧ x ≤ nI 4) (nI (aRun A x.toNatClampNeg).1) (-2)
noncomputable def fnG (A : Ab) : Nat → Nat → Int32
  | 0, _ => -5
  | m + 1, w => if (aRun A w).1 = 0 then fnG A m (w + 1) else nI (aRun A w).2
noncomputable def fnF (A : Ab) : Int32 := fnG A 4 1
def bzG (L : Nat → Int32) : Nat → Int32 × Int32
  | 0 => (-5, 0)
  | j + 1 => if (bzG L j).2 < L j then (nI j, L j) else bzG L j
def bzF (A : Ab) : Int32 := (bzG (aL A) (nc (aG A) (aS A))).1
def totZ (Z : Zt) (j : Nat) : Int32 := if j = 0 then nI (aG (zA Z)) else if j = 1 then nI (aS (zA Z)) else if j = 2 then nI (aT (zA Z)) else if j = 3 then nI (aH (zA Z)) else if j = 4 then nI (nc (aG (zA Z)) (aS (zA Z))) else if j = 5 then nI (aQ (zA Z)).length
  else if j < 10 then aK (zA Z) (j - 6) else if j = 10 then nI (zn Z) else nI (zN Z)
noncomputable def toF (Z : Zt) (x : Int32) : Int32 := cI (inR x 12) (totZ Z x.toNatClampNeg) (-2)
def SlC (x y z w : Int32) : Prop := ∃ g s T sh, x = nI g ∧ y = nI s ∧ z = nI T ∧ w = nI sh ∧ LayOK g s T sh
noncomputable def slF (A : Ab) (x y z w : Int32) : Int32 × Ab := cI (SlC x y z w) (nI (nc x.toNatClampNeg y.toNatClampNeg), aNew A x.toNatClampNeg y.toNatClampNeg z.toNatClampNeg w.toNatClampNeg) (-2, A)
theorem slF_out {A : Ab} {x y z w : Int32} (h : ¬ SlC x y z w) : slF A x y z w = (-2, A) := cI_f h
theorem slF_in {A : Ab} {g s T sh : Nat} (h : LayOK g s T sh) : slF A (nI g) (nI s) (nI T) (nI sh) = (nI (nc g s), aNew A g s T sh) := by
  obtain ⟨h1, h2, h3, h4, h5, h6, h7, h8⟩ := h
  unfold slF
  rw [cI_t ⟨g, s, T, sh, rfl, rfl, rfl, rfl, h1, h2, h3, h4, h5, h6, h7, h8⟩, nI_cl (by omega), nI_cl (by omega), nI_cl (by omega), nI_cl (by omega)]
def unZ (Z : Zt) : Int32 × Zt := if zn Z = 0 then (-5, Z) else (nI (zn Z - 1), (zH Z (zn Z - 1), (zn Z - 1, zH Z), Z.2.2))
def keZ (Z : Zt) : Int32 × Zt := (nI (aQ (zA Z)).length, (zA Z, Z.2.1, (1, zA Z), Z.2.2.2))
def reZ (Z : Zt) : Int32 × Zt := if zk Z = 0 then (-5, Z) else (nI (aQ (zS Z)).length, (zS Z, (recN (zn Z), recA (zn Z) (zH Z) (zA Z)), Z.2.2))
def tyZ (Z : Zt) (v : Nat) : Int32 × Zt := if zN Z < 60 then (nI (zN Z + 1), (zA Z, Z.2.1, Z.2.2.1, (zN Z + 1, fun j => if j = zN Z then v else zY Z j))) else (-3, Z)
def clZ (Z : Zt) : Int32 × Zt := (nI (zN Z), (zA Z, Z.2.1, Z.2.2.1, (0, zY Z)))
/-- what holds of every store that calls reach -/
def ZOK (Z : Zt) : Prop := AOK (zA Z) ∧ zn Z ≤ 4 ∧ (∀ i, i < zn Z → AOK (zH Z i)) ∧ zk Z ≤ 1 ∧ (zk Z = 1 → AOK (zS Z)) ∧ zN Z ≤ 60 ∧ ∀ j, j < zN Z → zY Z j < 65536
/-- the class's object at b holds the store Z -/
def CZ (G : Nat → Option va_E) (Z : Zt) (h : List va_E) (b : Nat) : Prop := ∃ B S o X, ClAt G h b (RepS (zA Z)) B S (zn Z) (fun i => RepS (zH Z i)) (zk Z) o X ∧ o 1 = nI (zN Z) ∧ TxtIs X (zY Z) (zN Z) ∧ zk Z ≤ 1 ∧ (zk Z = 1 → S = RepS (zS Z))
def z0 : Zt := (ab0, (0, fun _ => ab0), (0, ab0), (0, fun _ => 0))
theorem HsP.mono {h : List va_E} {b n : Nat} {H1 H2 : Nat → RP} (q : HsP h b n H1) (hm : ∀ i, i < n → ∀ σ, H1 i σ → H2 i σ) : HsP h b n H2 := by
  obtain ⟨F, p, h1, h2, h3, h4, h5⟩ := q
  exact ⟨F, p, h1, h2, h3, h4, fun i hi => by
    obtain ⟨σ, s, w⟩ := h5 i hi
    exact ⟨σ, s, hm i hi σ w⟩⟩
theorem ClNew.cz {G : Nat → Option va_E} {h : List va_E} {b : Nat} (q : ClNew h b) (fr : Frm G b h) : CZ G z0 h b := by
  obtain ⟨q0, qn, ⟨σ, s1, w1⟩, q2, q3, q4, q5, q6⟩ := q.cl (Hs := fun i => RepS (zH z0 i)) fr
  exact ⟨_, _, _, _, ⟨q0, qn, ⟨σ, s1, w1.rep⟩, q2, q3, q4, q5, q6⟩, rfl, ⟨Nat.zero_le _, fun j hj => absurd hj (Nat.not_lt_zero j)⟩, Nat.zero_le _, fun e => absurd e (by decide)⟩
theorem CZ.no {G : Nat → Option va_E} {Z : Zt} {R : Int32 × Ab} {h' : List va_E} {b : Nat} {B S : RP} {o X : Nat → Int32} (q : ClAt G h' b (RepS (zA Z)) B S (zn Z) (fun i => RepS (zH Z i)) (zk Z) o X) (h1 : o 1 = nI (zN Z)) (h2 : TxtIs X (zY Z) (zN Z)) (h3 : zk Z ≤ 1) (h4 : zk Z = 1 → S = RepS (zS Z)) (hneg : R.1 < 0) : CZ G (chZ Z R).2 h' b := by
  rw [chZ_no hneg]
  exact ⟨B, S, o, X, q, h1, h2, h3, h4⟩
theorem CZ.yes {G : Nat → Option va_E} {Z : Zt} {R : Int32 × Ab} {h' : List va_E} {b : Nat} {B S : RP} {o X : Nat → Int32} (q : ClAt G h' b (RepS R.2) B S (recN (zn Z)) (recH (zn Z) (fun i => RepS (zH Z i)) (RepS (zA Z))) (zk Z) o X) (h1 : o 1 = nI (zN Z)) (h2 : TxtIs X (zY Z) (zN Z)) (h3 : zk Z ≤ 1) (h4 : zk Z = 1 → S = RepS (zS Z)) (hneg : ¬ R.1 < 0) : CZ G (chZ Z R).2 h' b := by
  rw [chZ_yes hneg]
  rw [recH_rep] at q
  exact ⟨B, S, o, X, q, h1, h2, h3, h4⟩
theorem chZ_1 {Z : Zt} {R : Int32 × Ab} : (chZ Z R).1 = R.1 := by
  by_cases h : R.1 < 0
  · rw [chZ_no h]
  · rw [chZ_yes h]
