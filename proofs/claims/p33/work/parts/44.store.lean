/-! WHAT A STORE IS, whoever holds it -/
noncomputable def cI {α : Type} (P : Prop) (a b : α) : α := @ite α P (Classical.propDecidable P) a b
theorem cI_t {α : Type} {P : Prop} {a b : α} (h : P) : cI P a b = a := by
  unfold cI
  exact if_pos h
theorem cI_f {α : Type} {P : Prop} {a b : α} (h : ¬ P) : cI P a b = b := by
  unfold cI
  exact if_neg h
/-- (groups, size, stripes, shift); values; lost sets; the queue (20 times the stripe, plus the cell); loads; counts (reads, mends, local mends, losses) -/
abbrev Ab : Type := (Nat × Nat × Nat × Nat) × (Nat → Nat → Nat) × (Nat → Nat) × List Nat × (Nat → Int32) × (Nat → Int32)
def aG (A : Ab) : Nat := A.1.1
def aS (A : Ab) : Nat := A.1.2.1
def aT (A : Ab) : Nat := A.1.2.2.1
def aH (A : Ab) : Nat := A.1.2.2.2
def aV (A : Ab) : Nat → Nat → Nat := A.2.1
def aM (A : Ab) : Nat → Nat := A.2.2.1
def aQ (A : Ab) : List Nat := A.2.2.2.1
def aL (A : Ab) : Nat → Int32 := A.2.2.2.2.1
def aK (A : Ab) : Nat → Int32 := A.2.2.2.2.2
def AOK (A : Ab) : Prop := LayOK (aG A) (aS A) (aT A) (aH A) ∧ (∀ t, t < aT A → aM A t < 2 ^ nc (aG A) (aS A)) ∧ (∀ t c, aV A t c < 16) ∧ (aQ A).Nodup ∧ ∀ x, x ∈ aQ A ↔ (x / 20 < aT A ∧ x % 20 < nc (aG A) (aS A) ∧ bit (aM A (x / 20)) (x % 20))
/-- the class's rows hold the store A -/
def RepS (A : Ab) : RP := fun σ => AOK A ∧ LayX σ (aG A) (aS A) (aT A) (aH A) ∧ ColX σ (nc (aG A) (aS A)) (colv (aG A) (aS A)) ∧ (∀ t, t < aT A → σ 3 t = nI (aM A t)) ∧
  (∀ t, t < aT A → ∀ c, c < nc (aG A) (aS A) → ¬ bit (aM A t) c → σ 2 (t * 20 + c) = nI (aV A t c)) ∧ σ 0 8 = nI (aQ A).length ∧ (∀ i x, (aQ A)[i]? = some x → σ 1 i = nI (100 * (x / 20) + x % 20)) ∧ (∀ j, j < 20 → σ 4 j = aL A j) ∧ ∀ k, k < 4 → σ 0 (4 + k) = aK A k
section AB
variable {A : Ab} {σ : Rows} {t c x v : Nat}
theorem AOK.lt160 (h : AOK A) {x : Nat} (hx : x ∈ aQ A) : x < 160 := by
  have h1 := ((h.2.2.2.2 x).mp hx).1
  have h2 : aT A ≤ 8 := h.1.2.2.2.2.2.2.1
  omega
theorem AOK.q160 (h : AOK A) : (aQ A).length ≤ 160 := php 160 _ h.2.2.2.1 (fun x hx => h.lt160 hx)
theorem AOK.qin (h : AOK A) (ht : t < aT A) (hc : c < nc (aG A) (aS A)) : 20 * t + c ∈ aQ A ↔ bit (aM A t) c := by
  have hn := h.1.nc
  rw [h.2.2.2.2, show (20 * t + c) / 20 = t by omega, show (20 * t + c) % 20 = c by omega]
  exact ⟨fun q => q.2.2, fun q => ⟨ht, hc, q⟩⟩
theorem AOK.qroom (h : AOK A) (ht : t < aT A) (hc : c < nc (aG A) (aS A)) (hb : ¬ bit (aM A t) c) : (aQ A).length < 160 := by
  have hn := h.1.nc
  have h2 : aT A ≤ 8 := h.1.2.2.2.2.2.2.1
  have h3 : ((20 * t + c) :: aQ A).Nodup := List.nodup_cons.mpr ⟨fun q => hb ((h.qin ht hc).mp q), h.2.2.2.1⟩
  have h4 := php 160 _ h3 (fun x hx => by
    rcases List.mem_cons.mp hx with rfl | hx
    · omega
    · exact h.lt160 hx)
  exact h4
theorem AOK.m20 (h : AOK A) (ht : t < aT A) : aM A t < 2 ^ 20 := Nat.lt_of_lt_of_le (h.2.1 t ht) (Nat.pow_le_pow_right (by decide) h.1.nc.2)
theorem RepS.rc : RC (RepS A) := by
  intro σ σ' ⟨e0, e1⟩ ⟨hA, hL, hC, hM, hV, hq, hQ, hLd, hK⟩
  have hn := hA.1.nc
  have h8 : aT A ≤ 8 := hA.1.2.2.2.2.2.2.1
  refine ⟨hA, hL.of0 (fun k hk => e0 k (by omega)), fun c hc => ⟨(e1 5 (by decide) (by decide) c (show c < 20 by omega)).trans (hC c hc).1, (hC c hc).2⟩, fun t ht => (e1 3 (by decide) (by decide) t (show t < 8 by omega)).trans (hM t ht),
    fun t ht c hc hb => (e1 2 (by decide) (by decide) (t * 20 + c) (show t * 20 + c < 160 by omega)).trans (hV t ht c hc hb), (e0 8 (by decide)).trans hq, fun i x hx => (e1 1 (by decide) (by decide) i ?_).trans (hQ i x hx), fun j hj => (e1 4 (by decide) (by decide) j hj).trans (hLd j hj), fun k hk => (e0 (4 + k) (by omega)).trans (hK k hk)⟩
  have h1 := (List.getElem?_eq_some_iff.mp hx).1
  exact Nat.lt_of_lt_of_le h1 hA.q160
/-- the store at the start -/
def ab0 : Ab := ((2, 3, 4, 1), fun _ _ => 0, fun _ => 0, [], fun _ => 0, fun _ => 0)
theorem nbit0 (c : Nat) : ¬ bit 0 c := by
  show ¬ (0 / 2 ^ c % 2 = 1)
  rw [Nat.zero_div]
  decide
theorem zero_ok {g s T sh : Nat} {K : Nat → Int32} (h : LayOK g s T sh) : AOK ((g, s, T, sh), fun _ _ => 0, fun _ => 0, [], fun _ => 0, K) :=
  ⟨h, fun _ _ => Nat.two_pow_pos _, fun _ _ => by show 0 < 16; decide, List.nodup_nil, fun x => ⟨fun q => absurd q List.not_mem_nil, fun q => absurd q.2.2 (nbit0 _)⟩⟩
theorem StNew.rep (h : StNew σ) : RepS ab0 σ := by
  obtain ⟨h1, h2, h3, h4⟩ := h
  refine ⟨zero_ok h1.2.2.2.2, h1, h4, fun t ht => h3 3 (by decide) (by decide) t (Nat.lt_of_lt_of_le (show t < 4 from ht) (by decide)), fun t ht c hc _ => h3 2 (by decide) (by decide) _ ?_, h2 8 (by decide) (by decide), fun i x hx => (by cases hx), fun j hj => h3 4 (by decide) (by decide) j hj, fun k hk => h2 (4 + k) (by omega) (by omega)⟩
  have hn := h1.2.2.2.2.nc
  have e : nc (aG ab0) (aS ab0) = nc 2 3 := rfl
  have e2 : aT ab0 = 4 := rfl
  rw [e] at hc
  rw [e2] at ht
  show t * 20 + c < 160
  omega
/-- a new layout -/
def aNew (A : Ab) (g s T sh : Nat) : Ab := ((g, s, T, sh), fun _ _ => 0, fun _ => 0, [], fun _ => 0, aK A)
theorem LaidOut.rep {g s T sh : Nat} (h : LaidOut (RepS A) g s T sh σ) : RepS (aNew A g s T sh) σ := by
  obtain ⟨σ0, h0, h1, h2, h3, h4, h5⟩ := h
  have hn := h1.2.2.2.2.nc
  have h8 : T ≤ 8 := h1.2.2.2.2.2.2.2.2.2.2.1
  refine ⟨zero_ok h1.2.2.2.2, h1, h5, fun t ht => h4 3 (by decide) (by decide) t (Nat.lt_of_lt_of_le (show t < T from ht) h8), fun t ht c hc _ => h4 2 (by decide) (by decide) _ ?_, h3, fun i x hx => (by cases hx), fun j hj => h4 4 (by decide) (by decide) j hj, fun k hk => (h2 (4 + k) (by omega) (by omega)).trans (h0.2.2.2.2.2.2.2.2 k hk)⟩
  have ht' : t < T := ht
  have hc' : c < nc g s := hc
  show t * 20 + c < 160
  omega
/-- one value -/
def put2 (V : Nat → Nat → Nat) (t c x : Nat) : Nat → Nat → Nat := fun t' c' => if t' = t ∧ c' = c then x else V t' c'
theorem put2_lt {V : Nat → Nat → Nat} (h : ∀ t c, V t c < 16) (hx : x < 16) (t' c' : Nat) : put2 V t c x t' c' < 16 := by
  unfold put2
  split
  · exact hx
  · exact h _ _
def aPut (A : Ab) (t c x : Nat) : Ab := (A.1, put2 (aV A) t c x, A.2.2)
theorem aPut_ok (h : AOK A) (hx : x < 16) : AOK (aPut A t c x) := ⟨h.1, h.2.1, put2_lt h.2.2.1 hx, h.2.2.2⟩
theorem at20 {t c t' c' : Nat} (h1 : c < 20) (h2 : c' < 20) (h : t * 20 + c = t' * 20 + c') : t = t' ∧ c = c' := by omega
theorem RepS.put (h : RepS A σ) (hc : c < nc (aG A) (aS A)) (hx : x < 16) : RepS (aPut A t c x) (rset σ 2 (upd (σ 2) (t * 20 + c) (nI x))) := by
  obtain ⟨hA, hL, hC, hM, hV, hq, hQ, hLd, hK⟩ := h
  have hn := hA.1.nc
  refine ⟨aPut_ok hA hx, hL, hC, hM, fun t' ht c' hc' hb => ?_, hq, hQ, hLd, hK⟩
  have hc2 : c' < nc (aG A) (aS A) := hc'
  rw [rset_s]
  show _ = nI (put2 (aV A) t c x t' c')
  unfold put2
  by_cases e : t' = t ∧ c' = c
  · rw [if_pos e, e.1, e.2, pk_us]
  · rw [if_neg e, pk_un (fun e2 => e (at20 (by omega) (by omega) e2))]
    exact hV t' ht c' hc' hb
/-- a data cell with the parities -/
def aWrt (A : Ab) (t c v : Nat) : Ab := (A.1, fun t' c' => if t' = t then (if c' = c then v else if c' < aG A * aS A then aV A t c' else aV A t c' ^^^ gm (colv (aG A) (aS A) c (c' - aG A * aS A)) (aV A t c ^^^ v)) else aV A t' c', A.2.2)
theorem aWrt_ok (h : AOK A) (hv : v < 16) : AOK (aWrt A t c v) := by
  refine ⟨h.1, h.2.1, fun t' c' => ?_, h.2.2.2⟩
  show (if t' = t then (if c' = c then v else if c' < aG A * aS A then aV A t c' else aV A t c' ^^^ gm (colv (aG A) (aS A) c (c' - aG A * aS A)) (aV A t c ^^^ v)) else aV A t' c') < 16
  split
  · split
    · exact hv
    · split
      · exact h.2.2.1 _ _
      · exact xor_lt (h.2.2.1 _ _) (gm_lt (colv_lt _) (xor_lt (h.2.2.1 _ _) hv))
  · exact h.2.2.1 _ _
theorem addp_at (f : Nat → Int32) (p : Nat) (w : Nat → Nat) : ∀ k j, addp f p w k j = if p ≤ j ∧ j < p + k then f j ^^^ nI (w (j - p)) else f j
  | 0, j => by
    rw [if_neg (by omega)]
    rfl
  | k + 1, j => by
    have ih := addp_at f p w k
    show upd (addp f p w k) (p + k) (addp f p w k (p + k) ^^^ nI (w k)) j = _
    by_cases e : j = p + k
    · subst e
      rw [pk_us, ih, if_neg (by omega), if_pos (by omega), show p + k - p = k by omega]
    · rw [pk_un e, ih]
      by_cases q : p ≤ j ∧ j < p + k
      · rw [if_pos q, if_pos (by omega)]
      · rw [if_neg q, if_neg (by omega)]
theorem RepS.wrt (h : RepS A σ) (ht : t < aT A) (hc : c < aG A * aS A) (hv : v < 16) (h0 : aM A t = 0) :
    RepS (aWrt A t c v) (rset (rset σ 2 (upd (σ 2) (t * 20 + c) (nI v))) 2 (addp (upd (σ 2) (t * 20 + c) (nI v)) (t * 20 + aG A * aS A) (fun i => gm (colv (aG A) (aS A) c i) (aV A t c ^^^ v)) (aG A + 2))) := by
  obtain ⟨hA, hL, hC, hM, hV, hq, hQ, hLd, hK⟩ := h
  have hn := hA.1.nc
  have en : nc (aG A) (aS A) = aG A * aS A + aG A + 2 := rfl
  rw [rset_rset]
  refine ⟨aWrt_ok hA hv, hL, hC, hM, fun t' ht' c' hc' hb => ?_, hq, hQ, hLd, hK⟩
  have ht2 : t' < aT A := ht'
  have hc2 : c' < nc (aG A) (aS A) := hc'
  have hb2 : ¬ bit (aM A t') c' := hb
  have hv' := hV t' ht2 c' hc2 hb2
  rw [rset_s, addp_at]
  show _ = nI (if t' = t then (if c' = c then v else if c' < aG A * aS A then aV A t c' else aV A t c' ^^^ gm (colv (aG A) (aS A) c (c' - aG A * aS A)) (aV A t c ^^^ v)) else aV A t' c')
  by_cases e : t' = t
  · subst e
    rw [if_pos rfl]
    by_cases e2 : c' = c
    · subst e2
      rw [if_pos rfl, if_neg (by omega), pk_us]
    · rw [if_neg e2]
      by_cases e3 : c' < aG A * aS A
      · rw [if_pos e3, if_neg (by omega), pk_un (by omega), hv']
      · rw [if_neg e3, if_pos (by omega), pk_un (by omega), hv', nx_xor, show t' * 20 + c' - (t' * 20 + aG A * aS A) = c' - aG A * aS A by omega]
  · rw [if_neg e, if_neg (by omega), pk_un (by omega), hv']
end AB
