/-! WHAT THE CALLS LEAVE: the checks hold behind each of them; counts; nodes -/
theorem vsum_cg {C : Nat → Nat → Nat} {V V' : Nat → Nat} {M n i : Nat} (h : ∀ k, k < n → V k = V' k) : ∀ j, j ≤ n → vsum C V M j i = vsum C V' M j i
  | 0, _ => rfl
  | j + 1, hj => by
    show vsum C V M j i ^^^ (if M / 2 ^ j % 2 = 1 then gm (C j i) (V j) else 0) = vsum C V' M j i ^^^ (if M / 2 ^ j % 2 = 1 then gm (C j i) (V' j) else 0)
    rw [vsum_cg h j (by omega), h j (by omega)]
def wpt (g s c : Nat) (V : Nat → Nat) (v : Nat) : Nat → Nat → Nat
  | 0 => fun k => if k = c then v else V k
  | j + 1 => fun k => if k = g * s + j then wpt g s c V v j (g * s + j) ^^^ gm (colv g s c j) (V c ^^^ v) else wpt g s c V v j k
theorem wpt_at {g s c v : Nat} {V : Nat → Nat} (hc : c < g * s) : ∀ j k, wpt g s c V v j k = if k = c then v else if g * s ≤ k ∧ k < g * s + j then V k ^^^ gm (colv g s c (k - g * s)) (V c ^^^ v) else V k
  | 0, k => by
    show (if k = c then v else V k) = _
    rw [if_neg (show ¬ (g * s ≤ k ∧ k < g * s + 0) by omega)]
  | j + 1, k => by
    show (if k = g * s + j then wpt g s c V v j (g * s + j) ^^^ gm (colv g s c j) (V c ^^^ v) else wpt g s c V v j k) = _
    by_cases e : k = g * s + j
    · rw [if_pos e, wpt_at hc j, e, if_neg (by omega), if_neg (by omega), if_neg (by omega), if_pos (by omega), show g * s + j - g * s = j by omega]
    · rw [if_neg e, wpt_at hc j k]
      by_cases q : k = c
      · rw [if_pos q, if_pos q]
      · rw [if_neg q, if_neg q]
        by_cases q2 : g * s ≤ k ∧ k < g * s + j
        · rw [if_pos q2, if_pos (by omega)]
        · rw [if_neg q2, if_neg (by omega)]
theorem wpt_lt {g s c v : Nat} {V : Nat → Nat} (hc : c < g * s) (hV : ∀ k, V k < 16) (hv : v < 16) (j k : Nat) : wpt g s c V v j k < 16 := by
  rw [wpt_at hc]
  split
  · exact hv
  · split
    · exact xor_lt (hV _) (gm_lt (colv_lt _) (xor_lt (hV _) hv))
    · exact hV _
theorem wpt_sum {g s c v i : Nat} {V : Nat → Nat} (hc : c < g * s) (hV : ∀ k, V k < 16) (hv : v < 16) : ∀ j, j ≤ g + 2 → vsum (colv g s) (wpt g s c V v j) (2 ^ nc g s - 1) (nc g s) i = (vsum (colv g s) V (2 ^ nc g s - 1) (nc g s) i ^^^ gm (colv g s c i) (V c ^^^ v)) ^^^ (if i < j then gm (colv g s c i) (V c ^^^ v) else 0)
  | 0, _ => by
    have en : nc g s = g * s + g + 2 := rfl
    show vsum (colv g s) (fun k => if k = c then v else V k) _ _ i = _
    rw [vsum_put hV (fun k i => colv_lt i) hv, if_pos ⟨by omega, bit_m1.mpr (by omega)⟩, if_neg (Nat.not_lt_zero i), Nat.xor_zero]
  | j + 1, hj => by
    have en : nc g s = g * s + g + 2 := rfl
    have hx := xor_lt (hV c) hv
    have ih := wpt_sum (i := i) hc hV hv j (by omega)
    show vsum (colv g s) (fun k => if k = g * s + j then wpt g s c V v j (g * s + j) ^^^ gm (colv g s c j) (V c ^^^ v) else wpt g s c V v j k) _ _ i = _
    rw [vsum_put (wpt_lt hc hV hv j) (fun k i => colv_lt i) (xor_lt (wpt_lt hc hV hv j _) (gm_lt (colv_lt _) hx)), if_pos ⟨by omega, bit_m1.mpr (by omega)⟩, ih, ← Nat.xor_assoc, Nat.xor_self, Nat.zero_xor, colv_pk (show ¬ g * s + j < g * s by omega), show g * s + j - g * s = j by omega]
    by_cases e : i = j
    · rw [e, if_neg (Nat.lt_irrefl j), if_pos rfl, if_pos (Nat.lt_succ_self j), gm_1l (gm_lt (colv_lt _) hx), Nat.xor_zero]
    · rw [if_neg e, gm_0l (gm_lt (colv_lt _) hx), Nat.xor_zero]
      by_cases q : i < j
      · rw [if_pos q, if_pos (by omega)]
      · rw [if_neg q, if_neg (by omega)]
theorem CwS.wrt {g s c v : Nat} {V : Nat → Nat} (hc : c < g * s) (hV : ∀ k, V k < 16) (hv : v < 16) (h : CwS g s V) : CwS g s (fun c' => if c' = c then v else if c' < g * s then V c' else V c' ^^^ gm (colv g s c (c' - g * s)) (V c ^^^ v)) := by
  have en : nc g s = g * s + g + 2 := rfl
  intro i hi
  by_cases q : i < g + 2
  · rw [vsum_cg (V' := wpt g s c V v (g + 2)) (n := nc g s) (fun k hk => ?_) _ (Nat.le_refl _), wpt_sum hc hV hv _ (Nat.le_refl _), if_pos q, h i hi, Nat.zero_xor, Nat.xor_self]
    rw [wpt_at hc]
    by_cases e : k = c
    · rw [if_pos e, if_pos e]
    · rw [if_neg e, if_neg e]
      by_cases q2 : k < g * s
      · rw [if_pos q2, if_neg (by omega)]
      · rw [if_neg q2, if_pos (by omega)]
  · refine vsum_hi (fun k => ?_) (by omega)
    split
    · exact hv
    · split
      · exact hV _
      · exact xor_lt (hV _) (gm_lt (colv_lt _) (xor_lt (hV _) hv))
theorem Cw.wrt {A : Ab} {t c v : Nat} (hA : AOK A) (hK : Cw A) (hc : c < aG A * aS A) (hv : v < 16) : Cw (aWrt A t c v) := by
  intro t' ht'
  have h0 := hK t' ht'
  show CwS (aG A) (aS A) (fun c' => if t' = t then (if c' = c then v else if c' < aG A * aS A then aV A t c' else aV A t c' ^^^ gm (colv (aG A) (aS A) c (c' - aG A * aS A)) (aV A t c ^^^ v)) else aV A t' c')
  by_cases e : t' = t
  · subst e
    have h1 := CwS.wrt hc (hA.2.2.1 t') hv h0
    have e2 : (fun c' => if t' = t' then (if c' = c then v else if c' < aG A * aS A then aV A t' c' else aV A t' c' ^^^ gm (colv (aG A) (aS A) c (c' - aG A * aS A)) (aV A t' c ^^^ v)) else aV A t' c') = (fun c' => if c' = c then v else if c' < aG A * aS A then aV A t' c' else aV A t' c' ^^^ gm (colv (aG A) (aS A) c (c' - aG A * aS A)) (aV A t' c ^^^ v)) := by
      funext c'
      rw [if_pos rfl]
    rw [e2]
    exact h1
  · have e2 : (fun c' => if t' = t then (if c' = c then v else if c' < aG A * aS A then aV A t c' else aV A t c' ^^^ gm (colv (aG A) (aS A) c (c' - aG A * aS A)) (aV A t c ^^^ v)) else aV A t' c') = aV A t' := by
      funext c'
      rw [if_neg e]
    rw [e2]
    exact h0
theorem Cw.los {A : Ab} {t c : Nat} (hK : Cw A) : Cw (aLos A t c) := fun t' ht' => hK t' ht'
theorem Cw.new {A : Ab} {g s T sh : Nat} : Cw (aNew A g s T sh) := fun t' ht' => CwS.zero
/-! counts -/
theorem pmv_tab : (List.range 5).all (fun g => (List.range 7).all (fun s => (List.range 20).all (fun c => decide (1 ≤ g → 2 ≤ s → g * s ≤ 15 → c < nc g s → pcn (pmv g s c) 20 = if hcv g s c < g then s else g * s)))) = true := by decide +kernel
theorem pmv_cnt {g s T sh c : Nat} (hL : LayOK g s T sh) (hc : c < nc g s) : pcn (pmv g s c) 20 = if hcv g s c < g then s else g * s := by
  have hn := hL.nc
  obtain ⟨h1, h2, h3, h4, h5, -⟩ := hL
  have q1 := List.all_eq_true.mp pmv_tab g (List.mem_range.mpr (by omega))
  have q2 := List.all_eq_true.mp q1 s (List.mem_range.mpr (by omega))
  have q3 := List.all_eq_true.mp q2 c (List.mem_range.mpr (by omega))
  exact of_decide_eq_true q3 h1 h3 h5 hc
theorem pcn_part {n M : Nat} (hn : n ≤ 32) : ∀ j, j ≤ n → pcn M j + pcn (Src3 n M) j = j
  | 0, _ => rfl
  | j + 1, hj => by
    have ih := pcn_part (M := M) hn j (by omega)
    show (pcn M j + M / 2 ^ j % 2) + (pcn (Src3 n M) j + Src3 n M / 2 ^ j % 2) = j + 1
    by_cases q : M / 2 ^ j % 2 = 1
    · have h2 : ¬ Src3 n M / 2 ^ j % 2 = 1 := fun w => ((src_bit (by omega)).mp w).2 q
      omega
    · have h2 : Src3 n M / 2 ^ j % 2 = 1 := (src_bit (by omega)).mpr ⟨by omega, q⟩
      omega
/-- how many cells are read, by the way -/
def rdN (A : Ab) (t w : Nat) : Nat := if w = 1 then aS A else if w = 2 then aG A * aS A else nc (aG A) (aS A) - pcn (aM A t) 20
theorem WyX.w {A : Ab} {t c w src X : Nat} (h : WyX A t c w src X) : 1 ≤ w ∧ w ≤ 3 := by
  rcases h with ⟨-, e, -⟩ | ⟨-, -, e, -⟩
  · rw [e]
    split <;> decide
  · rw [e]
    decide
theorem WyX.cnt {A : Ab} {t c w src X : Nat} (hA : AOK A) (ht : t < aT A) (hc : c < nc (aG A) (aS A)) (h : WyX A t c w src X) : pcn src 20 = rdN A t w := by
  have hn := hA.1.nc
  unfold rdN
  rcases h with ⟨-, e, es, -⟩ | ⟨-, -, e, es, -⟩
  · rw [es, e, pmv_cnt hA.1 hc]
    by_cases q : hcv (aG A) (aS A) c < aG A
    · rw [if_pos q, if_pos q, if_pos rfl]
    · rw [if_neg q, if_neg q, if_neg (by decide), if_pos rfl]
  · have h1 := pcn_part (n := nc (aG A) (aS A)) (M := aM A t) (by omega) _ (Nat.le_refl _)
    rw [es, e, if_neg (by decide), if_neg (by decide), pcn_n (src3_lt) hn.2, pcn_n (hA.2.1 t ht) hn.2]
    omega
theorem pcn_all {A : Ab} {t : Nat} (hA : AOK A) (ht : t < aT A) : pcn (aM A t) 20 ≤ nc (aG A) (aS A) := by
  rw [pcn_n (hA.2.1 t ht) hA.1.nc.2]
  exact pcn_le _ _
theorem rdN_le {A : Ab} {t w : Nat} (hA : AOK A) : rdN A t w ≤ 20 := by
  have hn := hA.1.nc
  have en : nc (aG A) (aS A) = aG A * aS A + aG A + 2 := rfl
  have h6 : aS A ≤ 6 := hA.1.2.2.2.1
  unfold rdN
  split
  · omega
  · split <;> omega
/-- the group of a cell, 9 for the global ones -/
def grf (g s c : Nat) : Nat := if hcv g s c < g then hcv g s c else 9
theorem grf_eq {g s a c : Nat} (hg : g ≤ 4) (hc : hcv g s c < g) : grf g s a = grf g s c ↔ hcv g s a = hcv g s c := by
  unfold grf
  rw [if_pos hc]
  by_cases q : hcv g s a < g
  · rw [if_pos q]
  · rw [if_neg q]
    omega
theorem grf_9 {g s c : Nat} (hg : g ≤ 4) : grf g s c < 9 ↔ hcv g s c < g := by
  unfold grf
  by_cases q : hcv g s c < g
  · rw [if_pos q]
    omega
  · rw [if_neg q]
    omega
theorem grf_lt {g s c : Nat} (hg : g ≤ 4) : grf g s c < 10 := by
  unfold grf
  split <;> omega
/-- which cells the law reads -/
def rdB (A : Ab) (t c w e : Nat) : Prop := if w = 1 then e ≠ c ∧ grf (aG A) (aS A) e = grf (aG A) (aS A) c else if w = 2 then e < aG A * aS A else ¬ bit (aM A t) e
theorem WyX.src_iff {A : Ab} {t c w src X e : Nat} (hA : AOK A) (hc : c < nc (aG A) (aS A)) (he : e < nc (aG A) (aS A)) (h : WyX A t c w src X) : bit src e ↔ rdB A t c w e := by
  have hn := hA.1.nc
  have hs : 0 < aS A := by have h2 : 2 ≤ aS A := hA.1.2.2.1; omega
  unfold rdB
  rcases h with ⟨-, ew, es, -⟩ | ⟨-, -, ew, es, -⟩
  · rw [es, ew]
    by_cases q : hcv (aG A) (aS A) c < aG A
    · rw [if_pos q, if_pos rfl, pmv_bit hs q (by omega), grf_eq hA.1.2.1 q]
      exact And.comm
    · rw [if_neg q, if_neg (by decide), if_pos rfl, pmv_d q, bit_m1]
  · rw [es, ew, if_neg (by decide), if_neg (by decide), src_bit (by omega)]
    exact ⟨fun q => q.2, fun q => ⟨he, q⟩⟩
/-! the way as a function of the stripe alone -/
noncomputable def wyK (g s : Nat) (V : Nat → Nat) (M c : Nat) : Option (Nat × Nat × Nat) := @dite _ (∃ p : Nat × Nat × Nat, WayX (colv g s) V g s M c p.1 p.2.1 p.2.2) (Classical.propDecidable _) (fun h => some (Classical.choose h)) (fun _ => none)
theorem wyF_k {A : Ab} {t c : Nat} : wyF A t c = wyK (aG A) (aS A) (aV A t) (aM A t) c := rfl
theorem wyF_cg {A A' : Ab} {t c : Nat} (h1 : A'.1 = A.1) (h2 : aV A' t = aV A t) (h3 : aM A' t = aM A t) : wyF A' t c = wyF A t c := by
  have e1 : aG A' = aG A := by unfold aG; rw [h1]
  have e2 : aS A' = aS A := by unfold aS; rw [h1]
  rw [wyF_k (A := A'), wyF_k (A := A), e1, e2, h2, h3]
/-- what the law notes of a cell -/
noncomputable def wnF (A : Ab) (t c : Nat) : Int32 := cI (bit (aM A t) c) (match wyF A t c with
  | none => 0
  | some p => nI p.1) (-1)
theorem wnF_s {A : Ab} {t c w src X : Nat} (hb : bit (aM A t) c) (h : WyX A t c w src X) : wnF A t c = nI w := by
  unfold wnF
  rw [cI_t hb, wyF_s h]
theorem wnF_0 {A : Ab} {t c : Nat} (hb : bit (aM A t) c) (h : wyF A t c = none) : wnF A t c = 0 := by
  unfold wnF
  rw [cI_t hb, h]
theorem wnF_n {A : Ab} {t c : Nat} (hb : ¬ bit (aM A t) c) : wnF A t c = -1 := cI_f hb
/-! nodes -/
def Ag (A A' : Ab) (t : Nat) : Prop := A'.1 = A.1 ∧ aV A' = aV A ∧ ∀ t', t ≤ t' → aM A' t' = aM A t'
theorem Ag.rf {A : Ab} {t : Nat} : Ag A A t := ⟨rfl, rfl, fun _ _ => rfl⟩
theorem Ag.g {A A' : Ab} {t : Nat} (h : Ag A A' t) : aG A' = aG A ∧ aS A' = aS A ∧ aT A' = aT A ∧ aH A' = aH A := by
  have e := h.1
  unfold aG aS aT aH
  rw [e]
  exact ⟨rfl, rfl, rfl, rfl⟩
theorem Ag.cw {A A' : Ab} {t : Nat} (h : Ag A A' t) (hK : Cw A) : Cw A' := by
  obtain ⟨g1, g2, g3, g4⟩ := h.g
  intro t ht
  rw [g3] at ht
  rw [g1, g2, h.2.1]
  exact hK t ht
theorem Ag.mono {A A' : Ab} {t : Nat} (h : Ag A A' t) : Ag A A' (t + 1) := ⟨h.1, h.2.1, fun t' ht => h.2.2 t' (by omega)⟩
theorem Ag.los {A A' : Ab} {t c : Nat} (h : Ag A A' t) : Ag A (aLos A' t c) (t + 1) := ⟨h.1, h.2.1, fun t' ht => by
  show (if t' = t then aM A' t ||| 2 ^ c else aM A' t') = _
  rw [if_neg (by omega)]
  exact h.2.2 t' (by omega)⟩
theorem Ag.mnd {A A' : Ab} {t c w src : Nat} (h : Ag A A' t) : Ag A (aMnd A' t c w src (aV A' t c)) (t + 1) := ⟨h.1, (show put2 (aV A') t c (aV A' t c) = aV A by rw [put2_same]; exact h.2.1), fun t' ht => by
  show (if t' = t then clr (aM A' t) c else aM A' t') = _
  rw [if_neg (by omega)]
  exact h.2.2 t' (by omega)⟩
theorem Ag.wy {A A' : Ab} {t c : Nat} (h : Ag A A' t) : wyF A' t c = wyF A t c := wyF_cg h.1 (by rw [h.2.1]) (h.2.2 t (Nat.le_refl t))
theorem Ag.wn {A A' : Ab} {t c : Nat} (h : Ag A A' t) : wnF A' t c = wnF A t c := by
  unfold wnF
  rw [h.wy, h.2.2 t (Nat.le_refl t)]
/-- the cell of the stripe t that lies on the node nd -/
abbrev cnA (A : Ab) (nd t : Nat) : Nat := con (nc (aG A) (aS A)) nd (t * aH A)
theorem Ag.con {A A' : Ab} {t nd : Nat} (h : Ag A A' t) (t' : Nat) : cnA A' nd t' = cnA A nd t' := by
  obtain ⟨g1, g2, g3, g4⟩ := h.g
  show Jvm.Pilot.CLocalMendersLaw_law_r9733_bb337c.con (nc (aG A') (aS A')) nd (t' * aH A') = _
  rw [g1, g2, g4]
def lnC (A : Ab) (nd : Nat) : Nat → Nat → Nat
  | 0, _ => 0
  | m + 1, t => (if bit (aM A t) (cnA A nd t) then 0 else 1) + lnC A nd m (t + 1)
theorem lnC_le {A : Ab} {nd : Nat} : ∀ m t, lnC A nd m t ≤ m
  | 0, _ => Nat.le_refl 0
  | m + 1, t => by
    have := lnC_le (A := A) (nd := nd) m (t + 1)
    show (if bit (aM A t) (cnA A nd t) then 0 else 1) + lnC A nd m (t + 1) ≤ m + 1
    split <;> omega
theorem lnG_c {A : Ab} {nd : Nat} : ∀ m t A', Ag A A' t → (lnG nd m t A').1 = lnC A nd m t
  | 0, _, _, _ => rfl
  | m + 1, t, A', h => by
    show _ = (if bit (aM A t) (cnA A nd t) then 0 else 1) + lnC A nd m (t + 1)
    by_cases q : bit (aM A' t) (cnA A' nd t)
    · have q2 : bit (aM A t) (cnA A nd t) := by rw [← h.con t, ← h.2.2 t (Nat.le_refl t)]; exact q
      rw [lnG_t q, if_pos q2, Nat.zero_add]
      exact lnG_c m (t + 1) A' h.mono
    · have q2 : ¬ bit (aM A t) (cnA A nd t) := by rw [← h.con t, ← h.2.2 t (Nat.le_refl t)]; exact q
      rw [lnG_f q, if_neg q2, Nat.add_comm 1]
      show (lnG nd m (t + 1) _).1 + 1 = _
      rw [lnG_c m (t + 1) _ h.los]
noncomputable def mnC (A : Ab) (nd : Nat) : Nat → Nat → Option Nat
  | 0, _ => some 0
  | m + 1, t => cI (bit (aM A t) (cnA A nd t)) (match wyF A t (cnA A nd t) with
    | none => none
    | some p => (mnC A nd m (t + 1)).map (fun x => pcn p.2.1 20 + x)) (mnC A nd m (t + 1))
theorem mnC_f {A : Ab} {nd m t : Nat} (h : ¬ bit (aM A t) (cnA A nd t)) : mnC A nd (m + 1) t = mnC A nd m (t + 1) := cI_f h
theorem mnC_0 {A : Ab} {nd m t : Nat} (h : bit (aM A t) (cnA A nd t)) (hw : wyF A t (cnA A nd t) = none) : mnC A nd (m + 1) t = none := (cI_t h).trans (by rw [hw])
theorem mnC_s {A : Ab} {nd m t w src X : Nat} (h : bit (aM A t) (cnA A nd t)) (hw : WyX A t (cnA A nd t) w src X) : mnC A nd (m + 1) t = (mnC A nd m (t + 1)).map (fun x => pcn src 20 + x) := (cI_t h).trans (by rw [wyF_s hw])
theorem mnG_c {A : Ab} {nd : Nat} : ∀ m t A', AOK A' → Cw A' → Ag A A' t → t + m ≤ aT A → (mnG nd m t A').map (fun r => r.1) = mnC A nd m t
  | 0, _, _, _, _, _, _ => rfl
  | m + 1, t, A', hA, hK, h, hm => by
    have hn := hA.1.nc
    have ht : t < aT A' := by rw [h.g.2.2.1]; omega
    have hcn : cnA A' nd t < nc (aG A') (aS A') := con_lt (by omega)
    by_cases q : bit (aM A' t) (cnA A' nd t)
    · have q2 : bit (aM A t) (cnA A nd t) := by rw [← h.con t, ← h.2.2 t (Nat.le_refl t)]; exact q
      rcases way_cases A' t (cnA A' nd t) with ⟨w, src, X, hw⟩ | hw
      · have eX := hw.val hA hK ht hcn q
        subst eX
        have hw2 : wyF A t (cnA A nd t) = some (w, src, aV A' t (cnA A' nd t)) := by rw [← h.con t, ← h.wy]; exact wyF_s hw
        rw [mnG_s q hw]
        show Option.map _ _ = cI (bit (aM A t) (cnA A nd t)) (match wyF A t (cnA A nd t) with
          | none => none
          | some p => (mnC A nd m (t + 1)).map (fun x => pcn p.2.1 20 + x)) (mnC A nd m (t + 1))
        rw [cI_t q2, hw2]
        dsimp only
        rw [← mnG_c m (t + 1) (aMnd A' t (cnA A' nd t) w src (aV A' t (cnA A' nd t))) (aMnd_ok hA ht hcn (hw.lt hA hcn)) ((wk_mnd hA hK ht hcn q hw).cw hK) h.mnd (by omega)]
        generalize mnG nd m (t + 1) _ = r
        cases r <;> rfl
      · have hw2 : wyF A t (cnA A nd t) = none := by rw [← h.con t, ← h.wy]; exact hw
        rw [mnG_0 q hw, mnC_0 q2 hw2]
        rfl
    · have q2 : ¬ bit (aM A t) (cnA A nd t) := by rw [← h.con t, ← h.2.2 t (Nat.le_refl t)]; exact q
      rw [mnG_f q, mnC_f q2]
      exact mnG_c m (t + 1) A' hA hK h.mono (by omega)
theorem mnC_le {A : Ab} {nd : Nat} (hA : AOK A) : ∀ m t x, t + m ≤ aT A → mnC A nd m t = some x → x ≤ 20 * m
  | 0, _, x, _, h => by
    cases h
    exact Nat.le_refl 0
  | m + 1, t, x, hm, h => by
    have hn := hA.1.nc
    have hcn : cnA A nd t < nc (aG A) (aS A) := con_lt (by omega)
    by_cases q : bit (aM A t) (cnA A nd t)
    · rcases way_cases A t (cnA A nd t) with ⟨w, src, X, hw⟩ | hw
      · rw [mnC_s q hw] at h
        cases e : mnC A nd m (t + 1) with
        | none => rw [e] at h; cases h
        | some y =>
          rw [e] at h
          cases h
          have := mnC_le hA m (t + 1) y (by omega) e
          have := pcn_le src 20
          show pcn src 20 + y ≤ 20 * (m + 1)
          omega
      · rw [mnC_0 q hw] at h
        cases h
    · rw [mnC_f q] at h
      have := mnC_le hA m (t + 1) x (by omega) h
      omega
theorem and_low (a b : Nat) : (2 * a) &&& (2 * b + 1) = 2 * (a &&& b) := by
  apply Nat.eq_of_testBit_eq
  intro i
  cases i with
  | zero => simp
  | succ i =>
    rw [Nat.testBit_and, Nat.testBit_succ, Nat.testBit_succ, Nat.testBit_succ, show 2 * a / 2 = a by omega, show (2 * b + 1) / 2 = b by omega, show 2 * (a &&& b) / 2 = a &&& b by omega, Nat.testBit_and]
theorem and_odd (a : Nat) : (2 * a + 1) &&& (2 * a) = 2 * a := by
  apply Nat.eq_of_testBit_eq
  intro i
  cases i with
  | zero => simp
  | succ i =>
    rw [Nat.testBit_and, Nat.testBit_succ, Nat.testBit_succ, show 2 * a / 2 = a by omega, show (2 * a + 1) / 2 = a by omega, Bool.and_self]
theorem pcn_low : ∀ (n M : Nat), M ≠ 0 → M < 2 ^ n → M &&& (M - 1) < M ∧ pcn (M &&& (M - 1)) n + 1 = pcn M n
  | 0, M, h0, h1 => absurd h1 (by omega)
  | n + 1, M, h0, h1 => by
    have e1 : ∀ x : Nat, pcn x (n + 1) = x % 2 + pcn (x / 2) n := fun x => by
      rw [Nat.add_comm n 1, pcn_add x n 1]
      show 0 + x / 2 ^ 0 % 2 + pcn (x / 2 ^ 1) n = _
      rw [Nat.pow_zero, Nat.div_one, Nat.pow_one, Nat.zero_add]
    rcases (show M % 2 = 0 ∨ M % 2 = 1 by omega) with q | q
    · have eM : M = 2 * (M / 2) := by omega
      have e2 : M - 1 = 2 * (M / 2 - 1) + 1 := by omega
      have ih := pcn_low n (M / 2) (by omega) (by rw [Nat.pow_succ] at h1; omega)
      have e3 : M &&& (M - 1) = 2 * (M / 2 &&& (M / 2 - 1)) := by
        rw [e2]
        have := and_low (M / 2) (M / 2 - 1)
        rwa [← eM] at this
      rw [e3]
      refine ⟨by omega, ?_⟩
      rw [e1, e1 M, show 2 * (M / 2 &&& (M / 2 - 1)) / 2 = M / 2 &&& (M / 2 - 1) by omega]
      omega
    · have eM : M = 2 * (M / 2) + 1 := by omega
      have e2 : M - 1 = 2 * (M / 2) := by omega
      have e3 : M &&& (M - 1) = 2 * (M / 2) := by
        rw [e2]
        have := and_odd (M / 2)
        rwa [← eM] at this
      rw [e3]
      refine ⟨by omega, ?_⟩
      rw [e1, e1 M, show 2 * (M / 2) / 2 = M / 2 by omega]
      omega
