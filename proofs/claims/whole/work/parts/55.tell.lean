/-! SUMS OF CHECKS IN WHICH LOST CELLS ARE TOLD -/
/-- what the cell c is due in a sum that tells y -/
def tv (y : Int32) (c : Nat) : Nat := if nI c = y then 1 else 0
def gpf (g s α β c : Nat) : Nat := if c < g * s then gm α (pw c) ^^^ gm β (pw (2 * c)) else 0
theorem tv_lt (y : Int32) (c : Nat) : tv y c < 16 := by
  unfold tv
  split <;> decide
theorem gpf_lt {g s α β c : Nat} (ha : α < 16) (hb : β < 16) : gpf g s α β c < 16 := by
  unfold gpf
  split
  · exact xor_lt (gm_lt ha (pw_lt _)) (gm_lt hb (pw_lt _))
  · decide
theorem ev_all {g s c : Nat} {l : Nat → Nat} (hl : B6 l) (hg : g ≤ 4) (hc : c < nc g s) : ev l (colv g s c) = if hcv g s c < g then l (hcv g s c) ^^^ gpf g s (l g) (l (g + 1)) c else if hcv g s c = g then l g else l (g + 1) := by
  unfold gpf
  by_cases q : c < g * s
  · have eh : hcv g s c = c / s := if_pos q
    have hh := hcv_ltg (g := g) (s := s) q
    rw [ev_dat hl hg q, if_pos hh, eh, if_pos q]
  · have eh : hcv g s c = c - g * s := if_neg q
    rw [ev_par hl hg hc q, eh]
    unfold nc at hc
    by_cases q2 : c - g * s < g
    · rw [if_pos q2, if_neg q, Nat.xor_zero]
    · rw [if_neg q2]
      by_cases q3 : c - g * s = g
      · rw [if_pos q3, q3]
      · rw [if_neg q3, show c - g * s = g + 1 by omega]
theorem xor_eq {a b c : Nat} (h : a ^^^ b = c) : a = c ^^^ b := by rw [← h, Nat.xor_assoc, Nat.xor_self, Nat.xor_zero]
/-- the state of the search for local factors, behind the cells below j -/
def SI (g s M α β : Nat) (y : Int32) (j : Nat) (f : Nat → Int32) (U : Nat → Option Nat) : Prop :=
  (∀ k, k < 4 → f k = (match U k with | none => -1 | some v => nI v)) ∧
  (∀ c, c < j → c < nc g s → bit M c → if hcv g s c < g then U (hcv g s c) = some (tv y c ^^^ gpf g s α β c) else (if hcv g s c = g then α else β) = tv y c) ∧
  ∀ k v, U k = some v → ∃ c, c < j ∧ c < nc g s ∧ bit M c ∧ hcv g s c = k ∧ hcv g s c < g ∧ v = tv y c ^^^ gpf g s α β c
section SI_
variable {g s M α β j : Nat} {y : Int32} {f : Nat → Int32} {U : Nat → Option Nat}
theorem SI.start (h : ∀ k, k < 4 → f k = -1) : SI g s M α β y 0 f (fun _ => none) := ⟨h, fun c hc => absurd hc (Nat.not_lt_zero c), fun k v e => by cases e⟩
theorem SI.skip (h : SI g s M α β y j f U) (hb : ¬ bit M j) : SI g s M α β y (j + 1) f U := by
  obtain ⟨h1, h2, h3⟩ := h
  refine ⟨h1, fun c hc hn hbc => h2 c ?_ hn hbc, fun k v e => ?_⟩
  · by_cases q : c = j
    · exact absurd (q ▸ hbc) hb
    · omega
  · obtain ⟨c, a, b⟩ := h3 k v e
    exact ⟨c, by omega, b⟩
theorem SI.glo (h : SI g s M α β y j f U) (hh : ¬ hcv g s j < g) (he : (if hcv g s j = g then α else β) = tv y j) : SI g s M α β y (j + 1) f U := by
  obtain ⟨h1, h2, h3⟩ := h
  refine ⟨h1, fun c hc hn hbc => ?_, fun k v e => ?_⟩
  · by_cases q : c = j
    · subst q
      rw [if_neg hh]
      exact he
    · exact h2 c (by omega) hn hbc
  · obtain ⟨c, a, b⟩ := h3 k v e
    exact ⟨c, by omega, b⟩
theorem SI.loc (h : SI g s M α β y j f U) (hg : g ≤ 4) (hn : j < nc g s) (hb : bit M j) (hh : hcv g s j < g) (hU : U (hcv g s j) = none ∨ U (hcv g s j) = some (tv y j ^^^ gpf g s α β j)) :
    SI g s M α β y (j + 1) (upd f (hcv g s j) (nI (tv y j ^^^ gpf g s α β j))) (fun k => if k = hcv g s j then some (tv y j ^^^ gpf g s α β j) else U k) := by
  obtain ⟨h1, h2, h3⟩ := h
  refine ⟨fun k hk => ?_, fun c hc hcn hbc => ?_, fun k v e => ?_⟩
  · by_cases q : k = hcv g s j
    · rw [q, pk_us]
      simp
    · rw [pk_un q]
      simp only [if_neg q]
      exact h1 k hk
  · by_cases q : c = j
    · subst q
      rw [if_pos hh]
      exact if_pos rfl
    · have h4 := h2 c (by omega) hcn hbc
      by_cases q2 : hcv g s c < g
      · rw [if_pos q2] at h4 ⊢
        by_cases q3 : hcv g s c = hcv g s j
        · show (if hcv g s c = hcv g s j then _ else _) = _
          rw [if_pos q3]
          rw [q3] at h4
          rcases hU with e | e
          · rw [e] at h4
            cases h4
          · rw [e] at h4
            exact h4
        · show (if hcv g s c = hcv g s j then _ else _) = _
          rw [if_neg q3]
          exact h4
      · rw [if_neg q2] at h4 ⊢
        exact h4
  · by_cases q : k = hcv g s j
    · have e2 : (if k = hcv g s j then some (tv y j ^^^ gpf g s α β j) else U k) = some v := e
      rw [if_pos q] at e2
      cases e2
      exact ⟨j, by omega, hn, hb, q.symm, hh, rfl⟩
    · have e2 : (if k = hcv g s j then some (tv y j ^^^ gpf g s α β j) else U k) = some v := e
      rw [if_neg q] at e2
      obtain ⟨c, a, b⟩ := h3 k v e2
      exact ⟨c, by omega, b⟩
theorem SI.v16 (h : SI g s M α β y j f U) (ha : α < 16) (hb : β < 16) {k v : Nat} (e : U k = some v) : v < 16 := by
  obtain ⟨c, -, -, -, -, -, rfl⟩ := h.2.2 k v e
  exact xor_lt (tv_lt y c) (gpf_lt ha hb)
/-- all cells are behind -/
theorem SI.done (h : SI g s M α β y j f U) (hg : g ≤ 4) (ha : α < 16) (hb : β < 16) (ht : ∀ c, c < nc g s → bit M c → c < j) :
    (∀ k, k < g → (U k).getD 0 < 16 ∧ ((f k = -1 ∧ (U k).getD 0 = 0) ∨ f k = nI ((U k).getD 0))) ∧ ∀ c, c < nc g s → bit M c → ev (lfn g (fun k => (U k).getD 0) α β) (colv g s c) = tv y c := by
  have hF : ∀ k, k < g → (U k).getD 0 < 16 := fun k _ => by
    cases e : U k with
    | none => show 0 < 16; decide
    | some v => exact h.v16 ha hb e
  refine ⟨fun k hk => ⟨hF k hk, ?_⟩, fun c hc hbc => ?_⟩
  · have h1 := h.1 k (by omega)
    cases e : U k with
    | none =>
      rw [e] at h1
      exact Or.inl ⟨h1, rfl⟩
    | some v =>
      rw [e] at h1
      exact Or.inr h1
  · have h2 := h.2.1 c (ht c hc hbc) hc hbc
    rw [ev_all (lfn_lt hF ha hb) hg hc]
    have l2 : lfn g (fun k => (U k).getD 0) α β g = α := by unfold lfn; rw [if_neg (by omega), if_pos rfl]
    have l3 : lfn g (fun k => (U k).getD 0) α β (g + 1) = β := by unfold lfn; rw [if_neg (by omega), if_neg (by omega), if_pos rfl]
    rw [l2, l3]
    by_cases q : hcv g s c < g
    · rw [if_pos q] at h2 ⊢
      have l1 : lfn g (fun k => (U k).getD 0) α β (hcv g s c) = (U (hcv g s c)).getD 0 := if_pos q
      rw [l1, h2]
      show tv y c ^^^ gpf g s α β c ^^^ gpf g s α β c = tv y c
      rw [Nat.xor_assoc, Nat.xor_self, Nat.xor_zero]
    · rw [if_neg q] at h2 ⊢
      exact h2
/-- a group is due two factors -/
theorem SI.bad (h : SI g s M α β y j f U) (hg : g ≤ 4) (hn : j < nc g s) (hb : bit M j) (hh : hcv g s j < g) {v : Nat} (hU : U (hcv g s j) = some v) (hv : v ≠ tv y j ^^^ gpf g s α β j) {l : Nat → Nat} (hl : B6 l) (h1 : l g = α) (h2 : l (g + 1) = β) : ¬ ∀ c, c < nc g s → bit M c → ev l (colv g s c) = tv y c := by
  intro hall
  obtain ⟨c, -, c2, c3, c4, c5, c6⟩ := h.2.2 _ v hU
  have e1 := hall c c2 c3
  have e2 := hall j hn hb
  rw [ev_all hl hg c2, if_pos c5, h1, h2] at e1
  rw [ev_all hl hg hn, if_pos hh, h1, h2] at e2
  have e3 := xor_eq e1
  have e4 := xor_eq e2
  rw [c4] at e3
  exact hv (by rw [c6, ← e3, e4])
theorem glo_bad (hg : g ≤ 4) (hn : j < nc g s) (hb : bit M j) (hh : ¬ hcv g s j < g) (hv : (if hcv g s j = g then α else β) ≠ tv y j) {l : Nat → Nat} (hl : B6 l) (h1 : l g = α) (h2 : l (g + 1) = β) : ¬ ∀ c, c < nc g s → bit M c → ev l (colv g s c) = tv y c := by
  intro hall
  have e2 := hall j hn hb
  rw [ev_all hl hg hn, if_neg hh, h1, h2] at e2
  exact hv e2
end SI_
/-! what such sums say of mending -/
theorem dual_tv {g s M cc : Nat} {l : Nat → Nat} (hl : B6 l) (hn : nc g s ≤ 20) (hcc : cc < nc g s) (hb : bit M cc) : (∀ c, c < nc g s → bit M c → ev l (colv g s c) = tv (nI cc) c) ↔ Dual (colv g s) M (nc g s) cc l := by
  have e1 : tv (nI cc) cc = 1 := if_pos rfl
  have e0 : ∀ c, c < nc g s → c ≠ cc → tv (nI cc) c = 0 := fun c hc hne => if_neg (fun q => hne ((nI_eq (by omega) (by omega)).mp q))
  constructor
  · intro h
    exact ⟨hl, (h cc hcc hb).trans e1, fun c hc hbc hne => (h c hc hbc).trans (e0 c hc hne)⟩
  · rintro ⟨-, h1, h2⟩ c hc hbc
    by_cases q : c = cc
    · rw [q, h1, e1]
    · rw [h2 c hc hbc q, e0 c hc q]
theorem van_tv {g s M : Nat} {l : Nat → Nat} (hl : B6 l) (hn : nc g s ≤ 20) : (∀ c, c < nc g s → bit M c → ev l (colv g s c) = tv (-5) c) ↔ Van (colv g s) M (nc g s) l := by
  have e0 : ∀ c, c < nc g s → tv (-5) c = 0 := fun c hc => if_neg (nI_m5 (by omega))
  exact ⟨fun h => ⟨hl, fun c hc hb => (h c hc hb).trans (e0 c hc)⟩, fun h c hc hb => (h.2 c hc hb).trans (e0 c hc).symm⟩
theorem free_iff {g s k M : Nat} (hs : 0 < s) (hk : k < g) (hM : M < 2 ^ nc g s) : M &&& gcv g s k = 0 ↔ ∀ c, c < nc g s → bit M c → hcv g s c ≠ k := by
  constructor
  · intro h c _ hb e
    have q : bit (M &&& gcv g s k) c := bit_and.mpr ⟨hb, (grp_iff hs hk).mpr e⟩
    rw [h] at q
    exact nbit0 c q
  · intro h
    apply eq_bits
    intro x
    refine ⟨fun q => ?_, fun q => absurd q (nbit0 x)⟩
    obtain ⟨q1, q2⟩ := bit_and.mp q
    exact absurd ((grp_iff hs hk).mp q2) (h x (bit_big hM q1) q1)
/-- sums that agree in the global factors see the same, if the free groups are consistent -/
theorem van_same {g s M : Nat} {S l l' : Nat → Nat} (hg : g ≤ 4) (hl : B6 l) (hl' : B6 l') (h1 : l g = l' g) (h2 : l (g + 1) = l' (g + 1)) (hv : ∀ c, c < nc g s → bit M c → ev l (colv g s c) = ev l' (colv g s c)) (hfree : ∀ k, k < g → (∀ c, c < nc g s → bit M c → hcv g s c ≠ k) → S k = 0) (hS : ∀ k, g + 2 ≤ k → S k = 0) : ev l S = ev l' S := by
  have key : ∀ i, i < 6 → gm (l i) (S i) = gm (l' i) (S i) := by
    intro i hi
    by_cases q : i < g
    · by_cases f : ∀ c, c < nc g s → bit M c → hcv g s c ≠ i
      · rw [hfree i q f, gm_0 (hl i hi), gm_0 (hl' i hi)]
      · have ⟨c, f⟩ : ∃ c, c < nc g s ∧ bit M c ∧ hcv g s c = i := Classical.byContradiction (fun w => f (fun c a b e => w ⟨c, a, b, e⟩))
        obtain ⟨f1, f2, f3⟩ := f
        have e := hv c f1 f2
        rw [ev_all hl hg f1, ev_all hl' hg f1, if_pos (by omega), if_pos (by omega), h1, h2, f3] at e
        have e2 := xor_eq e
        rw [Nat.xor_assoc, Nat.xor_self, Nat.xor_zero] at e2
        rw [e2]
    · by_cases q2 : i = g
      · rw [q2, h1]
      · by_cases q3 : i = g + 1
        · rw [q3, h2]
        · rw [hS i (by omega), gm_0 (hl i hi), gm_0 (hl' i hi)]
  unfold ev
  rw [key 0 (by decide), key 1 (by decide), key 2 (by decide), key 3 (by decide), key 4 (by decide), key 5 (by decide)]
theorem Dual.same {C : Nat → Nat → Nat} {M n c : Nat} {S l l' : Nat → Nat} (hC : ∀ c, c < n → B6 (C c)) (hcn : c < n) (hS : B6 S) (h : Dual C M n c l) (h' : Dual C M n c l') (hv : ∀ l, Van C M n l → ev l S = 0) : ev l S = ev l' S := by
  have q := hv (fun i => l i ^^^ l' i) ⟨h.1.xor h'.1, fun c' hc' hb' => by
    rw [ev_xor_l h.1 h'.1 (hC c' hc')]
    by_cases e : c' = c
    · rw [e, h.2.1, h'.2.1]
      rfl
    · rw [h.2.2 c' hc' hb' e, h'.2.2 c' hc' hb' e]
      rfl⟩
  rw [ev_xor_l h.1 h'.1 hS] at q
  exact xor_eq0 q
