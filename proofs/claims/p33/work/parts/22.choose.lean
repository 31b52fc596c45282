/-! THE SEARCH GOES THROUGH ALL SETS -/
theorem bit_lt {M j c : Nat} (hM : M < 2 ^ j) (hb : bit M c) : c < j := by
  rcases Nat.lt_or_ge c j with q | q
  · exact q
  · have h1 : M / 2 ^ c = 0 := Nat.div_eq_of_lt (Nat.lt_of_lt_of_le hM (Nat.pow_le_pow_right (by decide) q))
    have h2 : M / 2 ^ c % 2 = 1 := hb
    rw [h1] at h2
    cases h2
theorem bit_or {M j c : Nat} : bit (M ||| 2 ^ j) c ↔ bit M c ∨ c = j := by
  rw [bit_tb, bit_tb, Nat.testBit_or, Nat.testBit_two_pow]
  by_cases e : j = c
  · subst e; simp
  · simp [e, Ne.symm e]
theorem or_lt {M fr j : Nat} (hM : M < 2 ^ fr) (hj : fr ≤ j) : M ||| 2 ^ j < 2 ^ (j + 1) := Nat.or_lt_two_pow (Nat.lt_of_lt_of_le hM (Nat.pow_le_pow_right (by decide) (by omega))) (Nat.pow_lt_pow_right (by decide) (by omega))
theorem pcn_congr {M M' : Nat} : ∀ j, (∀ c, c < j → (bit M c ↔ bit M' c)) → pcn M j = pcn M' j
  | 0, _ => rfl
  | j + 1, h => by
    have h1 := h j (by omega)
    have h2 : M / 2 ^ j % 2 = 1 ↔ M' / 2 ^ j % 2 = 1 := h1
    show pcn M j + M / 2 ^ j % 2 = pcn M' j + M' / 2 ^ j % 2
    rw [pcn_congr j (fun c hc => h c (by omega))]
    omega
theorem IndP.congr {C : Nat → Nat → Nat} {M M' j : Nat} (h : ∀ c, c < j → (bit M c ↔ bit M' c)) (hI : IndP C M j) : IndP C M' j := by
  intro c hc hb
  obtain ⟨l, l1, l2, l3⟩ := hI c hc ((h c hc).mpr hb)
  exact ⟨l, l1, l2, fun c' hc' hb' hne => l3 c' hc' ((h c' hc').mpr hb') hne⟩
theorem BInv.congr {C : Nat → Nat → Nat} {M M' j r : Nat} {U : Nat → Nat → Nat} {K : Nat → Nat} (h : ∀ c, c < j → (bit M c ↔ bit M' c)) (hB : BInv C M j r U K) : BInv C M' j r U K := by
  obtain ⟨h1, h2, h3, h4, h5, h6, h7, h8⟩ := hB
  refine ⟨h1, h2, fun c hc hb => h3 c hc ((h c hc).mpr hb), fun l hl => h4 l ⟨hl.1, fun c hc hb => hl.2 c hc ((h c hc).mp hb)⟩, h5, h6, by rw [← pcn_congr j h]; exact h7, ?_⟩
  rw [← pcn_congr j h, h8]
  exact ⟨fun q => q.congr h, fun q => q.congr (fun c hc => (h c hc).symm)⟩
/-- fewer cells -/
theorem IndP.less {C : Nat → Nat → Nat} {M M' j j' : Nat} (hjj : j ≤ j') (h : ∀ c, c < j → bit M c → bit M' c) (hI : IndP C M' j') : IndP C M j := by
  intro c hc hb
  obtain ⟨l, l1, l2, l3⟩ := hI c (by omega) (h c hc hb)
  exact ⟨l, l1, l2, fun c' hc' hb' hne => l3 c' (by omega) (h c' hc' hb') hne⟩
theorem IndP.ext {C : Nat → Nat → Nat} {M j n : Nat} (hM : M < 2 ^ j) (hI : IndP C M j) : IndP C M n := by
  intro c hc hb
  obtain ⟨l, l1, l2, l3⟩ := hI c (bit_lt hM hb) hb
  exact ⟨l, l1, l2, fun c' hc' hb' hne => l3 c' (bit_lt hM hb') hb' hne⟩
theorem BInv.skips {C : Nat → Nat → Nat} {M fr r : Nat} {U : Nat → Nat → Nat} {K : Nat → Nat} (hM : M < 2 ^ fr) (hB : BInv C M fr r U K) : ∀ k, BInv C M (fr + k) r U K
  | 0 => hB
  | k + 1 => (hB.skips hM k).skip (fun q => by have := bit_lt hM q; omega)
theorem pcn_skips {M fr : Nat} (hM : M < 2 ^ fr) (k : Nat) : pcn M (fr + k) = pcn M fr := pcn_hi hM k
/-- the flag: the chosen cells are independent, and the rows hold what is left; or they are not -/
def FInv (C : Nat → Nat → Nat) (n M fr L F : Nat) (R : Nat → Nat → Nat) : Prop :=
  (F = 0 ∧ ∃ U K, BInv C M fr L U K ∧ L = pcn M fr ∧ ∀ c, fr ≤ c → c < n → ∀ i, i < 6 → R c i = rst U K L (C c) i) ∨ (F = 1 ∧ ¬ IndP C M fr)
theorem FInv.more {C : Nat → Nat → Nat} {n M fr L F j : Nat} {R : Nat → Nat → Nat} (hF : FInv C n M fr L F R) (hC : ∀ c, c < n → B6 (C c)) (hM : M < 2 ^ fr) (hj : fr ≤ j) (hjn : j < n) (hR : B6 (R j)) :
    (F = 1 ∨ (∀ i, i < 6 → R j i = 0) → ∀ R', FInv C n (M ||| 2 ^ j) (j + 1) (L + 1) 1 R') ∧
    (F = 0 → (¬ ∀ i, i < 6 → R j i = 0) → FInv C n (M ||| 2 ^ j) (j + 1) (L + 1) 0 (fun c i => R c i ^^^ gm (gm (R j i) (gv (R j (ldv (R j))))) (R c (ldv (R j))))) := by
  have hcg : ∀ c, c < j → (bit M c ↔ bit (M ||| 2 ^ j) c) := fun c hc => by
    rw [bit_or]
    exact ⟨Or.inl, fun q => q.elim id (fun e => by omega)⟩
  have hbj : bit (M ||| 2 ^ j) j := bit_or.mpr (Or.inr rfl)
  have hbad : ¬ IndP C M fr → ¬ IndP C (M ||| 2 ^ j) (j + 1) := fun hno hI => hno (hI.less (by omega) (fun c hc hb => bit_or.mpr (Or.inl hb)))
  have hpc : ∀ U K, BInv C M fr L U K → L = pcn M fr → BInv C (M ||| 2 ^ j) j L U K ∧ L = pcn (M ||| 2 ^ j) j := by
    intro U K hB hL
    have h1 := hB.skips hM (j - fr)
    rw [show fr + (j - fr) = j by omega] at h1
    refine ⟨h1.congr hcg, ?_⟩
    rw [← pcn_congr j hcg]
    have h2 := pcn_skips hM (j - fr)
    rw [show fr + (j - fr) = j by omega] at h2
    rw [h2]
    exact hL
  refine ⟨fun hor R' => Or.inr ⟨rfl, ?_⟩, fun h0 hne => ?_⟩
  · rcases hF with ⟨hF0, U, K, hB, hL, hrst⟩ | ⟨-, hno⟩
    · rcases hor with q | hz
      · omega
      · obtain ⟨hB', hL'⟩ := hpc U K hB hL
        have hD := hB'.dep (hC j hjn) hbj (fun i hi => by rw [← hrst j hj hjn i hi]; exact hz i hi)
        intro hI
        have e := hD.2.2.2.2.2.2.2.mpr hI
        have e2 : pcn (M ||| 2 ^ j) (j + 1) = pcn (M ||| 2 ^ j) j + 1 := by
          show pcn (M ||| 2 ^ j) j + (M ||| 2 ^ j) / 2 ^ j % 2 = _
          rw [show (M ||| 2 ^ j) / 2 ^ j % 2 = 1 from hbj]
        omega
    · exact hbad hno
  · rcases hF with ⟨hF0, U, K, hB, hL, hrst⟩ | ⟨hF1, -⟩
    · obtain ⟨hB', hL'⟩ := hpc U K hB hL
      have hex : ∃ i, i < 6 ∧ R j i ≠ 0 := by
        apply Classical.byContradiction
        intro hno
        exact hne (fun i hi => Classical.byContradiction fun q => hno ⟨i, hi, q⟩)
      have hsp := ldv_spec hex
      have hld := ldv_lt (R j)
      have hw : ∃ i, i < 6 ∧ rst U K L (C j) i ≠ 0 := by
        obtain ⟨i, hi, q⟩ := hex
        exact ⟨i, hi, by rw [← hrst j hj hjn i hi]; exact q⟩
      have hr6 : L < 6 := by
        obtain ⟨i, hi, q⟩ := hw
        exact hB'.room (hC j hjn) hi q
      have ew : ∀ i, i < 6 → rst U K L (C j) i = R j i := fun i hi => (hrst j hj hjn i hi).symm
      have e2 : pcn (M ||| 2 ^ j) (j + 1) = pcn (M ||| 2 ^ j) j + 1 := by
        show pcn (M ||| 2 ^ j) j + (M ||| 2 ^ j) / 2 ^ j % 2 = _
        rw [show (M ||| 2 ^ j) / 2 ^ j % 2 = 1 from hbj]
      refine Or.inl ⟨rfl, (fun p => if p = L then (fun i => gm (rst U K L (C j) i) (gv (rst U K L (C j) (ldv (R j))))) else U p), (fun p => if p = L then ldv (R j) else K p), ?_, by omega, ?_⟩
      · exact hB'.more (ld := ldv (R j)) (hC j hjn) (fun c hc => hC c (by omega)) hbj hr6 hld (by rw [ew _ hld]; exact hsp) (fun p hp i _ => by rw [if_neg (by omega)]) (fun p hp => by rw [if_neg (by omega)]) (fun i _ => by rw [if_pos rfl]) (if_pos rfl)
      · intro c h1 h2 i hi
        show R c i ^^^ gm (gm (R j i) (gv (R j (ldv (R j))))) (R c (ldv (R j))) = rst _ _ L (C c) i ^^^ gm ((if L = L then (fun i => gm (rst U K L (C j) i) (gv (rst U K L (C j) (ldv (R j))))) else U L) i) (rst _ _ L (C c) (if L = L then ldv (R j) else K L))
        rw [if_pos rfl, if_pos rfl]
        have hold := rst_congr (U := U) (K := K) (U' := fun p => if p = L then (fun i => gm (rst U K L (C j) i) (gv (rst U K L (C j) (ldv (R j))))) else U p) (K' := fun p => if p = L then ldv (R j) else K p) (r := L) (fun p hp i _ => by show U p i = (if p = L then _ else U p) i; rw [if_neg (by omega)]) (fun p hp => by show K p = if p = L then _ else K p; rw [if_neg (by omega)]) (fun p hp => (hB.2.1 p hp).2) L (Nat.le_refl L) (C c)
        rw [← hold i hi, ← hold _ hld, ← hrst c (by omega) h2 i hi, ← hrst c (by omega) h2 _ hld]
        show _ = R c i ^^^ gm (gm (rst U K L (C j) i) (gv (rst U K L (C j) (ldv (R j))))) (R c (ldv (R j)))
        rw [ew i hi, ew _ hld]
    · omega
section SE
variable {E : AEnv} {b : Nat} {σ : Rows} {g s T sh : Nat}
end SE
