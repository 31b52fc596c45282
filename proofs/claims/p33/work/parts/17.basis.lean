/-! WHAT A BASIS OF SOME COLUMNS KNOWS -/
theorem php : ∀ (N : Nat) (l : List Nat), l.Nodup → (∀ x ∈ l, x < N) → l.length ≤ N
  | 0, l, _, h => by
    cases l with
    | nil => exact Nat.le_refl _
    | cons a l => exact absurd (h a List.mem_cons_self) (Nat.not_lt_zero a)
  | N + 1, l, hn, h => by
    have h1 : (l.erase N).Nodup := hn.erase N
    have h2 : ∀ x ∈ l.erase N, x < N := by
      intro x hx
      have h3 := (hn.mem_erase_iff).mp hx
      have h4 := h x h3.2
      have h5 := h3.1
      omega
    have h6 := php N _ h1 h2
    have h7 : l.length ≤ (l.erase N).length + 1 := by
      rw [List.length_erase]
      split <;> omega
    omega
/-- six different places below six are all of them -/
theorem six_all {K : Nat → Nat} (hK : ∀ p, p < 6 → K p < 6) (hd : ∀ p q, p < q → q < 6 → K p ≠ K q) {i : Nat} (hi : i < 6) : ∃ p, p < 6 ∧ K p = i := by
  apply Classical.byContradiction
  intro hno
  have hn : ∀ p, p < 6 → K p ≠ i := fun p hp q => hno ⟨p, hp, q⟩
  have h := php 6 [K 0, K 1, K 2, K 3, K 4, K 5, i] (by
    simp only [List.nodup_cons, List.mem_cons, List.not_mem_nil, or_false, not_or, not_false_eq_true, and_true, List.nodup_nil]
    exact ⟨⟨hd 0 1 (by decide) (by decide), hd 0 2 (by decide) (by decide), hd 0 3 (by decide) (by decide), hd 0 4 (by decide) (by decide), hd 0 5 (by decide) (by decide), hn 0 (by decide)⟩,
      ⟨hd 1 2 (by decide) (by decide), hd 1 3 (by decide) (by decide), hd 1 4 (by decide) (by decide), hd 1 5 (by decide) (by decide), hn 1 (by decide)⟩,
      ⟨hd 2 3 (by decide) (by decide), hd 2 4 (by decide) (by decide), hd 2 5 (by decide) (by decide), hn 2 (by decide)⟩,
      ⟨hd 3 4 (by decide) (by decide), hd 3 5 (by decide) (by decide), hn 3 (by decide)⟩,
      ⟨hd 4 5 (by decide) (by decide), hn 4 (by decide)⟩, hn 5 (by decide)⟩) (by
    intro x hx
    simp only [List.mem_cons, List.not_mem_nil, or_false] at hx
    rcases hx with rfl | rfl | rfl | rfl | rfl | rfl | rfl
    · exact hK 0 (by decide)
    · exact hK 1 (by decide)
    · exact hK 2 (by decide)
    · exact hK 3 (by decide)
    · exact hK 4 (by decide)
    · exact hK 5 (by decide)
    · exact hi)
  simp at h
/-- each column of the set can be told from the others by a functional -/
def Dual (C : Nat → Nat → Nat) (M n c : Nat) (l : Nat → Nat) : Prop := B6 l ∧ ev l (C c) = 1 ∧ ∀ c', c' < n → bit M c' → c' ≠ c → ev l (C c') = 0
def Van (C : Nat → Nat → Nat) (M n : Nat) (l : Nat → Nat) : Prop := B6 l ∧ ∀ c, c < n → bit M c → ev l (C c) = 0
def IndP (C : Nat → Nat → Nat) (M n : Nat) : Prop := ∀ c, c < n → bit M c → ∃ l, Dual C M n c l
def pcn (M : Nat) : Nat → Nat
  | 0 => 0
  | j + 1 => pcn M j + M / 2 ^ j % 2
def BInv (C : Nat → Nat → Nat) (M j r : Nat) (U : Nat → Nat → Nat) (K : Nat → Nat) : Prop :=
  r ≤ 6 ∧ BasOK U K r ∧ (∀ c, c < j → bit M c → ∀ i, i < 6 → rst U K r (C c) i = 0) ∧ (∀ l, Van C M j l → ∀ p, p < r → ev l (U p) = 0) ∧
  (∀ p, p < r → ∀ v, B6 v → rst U K r v (K p) = 0) ∧ (∀ p q, p < q → q < r → K p ≠ K q) ∧ r ≤ pcn M j ∧ (r = pcn M j ↔ IndP C M j)
theorem rst_congr {U U' : Nat → Nat → Nat} {K K' : Nat → Nat} {r : Nat} (hU : ∀ p, p < r → ∀ i, i < 6 → U p i = U' p i) (hK : ∀ p, p < r → K p = K' p) (hK6 : ∀ p, p < r → K p < 6) : ∀ p, p ≤ r → ∀ (v : Nat → Nat) i, i < 6 → rst U K p v i = rst U' K' p v i
  | 0, _, _, _, _ => rfl
  | p + 1, hp, v, i, hi => by
    have ih := rst_congr hU hK hK6 p (by omega) v
    show rst U K p v i ^^^ gm (U p i) (rst U K p v (K p)) = rst U' K' p v i ^^^ gm (U' p i) (rst U' K' p v (K' p))
    rw [ih i hi, hU p (by omega) i hi, ← hK p (by omega), ih (K p) (hK6 p (by omega))]
theorem BInv.zero {C : Nat → Nat → Nat} {M : Nat} {U : Nat → Nat → Nat} {K : Nat → Nat} : BInv C M 0 0 U K :=
  ⟨Nat.zero_le _, fun p hp => absurd hp (Nat.not_lt_zero p), fun c hc => absurd hc (Nat.not_lt_zero c), fun l _ p hp => absurd hp (Nat.not_lt_zero p), fun p hp => absurd hp (Nat.not_lt_zero p), fun p q _ hq => absurd hq (Nat.not_lt_zero q), Nat.le_refl _, ⟨fun _ c hc => absurd hc (Nat.not_lt_zero c), fun _ => rfl⟩⟩
theorem lt_s1 {c j : Nat} (h : c < j + 1) : c < j ∨ c = j := by omega
theorem BInv.skip {C : Nat → Nat → Nat} {M j r : Nat} {U : Nat → Nat → Nat} {K : Nat → Nat} (h : BInv C M j r U K) (hb : ¬ bit M j) : BInv C M (j + 1) r U K := by
  obtain ⟨h1, h2, h3, h4, h5, h6, h7, h8⟩ := h
  have e0 : M / 2 ^ j % 2 = 0 := by
    have : ¬ M / 2 ^ j % 2 = 1 := hb
    omega
  have ep : pcn M (j + 1) = pcn M j := by show pcn M j + M / 2 ^ j % 2 = _; rw [e0]; rfl
  have old : ∀ c, c < j + 1 → bit M c → c < j := fun c hc hbc => (lt_s1 hc).elim id (fun q => absurd (q ▸ hbc) hb)
  refine ⟨h1, h2, fun c hc hbc => h3 c (old c hc hbc) hbc, fun l hl => h4 l ⟨hl.1, fun c hc hbc => hl.2 c (by omega) hbc⟩, h5, h6, by rw [ep]; exact h7, ?_⟩
  rw [ep, h8]
  constructor
  · intro hI c hc hbc
    obtain ⟨l, l1, l2, l3⟩ := hI c (old c hc hbc) hbc
    exact ⟨l, l1, l2, fun c' hc' hb' hne => l3 c' (old c' hc' hb') hb' hne⟩
  · intro hI c hc hbc
    obtain ⟨l, l1, l2, l3⟩ := hI c (by omega) hbc
    exact ⟨l, l1, l2, fun c' hc' hb' hne => l3 c' (by omega) hb' hne⟩
theorem BInv.dep {C : Nat → Nat → Nat} {M j r : Nat} {U : Nat → Nat → Nat} {K : Nat → Nat} (h : BInv C M j r U K) (hC : B6 (C j)) (hb : bit M j) (hw : ∀ i, i < 6 → rst U K r (C j) i = 0) : BInv C M (j + 1) r U K := by
  obtain ⟨h1, h2, h3, h4, h5, h6, h7, h8⟩ := h
  have hb' : M / 2 ^ j % 2 = 1 := hb
  have ep : pcn M (j + 1) = pcn M j + 1 := by show pcn M j + M / 2 ^ j % 2 = _; rw [hb']
  refine ⟨h1, h2, fun c hc hbc => ?_, fun l hl => h4 l ⟨hl.1, fun c hc hbc => hl.2 c (by omega) hbc⟩, h5, h6, by omega, ?_⟩
  · rcases lt_s1 hc with q | rfl
    · exact h3 c q hbc
    · exact hw
  · constructor
    · intro e; omega
    · intro hI
      obtain ⟨l, l1, l2, l3⟩ := hI j (by omega) hb
      have hv : Van C M j l := ⟨l1, fun c hc hbc => l3 c (by omega) hbc (by omega)⟩
      have e1 := ev_rst h2 l1 (h4 l hv) r (Nat.le_refl r) hC
      rw [ev_0 l1 hw, l2] at e1
      cases e1
theorem BInv.room {C : Nat → Nat → Nat} {M j r : Nat} {U : Nat → Nat → Nat} {K : Nat → Nat} (h : BInv C M j r U K) {v : Nat → Nat} (hv : B6 v) {i : Nat} (hi : i < 6) (hw : rst U K r v i ≠ 0) : r < 6 := by
  obtain ⟨h1, h2, -, -, h5, h6, -⟩ := h
  rcases Nat.lt_or_ge r 6 with q | q
  · exact q
  · exfalso
    have e : r = 6 := by omega
    subst e
    obtain ⟨p, hp, e⟩ := six_all (fun p hp => (h2 p hp).2) h6 hi
    exact hw (by rw [← e]; exact h5 p hp v hv)
/-- one more column, that isn't 0 behind the basis -/
theorem BInv.more {C : Nat → Nat → Nat} {M j r ld : Nat} {U U' : Nat → Nat → Nat} {K K' : Nat → Nat} (h : BInv C M j r U K) (hC : B6 (C j)) (hCs : ∀ c, c < j → B6 (C c)) (hb : bit M j) (hr : r < 6) (hld : ld < 6) (hw : rst U K r (C j) ld ≠ 0)
    (hU : ∀ p, p < r → ∀ i, i < 6 → U p i = U' p i) (hK : ∀ p, p < r → K p = K' p) (hUr : ∀ i, i < 6 → U' r i = gm (rst U K r (C j) i) (gv (rst U K r (C j) ld))) (hKr : K' r = ld) : BInv C M (j + 1) (r + 1) U' K' := by
  obtain ⟨h1, h2, h3, h4, h5, h6, h7, h8⟩ := h
  have hb' : M / 2 ^ j % 2 = 1 := hb
  have ep : pcn M (j + 1) = pcn M j + 1 := by show pcn M j + M / 2 ^ j % 2 = _; rw [hb']
  have hwB := rst_lt h2 r (Nat.le_refl r) hC
  have hx : rst U K r (C j) ld < 16 := hwB ld hld
  have hg := gv_lt hx
  have hold : ∀ p, p ≤ r → ∀ (v : Nat → Nat) i, i < 6 → rst U K p v i = rst U' K' p v i := rst_congr hU hK (fun p hp => (h2 p hp).2)
  have hB' : BasOK U' K' (r + 1) := by
    intro p hp
    rcases lt_s1 hp with q | rfl
    · exact ⟨fun i hi => by rw [← hU p q i hi]; exact (h2 p q).1 i hi, by rw [← hK p q]; exact (h2 p q).2⟩
    · exact ⟨fun i hi => by rw [hUr i hi]; exact gm_lt (hwB i hi) hg, by rw [hKr]; exact hld⟩
  have step : ∀ (v : Nat → Nat) i, i < 6 → rst U' K' (r + 1) v i = rst U K r v i ^^^ gm (gm (rst U K r (C j) i) (gv (rst U K r (C j) ld))) (rst U K r v ld) := by
    intro v i hi
    show rst U' K' r v i ^^^ gm (U' r i) (rst U' K' r v (K' r)) = _
    rw [hKr, ← hold r (Nat.le_refl r) v i hi, ← hold r (Nat.le_refl r) v ld hld, hUr i hi]
  have unit : gm (rst U K r (C j) ld) (gv (rst U K r (C j) ld)) = 1 := gm_gv hx hw
  -- the functional that tells the new column
  have hlB := lam_lt h2 r (Nat.le_refl r) ld hld
  have hmu : ∀ v, B6 v → ev (fun k => gm (lam U K r ld k) (gv (rst U K r (C j) ld))) v = gm (rst U K r v ld) (gv (rst U K r (C j) ld)) := fun v hv => by
    rw [ev_gm_l hlB hv hg, lam_ev h2 r (Nat.le_refl r) ld hld hv]
  refine ⟨by omega, hB', fun c hc hbc i hi => ?_, fun l hl p hp => ?_, fun p hp v hv => ?_, fun p q hpq hq => ?_, by omega, ?_⟩
  · rw [step (C c) i hi]
    rcases lt_s1 hc with q | rfl
    · rw [h3 c q hbc i hi, h3 c q hbc ld hld, gm_0 (gm_lt (hwB i hi) hg)]
      rfl
    · rw [gm_assoc (hwB i hi) hg hx, gm_comm hg hx, unit, gm_1 (hwB i hi), Nat.xor_self]
  · have hlo : Van C M j l := ⟨hl.1, fun c hc hbc => hl.2 c (by omega) hbc⟩
    rcases lt_s1 hp with q | rfl
    · rw [ev_congr (l' := l) (v' := U p) (fun _ _ => rfl) (fun i hi => (hU p q i hi).symm)]
      exact h4 l hlo p q
    · rw [ev_congr (l' := l) (v' := fun i => gm (rst U K p (C j) i) (gv (rst U K p (C j) ld))) (fun _ _ => rfl) hUr, ev_gm_r hl.1 hwB hg, ev_rst h2 hl.1 (h4 l hlo) p (Nat.le_refl p) hC, hl.2 j (by omega) hb, gm_0l hg]
  · rcases lt_s1 hp with q | rfl
    · rw [← hK p q, step v _ (h2 p q).2, h5 p q v hv, h5 p q (C j) hC, gm_0l hg, gm_0l (rst_lt h2 r (Nat.le_refl r) hv ld hld)]
      rfl
    · rw [hKr, step v ld hld, unit, gm_1l (rst_lt h2 p (Nat.le_refl p) hv ld hld), Nat.xor_self]
  · rcases lt_s1 hq with qq | rfl
    · rw [← hK p (by omega), ← hK q qq]
      exact h6 p q hpq qq
    · rw [hKr, ← hK p hpq]
      intro e
      exact hw (by rw [← e]; exact h5 p hpq (C j) hC)
  · rw [ep]
    constructor
    · intro e c hc hbc
      have hI := h8.mp (by omega)
      have hmu0 : ∀ c', c' < j → bit M c' → ev (fun k => gm (lam U K r ld k) (gv (rst U K r (C j) ld))) (C c') = 0 := fun c' hc' hb' => by
        rw [hmu (C c') (hCs c' hc'), h3 c' hc' hb' ld hld, gm_0l hg]
      rcases lt_s1 hc with q | rfl
      · obtain ⟨l, l1, l2, l3⟩ := hI c q hbc
        have hy := ev_lt l1 hC
        refine ⟨fun k => l k ^^^ gm (gm (lam U K r ld k) (gv (rst U K r (C j) ld))) (ev l (C j)), l1.xor ((hlB.gm hg).gm hy), ?_, fun c' hc' hb' hne => ?_⟩
        · rw [ev_xor_l l1 ((hlB.gm hg).gm hy) (hCs c q), ev_gm_l (hlB.gm hg) (hCs c q) hy, hmu0 c q hbc, gm_0l hy, l2]
          rfl
        · rcases lt_s1 hc' with q' | rfl
          · rw [ev_xor_l l1 ((hlB.gm hg).gm hy) (hCs c' q'), ev_gm_l (hlB.gm hg) (hCs c' q') hy, hmu0 c' q' hb', gm_0l hy, l3 c' q' hb' hne]
            rfl
          · rw [ev_xor_l l1 ((hlB.gm hg).gm hy) hC, ev_gm_l (hlB.gm hg) hC hy, hmu _ hC, unit, gm_1l hy, Nat.xor_self]
      · exact ⟨_, hlB.gm hg, by rw [hmu _ hC, unit], fun c' hc' hb' hne => hmu0 c' (by omega) hb'⟩
    · intro hI
      have : r = pcn M j := h8.mpr (fun c hc hbc => by
        obtain ⟨l, l1, l2, l3⟩ := hI c (by omega) hbc
        exact ⟨l, l1, l2, fun c' hc' hb' hne => l3 c' (by omega) hb' hne⟩)
      omega
