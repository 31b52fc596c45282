/-! SETS OF CELLS: all of one size; which survive; the least nodes -/
theorem pcn_0 {z : Nat} : ∀ j, z < 2 ^ j → pcn z j = 0 → z = 0
  | 0, h, _ => by
    have : z < 1 := h
    omega
  | j + 1, h, e => by
    have e2 : pcn z j + z / 2 ^ j % 2 = 0 := e
    have hp := Nat.two_pow_pos j
    have h2 : z < 2 ^ j * 2 := by rw [← Nat.pow_succ]; exact h
    have h3 : z / 2 ^ j < 2 := (Nat.div_lt_iff_lt_mul hp).mpr (by rw [Nat.mul_comm]; exact h2)
    have h4 : z / 2 ^ j = 0 := by
      revert e2 h3
      generalize z / 2 ^ j = q
      intro e2 h3
      omega
    have h5 : z < 2 ^ j := by
      rcases Nat.lt_or_ge z (2 ^ j) with q | q
      · exact q
      · have := Nat.div_pos q hp
        omega
    exact pcn_0 j h5 (by omega)
theorem pcn_m {z : Nat} : ∀ j k, j ≤ k → pcn (z % 2 ^ k) j = pcn z j
  | 0, _, _ => rfl
  | j + 1, k, h => by
    show pcn (z % 2 ^ k) j + z % 2 ^ k / 2 ^ j % 2 = pcn z j + z / 2 ^ j % 2
    rw [pcn_m j k (by omega)]
    have e : (bit (z % 2 ^ k) j ↔ bit z j) := by
      rw [bit_tb, bit_tb, Nat.testBit_mod_two_pow]
      simp [show j < k by omega]
    have e2 : (z % 2 ^ k / 2 ^ j % 2 = 1 ↔ z / 2 ^ j % 2 = 1) := e
    omega
theorem mod_pow1 (x p : Nat) : x % 2 ^ (p + 1) = x % 2 ^ p + x / 2 ^ p % 2 * 2 ^ p := by
  rw [Nat.pow_succ, Nat.mod_mul]
  rw [Nat.mul_comm (2 ^ p)]
theorem or_add {M p : Nat} (h : M < 2 ^ p) : M ||| 2 ^ p = M + 2 ^ p := by
  have q := Nat.two_pow_add_eq_or_of_lt h 1
  rw [Nat.mul_one] at q
  rw [Nat.or_comm, ← q, Nat.add_comm]
theorem pcn_or {M p : Nat} (h : M < 2 ^ p) : pcn (M ||| 2 ^ p) (p + 1) = pcn M p + 1 := by
  have e1 : pcn (M ||| 2 ^ p) p = pcn M p := pcn_congr p (fun c hc => by
    rw [bit_or]
    exact ⟨fun q => q.elim id (fun e => by omega), Or.inl⟩)
  have e2 : (M ||| 2 ^ p) / 2 ^ p % 2 = 1 := (show bit (M ||| 2 ^ p) p from bit_or.mpr (Or.inr rfl))
  show pcn (M ||| 2 ^ p) p + (M ||| 2 ^ p) / 2 ^ p % 2 = _
  rw [e1, e2]
theorem pcn_no {M p : Nat} (h : M < 2 ^ p) : pcn M (p + 1) = pcn M p := by
  show pcn M p + M / 2 ^ p % 2 = _
  rw [Nat.div_eq_of_lt h]
  rfl
theorem dl_mem {n : Nat} : ∀ m k M, m ≤ n → M < 2 ^ (n - m) → ∀ x, x ∈ dl n m k M ↔ (x < 2 ^ n ∧ x % 2 ^ (n - m) = M ∧ pcn x n = pcn M (n - m) + k)
  | 0, k, M, _, hM, x => by
    rw [Nat.sub_zero] at hM ⊢
    show x ∈ (if k = 0 then [M] else []) ↔ _
    by_cases hk : k = 0
    · rw [if_pos hk, List.mem_singleton, hk]
      constructor
      · rintro rfl
        exact ⟨hM, Nat.mod_eq_of_lt hM, rfl⟩
      · rintro ⟨h1, h2, -⟩
        rwa [Nat.mod_eq_of_lt h1] at h2
    · rw [if_neg hk]
      constructor
      · exact fun q => absurd q List.not_mem_nil
      · rintro ⟨h1, h2, h3⟩
        rw [Nat.mod_eq_of_lt h1] at h2
        rw [h2] at h3
        omega
  | m + 1, k, M, hm, hM, x => by
    generalize hp : n - (m + 1) = p at hM ⊢
    have hp2 : n - m - 1 = p := by omega
    have hp3 : n - m = p + 1 := by omega
    show x ∈ (if k = 0 then [M] else dl n m (k - 1) (M ||| 2 ^ (n - m - 1)) ++ dl n m k M) ↔ _
    by_cases hk : k = 0
    · rw [if_pos hk, List.mem_singleton, hk]
      constructor
      · rintro rfl
        have e := pcn_hi hM (m + 1)
        rw [show p + (m + 1) = n by omega] at e
        exact ⟨Nat.lt_of_lt_of_le hM (Nat.pow_le_pow_right (by decide) (by omega)), Nat.mod_eq_of_lt hM, e⟩
      · rintro ⟨h1, h2, h3⟩
        have e := pcn_add x (m + 1) p
        rw [show p + (m + 1) = n by omega] at e
        have e2 : pcn x p = pcn M p := by rw [← h2, pcn_m p p (Nat.le_refl p)]
        have hz : x / 2 ^ p < 2 ^ (m + 1) := by
          rw [Nat.div_lt_iff_lt_mul (Nat.two_pow_pos p), ← Nat.pow_add, show m + 1 + p = n by omega]
          exact h1
        have e3 := pcn_0 (m + 1) hz (by omega)
        have e4 := Nat.div_add_mod x (2 ^ p)
        rw [e3, Nat.mul_zero, Nat.zero_add] at e4
        rw [← e4, h2]
    · rw [if_neg hk, List.mem_append, hp2, dl_mem m (k - 1) (M ||| 2 ^ p) (by omega) (by rw [hp3]; exact or_lt hM (Nat.le_refl p)) x, dl_mem m k M (by omega) (by rw [hp3]; exact Nat.lt_of_lt_of_le hM (Nat.pow_le_pow_right (by decide) (by omega))) x, hp3, pcn_or hM, pcn_no hM, or_add hM, mod_pow1 x p]
      have hx : x % 2 ^ p < 2 ^ p := Nat.mod_lt _ (Nat.two_pow_pos p)
      have hb : x / 2 ^ p % 2 = 0 ∨ x / 2 ^ p % 2 = 1 := by omega
      constructor
      · rintro (⟨h1, h2, h3⟩ | ⟨h1, h2, h3⟩)
        · refine ⟨h1, ?_, by omega⟩
          rcases hb with e | e
          · rw [e, Nat.zero_mul] at h2
            omega
          · rw [e, Nat.one_mul] at h2
            omega
        · refine ⟨h1, ?_, h3⟩
          rcases hb with e | e
          · rw [e, Nat.zero_mul] at h2
            omega
          · rw [e, Nat.one_mul] at h2
            omega
      · rintro ⟨h1, h2, h3⟩
        rcases hb with e | e
        · right
          rw [e, Nat.zero_mul]
          exact ⟨h1, by omega, h3⟩
        · left
          rw [e, Nat.one_mul]
          exact ⟨h1, by omega, by omega⟩
theorem dl_nodup {n : Nat} : ∀ m k M, m ≤ n → M < 2 ^ (n - m) → (dl n m k M).Nodup
  | 0, k, M, _, _ => by
    show (if k = 0 then [M] else []).Nodup
    split
    · exact List.nodup_cons.mpr ⟨List.not_mem_nil, List.nodup_nil⟩
    · exact List.nodup_nil
  | m + 1, k, M, hm, hM => by
    generalize hp : n - (m + 1) = p at hM
    have hp2 : n - m - 1 = p := by omega
    have hp3 : n - m = p + 1 := by omega
    show (if k = 0 then [M] else dl n m (k - 1) (M ||| 2 ^ (n - m - 1)) ++ dl n m k M).Nodup
    split
    · exact List.nodup_cons.mpr ⟨List.not_mem_nil, List.nodup_nil⟩
    · rw [hp2]
      have h1 : M ||| 2 ^ p < 2 ^ (n - m) := by rw [hp3]; exact or_lt hM (Nat.le_refl p)
      have h2 : M < 2 ^ (n - m) := by rw [hp3]; exact Nat.lt_of_lt_of_le hM (Nat.pow_le_pow_right (by decide) (by omega))
      refine List.nodup_append.mpr ⟨dl_nodup m _ _ (by omega) h1, dl_nodup m _ _ (by omega) h2, fun a ha b hb e => ?_⟩
      have q1 := ((dl_mem m _ _ (by omega) h1 a).mp ha).2.1
      have q2 := ((dl_mem m _ _ (by omega) h2 b).mp hb).2.1
      rw [e, q2, or_add hM] at q1
      have := Nat.two_pow_pos p
      omega
/-- the sets of k of the cells below n, in the order of their numbers -/
def cx : Nat → Nat → List Nat
  | 0, 0 => [0]
  | 0, _ + 1 => []
  | _ + 1, 0 => [0]
  | n + 1, k + 1 => cx n (k + 1) ++ (cx n k).map (fun x => x + 2 ^ n)
theorem cx_mem : ∀ n k x, x ∈ cx n k ↔ (x < 2 ^ n ∧ pcn x n = k)
  | 0, 0, x => by
    show x ∈ [0] ↔ (x < 1 ∧ 0 = 0)
    rw [List.mem_singleton]
    omega
  | 0, k + 1, x => by
    show x ∈ ([] : List Nat) ↔ (x < 1 ∧ 0 = k + 1)
    exact ⟨fun q => absurd q List.not_mem_nil, fun q => absurd q.2 (by omega)⟩
  | n + 1, 0, x => by
    show x ∈ [0] ↔ _
    rw [List.mem_singleton]
    constructor
    · rintro rfl
      exact ⟨Nat.two_pow_pos _, pcn_z _⟩
    · rintro ⟨h1, h2⟩
      exact pcn_0 (n + 1) h1 h2
  | n + 1, k + 1, x => by
    show x ∈ cx n (k + 1) ++ (cx n k).map (fun x => x + 2 ^ n) ↔ _
    rw [List.mem_append, List.mem_map, cx_mem n (k + 1) x]
    have hp := Nat.two_pow_pos n
    have hps : 2 ^ (n + 1) = 2 ^ n + 2 ^ n := by rw [Nat.pow_succ]; omega
    constructor
    · rintro (⟨h1, h2⟩ | ⟨y, hy, rfl⟩)
      · exact ⟨by omega, by rw [pcn_no h1]; exact h2⟩
      · obtain ⟨h1, h2⟩ := (cx_mem n k y).mp hy
        refine ⟨by omega, ?_⟩
        show pcn (y + 2 ^ n) (n + 1) = k + 1
        rw [← or_add h1, pcn_or h1, h2]
    · rintro ⟨h1, h2⟩
      by_cases q : x < 2 ^ n
      · rw [pcn_no q] at h2
        exact Or.inl ⟨q, h2⟩
      · right
        have h3 : x - 2 ^ n < 2 ^ n := by omega
        refine ⟨x - 2 ^ n, (cx_mem n k _).mpr ⟨h3, ?_⟩, by show x - 2 ^ n + 2 ^ n = x; omega⟩
        have e : x = (x - 2 ^ n) ||| 2 ^ n := by rw [or_add h3]; omega
        rw [e, pcn_or h3] at h2
        omega
theorem cx_nodup : ∀ n k, (cx n k).Nodup
  | 0, 0 => List.nodup_cons.mpr ⟨List.not_mem_nil, List.nodup_nil⟩
  | 0, _ + 1 => List.nodup_nil
  | _ + 1, 0 => List.nodup_cons.mpr ⟨List.not_mem_nil, List.nodup_nil⟩
  | n + 1, k + 1 => by
    show (cx n (k + 1) ++ (cx n k).map (fun x => x + 2 ^ n)).Nodup
    refine List.nodup_append.mpr ⟨cx_nodup n (k + 1), ?_, fun a ha b hb e => ?_⟩
    · refine List.pairwise_map.mpr ((cx_nodup n k).imp (fun {a b} h e => h (by
        have e2 : a + 2 ^ n = b + 2 ^ n := e
        omega)))
    · obtain ⟨y, hy, rfl⟩ := List.mem_map.mp hb
      have := ((cx_mem n _ a).mp ha).1
      have e2 : a = y + 2 ^ n := e
      omega
theorem dl_cx (n k : Nat) : List.Perm (dl n n k 0) (cx n k) := by
  refine (List.perm_ext_iff_of_nodup (dl_nodup n k 0 (Nat.le_refl n) (Nat.two_pow_pos _)) (cx_nodup n k)).mpr (fun x => ?_)
  rw [dl_mem n k 0 (Nat.le_refl n) (Nat.two_pow_pos _) x, cx_mem, Nat.sub_self, Nat.pow_zero, Nat.mod_one]
  show (x < 2 ^ n ∧ 0 = 0 ∧ pcn x n = 0 + k) ↔ _
  rw [Nat.zero_add]
  exact ⟨fun q => ⟨q.1, q.2.2⟩, fun q => ⟨q.1, rfl, q.2⟩⟩
/-- those of fewer cells come first -/
theorem cx_pre (k : Nat) (n : Nat) : ∀ m, ∃ r, cx (n + m) (k + 1) = cx n (k + 1) ++ r ∧ ∀ x, x ∈ r → 2 ^ n ≤ x
  | 0 => ⟨[], (List.append_nil _).symm, fun x hx => absurd hx List.not_mem_nil⟩
  | m + 1 => by
    obtain ⟨r, h1, h2⟩ := cx_pre k n m
    refine ⟨r ++ (cx (n + m) k).map (fun x => x + 2 ^ (n + m)), ?_, fun x hx => ?_⟩
    · show cx (n + m) (k + 1) ++ (cx (n + m) k).map (fun x => x + 2 ^ (n + m)) = _
      rw [h1, List.append_assoc]
    · rcases List.mem_append.mp hx with hx | hx
      · exact h2 x hx
      · obtain ⟨y, -, rfl⟩ := List.mem_map.mp hx
        have : 2 ^ n ≤ 2 ^ (n + m) := Nat.pow_le_pow_right (by decide) (by omega)
        show 2 ^ n ≤ y + 2 ^ (n + m)
        omega
/-! the next set of as many cells -/
def gI (x : Int32) : Int32 := (((x + (x &&& -x)) ^^^ x) / (x &&& -x)) >>> (nI 2 &&& 31) ||| (x + (x &&& -x))
def chB : List Nat → Bool
  | x :: y :: l => decide (¬ (nI x &&& -nI x) = 0 ∧ gI (nI x) = nI y) && chB (y :: l)
  | _ => true
theorem chB_1 : chB (cx 20 1 ++ [1048576]) = true := by decide +kernel
theorem chB_2 : chB (cx 20 2 ++ [1048577]) = true := by decide +kernel
theorem chB_3 : chB (cx 20 3 ++ [1048579]) = true := by decide +kernel
theorem chB_4 : chB (cx 20 4 ++ [1048583]) = true := by decide +kernel
theorem cx_h1 : (cx 20 1).head? = some 1 := by decide +kernel
theorem cx_h2 : (cx 20 2).head? = some 3 := by decide +kernel
theorem cx_h3 : (cx 20 3).head? = some 7 := by decide +kernel
theorem cx_h4 : (cx 20 4).head? = some 15 := by decide +kernel
/-- the chain of sets of w cells: those below n, and then a greater one -/
theorem chain {n w : Nat} (hn : n ≤ 20) (h1 : 1 ≤ w) (h4 : w ≤ 4) : ∃ y r, chB (cx n w ++ y :: r) = true ∧ (cx n w ++ y :: r).head? = some (2 ^ w - 1) ∧ 2 ^ n ≤ y ∧ y < 2 ^ 21 := by
  have key : ∀ k e, e < 2 ^ 21 → 2 ^ 20 ≤ e → chB (cx 20 (k + 1) ++ [e]) = true → (cx 20 (k + 1)).head? = some (2 ^ (k + 1) - 1) → ∃ y r, chB (cx n (k + 1) ++ y :: r) = true ∧ (cx n (k + 1) ++ y :: r).head? = some (2 ^ (k + 1) - 1) ∧ 2 ^ n ≤ y ∧ y < 2 ^ 21 := by
    intro k e he he2 hc hh
    obtain ⟨r, e1, e2⟩ := cx_pre k n (20 - n)
    rw [show n + (20 - n) = 20 by omega] at e1
    have hh2 : (cx 20 (k + 1) ++ [e]).head? = some (2 ^ (k + 1) - 1) := by
      cases hq : cx 20 (k + 1) with
      | nil => rw [hq] at hh; cases hh
      | cons a l => rw [hq] at hh; exact hh
    rw [e1, List.append_assoc] at hc hh2
    have hn20 : 2 ^ n ≤ 2 ^ 20 := Nat.pow_le_pow_right (by decide) hn
    cases r with
    | nil => exact ⟨e, [], hc, hh2, by omega, he⟩
    | cons y r =>
      refine ⟨y, r ++ [e], hc, hh2, e2 y List.mem_cons_self, ?_⟩
      have hy : y ∈ cx 20 (k + 1) := by rw [e1]; exact List.mem_append.mpr (Or.inr List.mem_cons_self)
      have := ((cx_mem 20 _ y).mp hy).1
      omega
  rcases (show w = 1 ∨ w = 2 ∨ w = 3 ∨ w = 4 by omega) with rfl | rfl | rfl | rfl
  · exact key 0 1048576 (by decide) (by decide) chB_1 cx_h1
  · exact key 1 1048577 (by decide) (by decide) chB_2 cx_h2
  · exact key 2 1048579 (by decide) (by decide) chB_3 cx_h3
  · exact key 3 1048583 (by decide) (by decide) chB_4 cx_h4
