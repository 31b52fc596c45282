/-! SUMS over all cells, and over the cells of one check -/
def xs (F : Nat → Nat) : Nat → Nat
  | 0 => 0
  | j + 1 => xs F j ^^^ F j
theorem xs_congr {F F' : Nat → Nat} : ∀ n, (∀ j, j < n → F j = F' j) → xs F n = xs F' n
  | 0, _ => rfl
  | n + 1, h => by
    show xs F n ^^^ F n = xs F' n ^^^ F' n
    rw [xs_congr n (fun j hj => h j (by omega)), h n (by omega)]
theorem xs_0 {F : Nat → Nat} : ∀ n, (∀ j, j < n → F j = 0) → xs F n = 0
  | 0, _ => rfl
  | n + 1, h => by
    show xs F n ^^^ F n = 0
    rw [xs_0 n (fun j hj => h j (by omega)), h n (by omega)]
    rfl
theorem xs_add (F : Nat → Nat) (a : Nat) : ∀ b, xs F (a + b) = xs F a ^^^ xs (fun i => F (a + i)) b
  | 0 => (Nat.xor_zero _).symm
  | b + 1 => by
    show xs F (a + b) ^^^ F (a + b) = xs F a ^^^ (xs (fun i => F (a + i)) b ^^^ F (a + b))
    rw [xs_add F a b, Nat.xor_assoc]
theorem xs_lt {F : Nat → Nat} : ∀ n, (∀ j, j < n → F j < 16) → xs F n < 16
  | 0, _ => by show 0 < 16; decide
  | n + 1, h => xor_lt (xs_lt n (fun j hj => h j (by omega))) (h n (by omega))
theorem vsum_xs {C : Nat → Nat → Nat} {V : Nat → Nat} {M i : Nat} : ∀ n, vsum C V M n i = xs (fun c => if M / 2 ^ c % 2 = 1 then gm (C c i) (V c) else 0) n
  | 0 => rfl
  | n + 1 => by
    show vsum C V M n i ^^^ (if M / 2 ^ n % 2 = 1 then gm (C n i) (V n) else 0) = xs _ n ^^^ (if M / 2 ^ n % 2 = 1 then gm (C n i) (V n) else 0)
    rw [vsum_xs n]
theorem colv_dk {g s c k : Nat} (hc : c < g * s) (hk : k < g) : colv g s c k = if k = c / s then 1 else 0 := by
  unfold colv
  rw [if_pos hc]
  by_cases q : k = c / s
  · rw [if_pos q, if_pos q]
  · rw [if_neg q, if_neg q, if_neg (by omega), if_neg (by omega)]
theorem colv_pk {g s c k : Nat} (hc : ¬ c < g * s) : colv g s c k = if k = c - g * s then 1 else 0 := by
  unfold colv
  rw [if_neg hc]
theorem colv_dg {g s c : Nat} (hc : c < g * s) : colv g s c g = pw c := by
  have h : c / s < g := by have := hcv_ltg hc; unfold hcv at this; rwa [if_pos hc] at this
  unfold colv
  rw [if_pos hc, if_neg (by omega), if_pos rfl]
theorem colv_dg1 {g s c : Nat} (hc : c < g * s) : colv g s c (g + 1) = pw (2 * c) := by
  have h : c / s < g := by have := hcv_ltg hc; unfold hcv at this; rwa [if_pos hc] at this
  unfold colv
  rw [if_pos hc, if_neg (by omega), if_neg (by omega), if_pos rfl]
theorem colv_hi {g s c k : Nat} (hc : c < nc g s) (hk : g + 2 ≤ k) : colv g s c k = 0 := by
  unfold nc at hc
  by_cases q : c < g * s
  · have h : c / s < g := by have := hcv_ltg q; unfold hcv at this; rwa [if_pos q] at this
    unfold colv
    rw [if_pos q, if_neg (by omega), if_neg (by omega), if_neg (by omega)]
  · rw [colv_pk q, if_neg (by omega)]
theorem ite_gm0 {P : Prop} [Decidable P] {x : Nat} (hx : x < 16) : (if P then gm 0 x else 0) = 0 := by
  split
  · exact gm_0l hx
  · rfl
theorem mul_le_grp {g s k : Nat} (hk : k < g) : k * s + s ≤ g * s := by
  have h := Nat.mul_le_mul_right s (show k + 1 ≤ g by omega)
  rwa [Nat.add_mul, Nat.one_mul] at h
theorem div_grp {s k i : Nat} (hi : i < s) : (k * s + i) / s = k := by
  rw [Nat.mul_comm, Nat.mul_add_div (by omega), Nat.div_eq_of_lt hi, Nat.add_zero]
theorem div_lt_grp {s k c : Nat} (h : c < k * s) : c / s < k := Nat.div_lt_of_lt_mul (by rw [Nat.mul_comm]; exact h)
theorem div_gt_grp {s k c : Nat} (hs : 0 < s) (h : k * s + s ≤ c) : k < c / s := by
  have h2 : (k + 1) * s ≤ c := by rw [Nat.add_mul, Nat.one_mul]; exact h
  exact (Nat.le_div_iff_mul_le hs).mpr h2
/-- the sum of a local check -/
theorem vsum_grp {g s T sh k M : Nat} {V : Nat → Nat} (hL : LayOK g s T sh) (hk : k < g) (hV : ∀ c, V c < 16) (hM : ∀ j, j < s → bit M (k * s + j)) (hP : bit M (g * s + k)) : vsum (colv g s) V M (nc g s) k = V (g * s + k) ^^^ xs (fun j => V (k * s + j)) s := by
  have hs : 2 ≤ s := hL.2.2.1
  have hgs := mul_le_grp (s := s) hk
  have e : nc g s = k * s + (s + ((g * s - (k * s + s)) + (k + (1 + (g - k + 1))))) := by unfold nc; omega
  rw [vsum_xs, e, xs_add, xs_add, xs_add, xs_add, xs_add]
  have p1 : xs (fun c => if M / 2 ^ c % 2 = 1 then gm (colv g s c k) (V c) else 0) (k * s) = 0 := xs_0 _ (fun j hj => by
    show (if M / 2 ^ j % 2 = 1 then gm (colv g s j k) (V j) else 0) = 0
    rw [colv_dk (by omega) hk, if_neg (show ¬ k = j / s by have := div_lt_grp hj; omega)]
    exact ite_gm0 (hV _))
  rw [p1, Nat.zero_xor]
  have p2 : xs (fun i => (fun c => if M / 2 ^ c % 2 = 1 then gm (colv g s c k) (V c) else 0) (k * s + i)) s = xs (fun j => V (k * s + j)) s := xs_congr _ (fun j hj => by
    show (if M / 2 ^ (k * s + j) % 2 = 1 then gm (colv g s (k * s + j) k) (V (k * s + j)) else 0) = V (k * s + j)
    rw [if_pos (hM j hj), colv_dk (by omega) hk, if_pos (div_grp hj).symm, gm_1l (hV _)])
  rw [p2]
  have p3 : xs (fun i => (fun i => (fun c => if M / 2 ^ c % 2 = 1 then gm (colv g s c k) (V c) else 0) (k * s + i)) (s + i)) (g * s - (k * s + s)) = 0 := xs_0 _ (fun j hj => by
    show (if M / 2 ^ (k * s + (s + j)) % 2 = 1 then gm (colv g s (k * s + (s + j)) k) (V (k * s + (s + j))) else 0) = 0
    rw [colv_dk (by omega) hk, if_neg (show ¬ k = (k * s + (s + j)) / s by have := div_gt_grp (s := s) (k := k) (c := k * s + (s + j)) (by omega) (by omega); omega)]
    exact ite_gm0 (hV _))
  rw [p3, Nat.zero_xor]
  have par : ∀ c, ¬ c < g * s → c ≠ g * s + k → (if M / 2 ^ c % 2 = 1 then gm (colv g s c k) (V c) else 0) = 0 := fun c h1 h2 => by
    rw [colv_pk h1, if_neg (show ¬ k = c - g * s by omega)]
    exact ite_gm0 (hV _)
  have p4 : xs (fun i => (fun i => (fun i => (fun c => if M / 2 ^ c % 2 = 1 then gm (colv g s c k) (V c) else 0) (k * s + i)) (s + i)) (g * s - (k * s + s) + i)) k = 0 := xs_0 _ (fun j hj => par (k * s + (s + (g * s - (k * s + s) + j))) (by omega) (by omega))
  rw [p4, Nat.zero_xor]
  have p6 : xs (fun i => (fun i => (fun i => (fun i => (fun i => (fun c => if M / 2 ^ c % 2 = 1 then gm (colv g s c k) (V c) else 0) (k * s + i)) (s + i)) (g * s - (k * s + s) + i)) (k + i)) (1 + i)) (g - k + 1) = 0 := xs_0 _ (fun j hj => par (k * s + (s + (g * s - (k * s + s) + (k + (1 + j))))) (by omega) (by omega))
  rw [p6, Nat.xor_zero]
  have p5 : xs (fun i => (fun i => (fun i => (fun i => (fun c => if M / 2 ^ c % 2 = 1 then gm (colv g s c k) (V c) else 0) (k * s + i)) (s + i)) (g * s - (k * s + s) + i)) (k + i)) 1 = V (g * s + k) := by
    show 0 ^^^ (if M / 2 ^ (k * s + (s + (g * s - (k * s + s) + (k + 0)))) % 2 = 1 then gm (colv g s (k * s + (s + (g * s - (k * s + s) + (k + 0)))) k) (V (k * s + (s + (g * s - (k * s + s) + (k + 0))))) else 0) = V (g * s + k)
    rw [show k * s + (s + (g * s - (k * s + s) + (k + 0))) = g * s + k by omega, if_pos hP, colv_pk (by omega), if_pos (by omega), gm_1l (hV _), Nat.zero_xor]
  rw [p5, Nat.xor_comm]
/-- the sum of a global check, e = 0 or 1 -/
theorem vsum_glo {g s T sh e M : Nat} {V : Nat → Nat} (hL : LayOK g s T sh) (he : e < 2) (hV : ∀ c, V c < 16) (hM : ∀ c, c < g * s → bit M c) : vsum (colv g s) V M (nc g s) (g + e) = xs (fun c => gm (pw ((e + 1) * c)) (V c)) (g * s) ^^^ (if M / 2 ^ (g * s + (g + e)) % 2 = 1 then V (g * s + (g + e)) else 0) := by
  generalize hq : g + e = q
  have en : nc g s = g * s + (q + (1 + (1 - e))) := by unfold nc; omega
  rw [vsum_xs, en, xs_add, xs_add, xs_add]
  have p1 : xs (fun c => if M / 2 ^ c % 2 = 1 then gm (colv g s c q) (V c) else 0) (g * s) = xs (fun c => gm (pw ((e + 1) * c)) (V c)) (g * s) := xs_congr _ (fun j hj => by
    show (if M / 2 ^ j % 2 = 1 then gm (colv g s j q) (V j) else 0) = gm (pw ((e + 1) * j)) (V j)
    rw [if_pos (hM j hj), ← hq]
    rcases (show e = 0 ∨ e = 1 by omega) with rfl | rfl
    · rw [Nat.add_zero, colv_dg hj, Nat.zero_add, Nat.one_mul]
    · rw [colv_dg1 hj])
  rw [p1]
  have par : ∀ c, ¬ c < g * s → c ≠ g * s + q → (if M / 2 ^ c % 2 = 1 then gm (colv g s c q) (V c) else 0) = 0 := fun c h1 h2 => by
    rw [colv_pk h1, if_neg (show ¬ q = c - g * s by omega)]
    exact ite_gm0 (hV _)
  have p2 : xs (fun i => (fun c => if M / 2 ^ c % 2 = 1 then gm (colv g s c q) (V c) else 0) (g * s + i)) q = 0 := xs_0 _ (fun j hj => par (g * s + j) (by omega) (by omega))
  have p4 : xs (fun i => (fun i => (fun i => (fun c => if M / 2 ^ c % 2 = 1 then gm (colv g s c q) (V c) else 0) (g * s + i)) (q + i)) (1 + i)) (1 - e) = 0 := xs_0 _ (fun j hj => par (g * s + (q + (1 + j))) (by omega) (by omega))
  rw [p2, Nat.zero_xor, p4, Nat.xor_zero]
  congr 1
  show 0 ^^^ (if M / 2 ^ (g * s + (q + 0)) % 2 = 1 then gm (colv g s (g * s + (q + 0)) q) (V (g * s + (q + 0))) else 0) = _
  rw [Nat.add_zero, colv_pk (by omega), if_pos (show q = g * s + q - g * s by omega), gm_1l (hV _), Nat.zero_xor]
theorem vsum_hi {g s k M : Nat} {V : Nat → Nat} (hV : ∀ c, V c < 16) (hk : g + 2 ≤ k) : vsum (colv g s) V M (nc g s) k = 0 := by
  rw [vsum_xs]
  exact xs_0 _ (fun j hj => by rw [colv_hi hj hk]; exact ite_gm0 (hV _))
theorem flg_top {v : Nat → Nat} {g : Nat} (hg : g ≤ 4) (h : ∀ k, g + 2 ≤ k → v k = 0) : flg v 6 = flg v (g + 2) := by
  have step : ∀ j, flg v (g + 2 + j) = flg v (g + 2) := by
    intro j
    induction j with
    | zero => rfl
    | succ j ih =>
      show (if v (g + 2 + j) = 0 then flg v (g + 2 + j) else flg v (g + 2 + j) ||| 1 * 2 ^ (g + 2 + j)) = _
      rw [if_pos (h _ (by omega)), ih]
  have q := step (6 - (g + 2))
  rwa [show g + 2 + (6 - (g + 2)) = 6 by omega] at q
/-! functionals on columns -/
theorem ev_sglx {l : Nat → Nat} {x k : Nat} (hl : B6 l) (hx : x < 16) (hk : k < 6) : ev l (sgl x k) = gm (l k) x := by
  have e : ev l (sgl x k) = ev l (fun i => gm (sgl 1 k i) x) := ev_congr (fun _ _ => rfl) (fun i _ => by
    unfold sgl
    split
    · exact (gm_1l hx).symm
    · exact (gm_0l hx).symm)
  rw [e, ev_gm_r hl (B6.sgl (by decide)) hx, ev_comm hl (B6.sgl (by decide)), ev_sgl hl hk]
theorem ev_dat {g s c : Nat} {l : Nat → Nat} (hl : B6 l) (hg : g ≤ 4) (hc : c < g * s) : ev l (colv g s c) = l (c / s) ^^^ (gm (l g) (pw c) ^^^ gm (l (g + 1)) (pw (2 * c))) := by
  have h : c / s < g := by have := hcv_ltg hc; unfold hcv at this; rwa [if_pos hc] at this
  have e : ev l (colv g s c) = ev l (fun i => sgl 1 (c / s) i ^^^ (sgl (pw c) g i ^^^ sgl (pw (2 * c)) (g + 1) i)) := ev_congr (fun _ _ => rfl) (fun i _ => by
    unfold colv sgl
    rw [if_pos hc]
    by_cases q1 : i = c / s
    · rw [if_pos q1, if_pos q1, if_neg (by omega), if_neg (by omega)]
      rfl
    · rw [if_neg q1, if_neg q1]
      by_cases q2 : i = g
      · rw [if_pos q2, if_pos q2, if_neg (by omega), Nat.zero_xor, Nat.xor_zero]
      · rw [if_neg q2, if_neg q2, Nat.zero_xor, Nat.zero_xor])
  rw [e, ev_xor_r hl (B6.sgl (by decide)) ((B6.sgl (pw_lt _)).xor (B6.sgl (pw_lt _))), ev_xor_r hl (B6.sgl (pw_lt _)) (B6.sgl (pw_lt _)), ev_sglx hl (by decide) (by omega), ev_sglx hl (pw_lt _) (by omega), ev_sglx hl (pw_lt _) (by omega), gm_1 (hl _ (by omega))]
theorem ev_par {g s c : Nat} {l : Nat → Nat} (hl : B6 l) (hg : g ≤ 4) (hn : c < nc g s) (hc : ¬ c < g * s) : ev l (colv g s c) = l (c - g * s) := by
  have h : hcv g s c = c - g * s := if_neg hc
  unfold nc at hn
  rw [colv_par hc, h, ev_sglx hl (by decide) (by omega), gm_1 (hl _ (by omega))]
/-! the cells of a group -/
def gcv (g s k : Nat) : Nat := ((2 ^ s - 1) * 2 ^ (k * s)) ||| 2 ^ (g * s + k)
theorem gtb {g s k x : Nat} : bit (gcv g s k) x ↔ (k * s ≤ x ∧ x < k * s + s) ∨ x = g * s + k := by
  rw [bit_tb]
  unfold gcv
  rw [Nat.testBit_or, Nat.testBit_mul_two_pow, Nat.testBit_two_pow_sub_one, Nat.testBit_two_pow]
  simp
  omega
theorem grp_iff {g s k x : Nat} (hs : 0 < s) (hk : k < g) : bit (gcv g s k) x ↔ hcv g s x = k := by
  have hgs := mul_le_grp (s := s) hk
  rw [gtb]
  unfold hcv
  by_cases q : x < g * s
  · rw [if_pos q]
    constructor
    · rintro (h | h)
      · have e := div_grp (s := s) (k := k) (i := x - k * s) (by omega)
        rwa [show k * s + (x - k * s) = x by omega] at e
      · omega
    · intro h
      left
      subst h
      have h1 := Nat.div_mul_le_self x s
      have h2 := Nat.lt_div_mul_add (a := x) hs
      exact ⟨h1, h2⟩
  · rw [if_neg q]
    constructor
    · rintro (h | h)
      · omega
      · omega
    · intro h
      right
      omega
theorem pmv_g {g s c : Nat} (h : hcv g s c < g) : pmv g s c = clr (gcv g s (hcv g s c)) c := if_pos h
theorem pmv_d {g s c : Nat} (h : ¬ hcv g s c < g) : pmv g s c = 2 ^ (g * s) - 1 := if_neg h
theorem bit_m1 {n x : Nat} : bit (2 ^ n - 1) x ↔ x < n := by
  rw [bit_tb, Nat.testBit_two_pow_sub_one]
  simp
theorem bit_and {P M x : Nat} : bit (P &&& M) x ↔ bit P x ∧ bit M x := by
  rw [bit_tb, bit_tb, bit_tb, Nat.testBit_and]
  simp
theorem eq_bits {P M : Nat} (h : ∀ x, bit P x ↔ bit M x) : P = M := by
  apply Nat.eq_of_testBit_eq
  intro x
  have q := h x
  rw [bit_tb, bit_tb] at q
  cases e1 : P.testBit x <;> cases e2 : M.testBit x <;> simp_all
theorem bit_2 {c x : Nat} : bit (2 ^ c) x ↔ x = c := by
  rw [bit_tb, Nat.testBit_two_pow]
  simp [eq_comm]
theorem bit_big {M n x : Nat} (hM : M < 2 ^ n) (hb : bit M x) : x < n := by
  apply Classical.byContradiction
  intro q
  rw [bit_tb, Nat.testBit_lt_two_pow (Nat.lt_of_lt_of_le hM (Nat.pow_le_pow_right (by decide) (Nat.le_of_not_lt q)))] at hb
  cases hb
theorem pmv_bit {g s c x : Nat} (hs : 0 < s) (h : hcv g s c < g) (hx : x < 32) : bit (pmv g s c) x ↔ hcv g s x = hcv g s c ∧ x ≠ c := by
  rw [pmv_g h, bit_clr hx, grp_iff hs h]
theorem way1_iff {g s c M : Nat} (hs : 0 < s) (h : hcv g s c < g) (hM : M < 2 ^ 20) (hb : bit M c) : M &&& gcv g s (hcv g s c) = 2 ^ c ↔ pmv g s c &&& M = 0 := by
  constructor
  · intro e
    apply eq_bits
    intro x
    refine ⟨fun q => ?_, fun q => absurd q (nbit0 x)⟩
    obtain ⟨q1, q2⟩ := bit_and.mp q
    have hx := bit_big hM q2
    obtain ⟨r1, r2⟩ := (pmv_bit hs h (by omega)).mp q1
    have q3 : bit (M &&& gcv g s (hcv g s c)) x := bit_and.mpr ⟨q2, (grp_iff hs h).mpr r1⟩
    rw [e, bit_2] at q3
    exact absurd q3 r2
  · intro e
    apply eq_bits
    intro x
    rw [bit_2, bit_and]
    constructor
    · rintro ⟨q1, q2⟩
      apply Classical.byContradiction
      intro r
      have hx := bit_big hM q1
      have q3 : bit (pmv g s c &&& M) x := bit_and.mpr ⟨(pmv_bit hs h (by omega)).mpr ⟨(grp_iff hs h).mp q2, r⟩, q1⟩
      rw [e] at q3
      exact nbit0 x q3
    · rintro rfl
      exact ⟨hb, (grp_iff hs h).mpr rfl⟩
