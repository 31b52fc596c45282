/-! MATHEMATICS: sums over checks, ways, sets that come back (first written for the whole check) -/
section MG
variable {E : AEnv} {Y : MI} {d k n pc pc' idx : Nat} {ls : List (Option Value)} {st : List Value} {h : List va_E} {Ψ : Pst} {b : Nat} {i : Nat → Int32} {ρ : Nat → Nat → Int32} {G : Nat → Option va_E}
theorem go_ialdM {a N j : Nat} {f : Nat → Int32} (hd : Dc Y pc .iaload pc') (hg : h[a]? = some (ar N f)) (hk : j < N) (hN : N < 2 ^ 31) (K : Go E Y d k n pc' ls (.int (f j) :: st) h Ψ) : Go E Y d k n pc ls (.int (nI j) :: .ref a :: st) h Ψ := by
  refine go_iaload hd (Or.inl hg) (vp_in_nI hk hN) ?_
  rw [nI_cl (by omega)]
  exact K
end MG
theorem bP_wi {x : Int32} {n : Nat} (h1 : 1 ≤ n) (h2 : n < 2 ^ 31) : bI (nI 0 ≤ x ∧ x ≤ nI (n - 1)) = bP (inR x n) := by
  have e : (nI 0 ≤ x ∧ x ≤ nI (n - 1)) ↔ inR x n := by
    have q := wi_in (z := x) (k := n - 1) (by omega)
    rw [show n - 1 + 1 = n by omega] at q
    exact q
  by_cases q : inR x n
  · rw [bP_t q, bI_t (e.mpr q)]
  · rw [bP_f q, bI_f (fun w => q (e.mp w))]
theorem mod_or (M j : Nat) : M % 2 ^ (j + 1) = (if bit M j then M % 2 ^ j ||| 1 * 2 ^ j else M % 2 ^ j ||| 0) := by
  have q : bit M j ↔ M.testBit j = true := bit_tb
  by_cases e : bit M j
  · rw [if_pos e]
    apply Nat.eq_of_testBit_eq
    intro k
    rw [Nat.one_mul, Nat.testBit_or, Nat.testBit_mod_two_pow, Nat.testBit_mod_two_pow, Nat.testBit_two_pow]
    by_cases e1 : k = j
    · subst e1
      rw [q.mp e]
      simp
    · by_cases e2 : k < j
      · simp [e2, show k < j + 1 by omega, show ¬ j = k by omega]
      · simp [e2, show ¬ k < j + 1 by omega, show ¬ j = k by omega]
  · rw [if_neg e, Nat.or_zero]
    apply Nat.eq_of_testBit_eq
    intro k
    rw [Nat.testBit_mod_two_pow, Nat.testBit_mod_two_pow]
    have e0 : M.testBit j = false := by
      cases hq : M.testBit j with
      | true => exact absurd (q.mpr hq) e
      | false => rfl
    by_cases e1 : k = j
    · subst e1
      rw [e0]
      simp
    · by_cases e2 : k < j
      · simp [e2, show k < j + 1 by omega]
      · simp [e2, show ¬ k < j + 1 by omega]
def xs (F : Nat → Nat) : Nat → Nat
  | 0 => 0
  | j + 1 => xs F j ^^^ F j
theorem xs_congr {F F' : Nat → Nat} : ∀ n, (∀ j, j < n → F j = F' j) → xs F n = xs F' n
  | 0, _ => rfl
  | n + 1, h => by
    show xs F n ^^^ F n = xs F' n ^^^ F' n
    rw [xs_congr n (fun j hj => h j (by omega)), h n (by omega)]
theorem xs_0 {F : Nat → Nat} : ∀ n, (∀ j, j < n → F j = 0) → xs F n = 0
  | 0, _ => rfl
  | n + 1, h => by
    show xs F n ^^^ F n = 0
    rw [xs_0 n (fun j hj => h j (by omega)), h n (by omega)]
    rfl
theorem xs_add (F : Nat → Nat) (a : Nat) : ∀ b, xs F (a + b) = xs F a ^^^ xs (fun i => F (a + i)) b
  | 0 => (Nat.xor_zero _).symm
  | b + 1 => by
    show xs F (a + b) ^^^ F (a + b) = xs F a ^^^ (xs (fun i => F (a + i)) b ^^^ F (a + b))
    rw [xs_add F a b, Nat.xor_assoc]
theorem xs_lt {F : Nat → Nat} : ∀ n, (∀ j, j < n → F j < 16) → xs F n < 16
  | 0, _ => by show 0 < 16; decide
  | n + 1, h => xor_lt (xs_lt n (fun j hj => h j (by omega))) (h n (by omega))
theorem vsum_xs {C : Nat → Nat → Nat} {V : Nat → Nat} {M i : Nat} : ∀ n, vsum C V M n i = xs (fun c => if M / 2 ^ c % 2 = 1 then gm (C c i) (V c) else 0) n
  | 0 => rfl
  | n + 1 => by
    show vsum C V M n i ^^^ (if M / 2 ^ n % 2 = 1 then gm (C n i) (V n) else 0) = xs _ n ^^^ (if M / 2 ^ n % 2 = 1 then gm (C n i) (V n) else 0)
    rw [vsum_xs n]
theorem colv_dk {g s c k : Nat} (hc : c < g * s) (hk : k < g) : colv g s c k = if k = c / s then 1 else 0 := by
  unfold colv
  rw [if_pos hc]
  by_cases q : k = c / s
  · rw [if_pos q, if_pos q]
  · rw [if_neg q, if_neg q, if_neg (by omega), if_neg (by omega)]
theorem colv_pk {g s c k : Nat} (hc : ¬ c < g * s) : colv g s c k = if k = c - g * s then 1 else 0 := by
  unfold colv
  rw [if_neg hc]
theorem colv_dg {g s c : Nat} (hc : c < g * s) : colv g s c g = pw c := by
  have h : c / s < g := by have := hcv_ltg hc; unfold hcv at this; rwa [if_pos hc] at this
  unfold colv
  rw [if_pos hc, if_neg (by omega), if_pos rfl]
theorem colv_dg1 {g s c : Nat} (hc : c < g * s) : colv g s c (g + 1) = pw (2 * c) := by
  have h : c / s < g := by have := hcv_ltg hc; unfold hcv at this; rwa [if_pos hc] at this
  unfold colv
  rw [if_pos hc, if_neg (by omega), if_neg (by omega), if_pos rfl]
theorem colv_hi {g s c k : Nat} (hc : c < nc g s) (hk : g + 2 ≤ k) : colv g s c k = 0 := by
  unfold nc at hc
  by_cases q : c < g * s
  · have h : c / s < g := by have := hcv_ltg q; unfold hcv at this; rwa [if_pos q] at this
    unfold colv
    rw [if_pos q, if_neg (by omega), if_neg (by omega), if_neg (by omega)]
  · rw [colv_pk q, if_neg (by omega)]
theorem ite_gm0 {P : Prop} [Decidable P] {x : Nat} (hx : x < 16) : (if P then gm 0 x else 0) = 0 := by
  split
  · exact gm_0l hx
  · rfl
theorem mul_le_grp {g s k : Nat} (hk : k < g) : k * s + s ≤ g * s := by
  have h := Nat.mul_le_mul_right s (show k + 1 ≤ g by omega)
  rwa [Nat.add_mul, Nat.one_mul] at h
theorem div_grp {s k i : Nat} (hi : i < s) : (k * s + i) / s = k := by
  rw [Nat.mul_comm, Nat.mul_add_div (by omega), Nat.div_eq_of_lt hi, Nat.add_zero]
theorem div_lt_grp {s k c : Nat} (h : c < k * s) : c / s < k := Nat.div_lt_of_lt_mul (by rw [Nat.mul_comm]; exact h)
theorem div_gt_grp {s k c : Nat} (hs : 0 < s) (h : k * s + s ≤ c) : k < c / s := by
  have h2 : (k + 1) * s ≤ c := by rw [Nat.add_mul, Nat.one_mul]; exact h
  exact (Nat.le_div_iff_mul_le hs).mpr h2
/-- the sum of a local check -/
theorem vsum_grp {g s T sh k M : Nat} {V : Nat → Nat} (hL : LayOK g s T sh) (hk : k < g) (hV : ∀ c, V c < 16) (hM : ∀ j, j < s → bit M (k * s + j)) (hP : bit M (g * s + k)) : vsum (colv g s) V M (nc g s) k = V (g * s + k) ^^^ xs (fun j => V (k * s + j)) s := by
  have hs : 2 ≤ s := hL.2.2.1
  have hgs := mul_le_grp (s := s) hk
  have e : nc g s = k * s + (s + ((g * s - (k * s + s)) + (k + (1 + (g - k + 1))))) := by unfold nc; omega
  rw [vsum_xs, e, xs_add, xs_add, xs_add, xs_add, xs_add]
  have p1 : xs (fun c => if M / 2 ^ c % 2 = 1 then gm (colv g s c k) (V c) else 0) (k * s) = 0 := xs_0 _ (fun j hj => by
    show (if M / 2 ^ j % 2 = 1 then gm (colv g s j k) (V j) else 0) = 0
    rw [colv_dk (by omega) hk, if_neg (show ¬ k = j / s by have := div_lt_grp hj; omega)]
    exact ite_gm0 (hV _))
  rw [p1, Nat.zero_xor]
  have p2 : xs (fun i => (fun c => if M / 2 ^ c % 2 = 1 then gm (colv g s c k) (V c) else 0) (k * s + i)) s = xs (fun j => V (k * s + j)) s := xs_congr _ (fun j hj => by
    show (if M / 2 ^ (k * s + j) % 2 = 1 then gm (colv g s (k * s + j) k) (V (k * s + j)) else 0) = V (k * s + j)
    rw [if_pos (hM j hj), colv_dk (by omega) hk, if_pos (div_grp hj).symm, gm_1l (hV _)])
  rw [p2]
  have p3 : xs (fun i => (fun i => (fun c => if M / 2 ^ c % 2 = 1 then gm (colv g s c k) (V c) else 0) (k * s + i)) (s + i)) (g * s - (k * s + s)) = 0 := xs_0 _ (fun j hj => by
    show (if M / 2 ^ (k * s + (s + j)) % 2 = 1 then gm (colv g s (k * s + (s + j)) k) (V (k * s + (s + j))) else 0) = 0
    rw [colv_dk (by omega) hk, if_neg (show ¬ k = (k * s + (s + j)) / s by have := div_gt_grp (s := s) (k := k) (c := k * s + (s + j)) (by omega) (by omega); omega)]
    exact ite_gm0 (hV _))
  rw [p3, Nat.zero_xor]
  have par : ∀ c, ¬ c < g * s → c ≠ g * s + k → (if M / 2 ^ c % 2 = 1 then gm (colv g s c k) (V c) else 0) = 0 := fun c h1 h2 => by
    rw [colv_pk h1, if_neg (show ¬ k = c - g * s by omega)]
    exact ite_gm0 (hV _)
  have p4 : xs (fun i => (fun i => (fun i => (fun c => if M / 2 ^ c % 2 = 1 then gm (colv g s c k) (V c) else 0) (k * s + i)) (s + i)) (g * s - (k * s + s) + i)) k = 0 := xs_0 _ (fun j hj => par (k * s + (s + (g * s - (k * s + s) + j))) (by omega) (by omega))
  rw [p4, Nat.zero_xor]
  have p6 : xs (fun i => (fun i => (fun i => (fun i => (fun i => (fun c => if M / 2 ^ c % 2 = 1 then gm (colv g s c k) (V c) else 0) (k * s + i)) (s + i)) (g * s - (k * s + s) + i)) (k + i)) (1 + i)) (g - k + 1) = 0 := xs_0 _ (fun j hj => par (k * s + (s + (g * s - (k * s + s) + (k + (1 + j))))) (by omega) (by omega))
  rw [p6, Nat.xor_zero]
  have p5 : xs (fun i => (fun i => (fun i => (fun i => (fun c => if M / 2 ^ c % 2 = 1 then gm (colv g s c k) (V c) else 0) (k * s + i)) (s + i)) (g * s - (k * s + s) + i)) (k + i)) 1 = V (g * s + k) := by
    show 0 ^^^ (if M / 2 ^ (k * s + (s + (g * s - (k * s + s) + (k + 0)))) % 2 = 1 then gm (colv g s (k * s + (s + (g * s - (k * s + s) + (k + 0)))) k) (V (k * s + (s + (g * s - (k * s + s) + (k + 0))))) else 0) = V (g * s + k)
    rw [show k * s + (s + (g * s - (k * s + s) + (k + 0))) = g * s + k by omega, if_pos hP, colv_pk (by omega), if_pos (by omega), gm_1l (hV _), Nat.zero_xor]
  rw [p5, Nat.xor_comm]
/-- the sum of a global check, e = 0 or 1 -/
theorem vsum_glo {g s T sh e M : Nat} {V : Nat → Nat} (hL : LayOK g s T sh) (he : e < 2) (hV : ∀ c, V c < 16) (hM : ∀ c, c < g * s → bit M c) : vsum (colv g s) V M (nc g s) (g + e) = xs (fun c => gm (pw ((e + 1) * c)) (V c)) (g * s) ^^^ (if M / 2 ^ (g * s + (g + e)) % 2 = 1 then V (g * s + (g + e)) else 0) := by
  generalize hq : g + e = q
  have en : nc g s = g * s + (q + (1 + (1 - e))) := by unfold nc; omega
  rw [vsum_xs, en, xs_add, xs_add, xs_add]
  have p1 : xs (fun c => if M / 2 ^ c % 2 = 1 then gm (colv g s c q) (V c) else 0) (g * s) = xs (fun c => gm (pw ((e + 1) * c)) (V c)) (g * s) := xs_congr _ (fun j hj => by
    show (if M / 2 ^ j % 2 = 1 then gm (colv g s j q) (V j) else 0) = gm (pw ((e + 1) * j)) (V j)
    rw [if_pos (hM j hj), ← hq]
    rcases (show e = 0 ∨ e = 1 by omega) with rfl | rfl
    · rw [Nat.add_zero, colv_dg hj, Nat.zero_add, Nat.one_mul]
    · rw [colv_dg1 hj])
  rw [p1]
  have par : ∀ c, ¬ c < g * s → c ≠ g * s + q → (if M / 2 ^ c % 2 = 1 then gm (colv g s c q) (V c) else 0) = 0 := fun c h1 h2 => by
    rw [colv_pk h1, if_neg (show ¬ q = c - g * s by omega)]
    exact ite_gm0 (hV _)
  have p2 : xs (fun i => (fun c => if M / 2 ^ c % 2 = 1 then gm (colv g s c q) (V c) else 0) (g * s + i)) q = 0 := xs_0 _ (fun j hj => par (g * s + j) (by omega) (by omega))
  have p4 : xs (fun i => (fun i => (fun i => (fun c => if M / 2 ^ c % 2 = 1 then gm (colv g s c q) (V c) else 0) (g * s + i)) (q + i)) (1 + i)) (1 - e) = 0 := xs_0 _ (fun j hj => par (g * s + (q + (1 + j))) (by omega) (by omega))
  rw [p2, Nat.zero_xor, p4, Nat.xor_zero]
  congr 1
  show 0 ^^^ (if M / 2 ^ (g * s + (q + 0)) % 2 = 1 then gm (colv g s (g * s + (q + 0)) q) (V (g * s + (q + 0))) else 0) = _
  rw [Nat.add_zero, colv_pk (by omega), if_pos (show q = g * s + q - g * s by omega), gm_1l (hV _), Nat.zero_xor]
theorem vsum_hi {g s k M : Nat} {V : Nat → Nat} (hV : ∀ c, V c < 16) (hk : g + 2 ≤ k) : vsum (colv g s) V M (nc g s) k = 0 := by
  rw [vsum_xs]
  exact xs_0 _ (fun j hj => by rw [colv_hi hj hk]; exact ite_gm0 (hV _))
theorem flg_top {v : Nat → Nat} {g : Nat} (hg : g ≤ 4) (h : ∀ k, g + 2 ≤ k → v k = 0) : flg v 6 = flg v (g + 2) := by
  have step : ∀ j, flg v (g + 2 + j) = flg v (g + 2) := by
    intro j
    induction j with
    | zero => rfl
    | succ j ih =>
      show (if v (g + 2 + j) = 0 then flg v (g + 2 + j) else flg v (g + 2 + j) ||| 1 * 2 ^ (g + 2 + j)) = _
      rw [if_pos (h _ (by omega)), ih]
  have q := step (6 - (g + 2))
  rwa [show g + 2 + (6 - (g + 2)) = 6 by omega] at q
theorem ev_sglx {l : Nat → Nat} {x k : Nat} (hl : B6 l) (hx : x < 16) (hk : k < 6) : ev l (sgl x k) = gm (l k) x := by
  have e : ev l (sgl x k) = ev l (fun i => gm (sgl 1 k i) x) := ev_congr (fun _ _ => rfl) (fun i _ => by
    unfold sgl
    split
    · exact (gm_1l hx).symm
    · exact (gm_0l hx).symm)
  rw [e, ev_gm_r hl (B6.sgl (by decide)) hx, ev_comm hl (B6.sgl (by decide)), ev_sgl hl hk]
theorem ev_dat {g s c : Nat} {l : Nat → Nat} (hl : B6 l) (hg : g ≤ 4) (hc : c < g * s) : ev l (colv g s c) = l (c / s) ^^^ (gm (l g) (pw c) ^^^ gm (l (g + 1)) (pw (2 * c))) := by
  have h : c / s < g := by have := hcv_ltg hc; unfold hcv at this; rwa [if_pos hc] at this
  have e : ev l (colv g s c) = ev l (fun i => sgl 1 (c / s) i ^^^ (sgl (pw c) g i ^^^ sgl (pw (2 * c)) (g + 1) i)) := ev_congr (fun _ _ => rfl) (fun i _ => by
    unfold colv sgl
    rw [if_pos hc]
    by_cases q1 : i = c / s
    · rw [if_pos q1, if_pos q1, if_neg (by omega), if_neg (by omega)]
      rfl
    · rw [if_neg q1, if_neg q1]
      by_cases q2 : i = g
      · rw [if_pos q2, if_pos q2, if_neg (by omega), Nat.zero_xor, Nat.xor_zero]
      · rw [if_neg q2, if_neg q2, Nat.zero_xor, Nat.zero_xor])
  rw [e, ev_xor_r hl (B6.sgl (by decide)) ((B6.sgl (pw_lt _)).xor (B6.sgl (pw_lt _))), ev_xor_r hl (B6.sgl (pw_lt _)) (B6.sgl (pw_lt _)), ev_sglx hl (by decide) (by omega), ev_sglx hl (pw_lt _) (by omega), ev_sglx hl (pw_lt _) (by omega), gm_1 (hl _ (by omega))]
theorem ev_par {g s c : Nat} {l : Nat → Nat} (hl : B6 l) (hg : g ≤ 4) (hn : c < nc g s) (hc : ¬ c < g * s) : ev l (colv g s c) = l (c - g * s) := by
  have h : hcv g s c = c - g * s := if_neg hc
  unfold nc at hn
  rw [colv_par hc, h, ev_sglx hl (by decide) (by omega), gm_1 (hl _ (by omega))]
def gcv (g s k : Nat) : Nat := ((2 ^ s - 1) * 2 ^ (k * s)) ||| 2 ^ (g * s + k)
theorem gtb {g s k x : Nat} : bit (gcv g s k) x ↔ (k * s ≤ x ∧ x < k * s + s) ∨ x = g * s + k := by
  rw [bit_tb]
  unfold gcv
  rw [Nat.testBit_or, Nat.testBit_mul_two_pow, Nat.testBit_two_pow_sub_one, Nat.testBit_two_pow]
  simp
  omega
theorem grp_iff {g s k x : Nat} (hs : 0 < s) (hk : k < g) : bit (gcv g s k) x ↔ hcv g s x = k := by
  have hgs := mul_le_grp (s := s) hk
  rw [gtb]
  unfold hcv
  by_cases q : x < g * s
  · rw [if_pos q]
    constructor
    · rintro (h | h)
      · have e := div_grp (s := s) (k := k) (i := x - k * s) (by omega)
        rwa [show k * s + (x - k * s) = x by omega] at e
      · omega
    · intro h
      left
      subst h
      have h1 := Nat.div_mul_le_self x s
      have h2 := Nat.lt_div_mul_add (a := x) hs
      exact ⟨h1, h2⟩
  · rw [if_neg q]
    constructor
    · rintro (h | h)
      · omega
      · omega
    · intro h
      right
      omega
theorem pmv_g {g s c : Nat} (h : hcv g s c < g) : pmv g s c = clr (gcv g s (hcv g s c)) c := if_pos h
theorem pmv_d {g s c : Nat} (h : ¬ hcv g s c < g) : pmv g s c = 2 ^ (g * s) - 1 := if_neg h
theorem bit_m1 {n x : Nat} : bit (2 ^ n - 1) x ↔ x < n := by
  rw [bit_tb, Nat.testBit_two_pow_sub_one]
  simp
theorem bit_and {P M x : Nat} : bit (P &&& M) x ↔ bit P x ∧ bit M x := by
  rw [bit_tb, bit_tb, bit_tb, Nat.testBit_and]
  simp
theorem eq_bits {P M : Nat} (h : ∀ x, bit P x ↔ bit M x) : P = M := by
  apply Nat.eq_of_testBit_eq
  intro x
  have q := h x
  rw [bit_tb, bit_tb] at q
  cases e1 : P.testBit x <;> cases e2 : M.testBit x <;> simp_all
theorem bit_2 {c x : Nat} : bit (2 ^ c) x ↔ x = c := by
  rw [bit_tb, Nat.testBit_two_pow]
  simp [eq_comm]
theorem bit_big {M n x : Nat} (hM : M < 2 ^ n) (hb : bit M x) : x < n := by
  apply Classical.byContradiction
  intro q
  rw [bit_tb, Nat.testBit_lt_two_pow (Nat.lt_of_lt_of_le hM (Nat.pow_le_pow_right (by decide) (Nat.le_of_not_lt q)))] at hb
  cases hb
theorem pmv_bit {g s c x : Nat} (hs : 0 < s) (h : hcv g s c < g) (hx : x < 32) : bit (pmv g s c) x ↔ hcv g s x = hcv g s c ∧ x ≠ c := by
  rw [pmv_g h, bit_clr hx, grp_iff hs h]
theorem gcv_n {g s k x : Nat} (hk : k < g) (h : bit (gcv g s k) x) : x < nc g s := by
  have h2 := mul_le_grp (s := s) hk
  rw [gtb] at h
  unfold nc
  omega
theorem Dual.same {C : Nat → Nat → Nat} {M n c : Nat} {S l l' : Nat → Nat} (hC : ∀ c, c < n → B6 (C c)) (hcn : c < n) (hS : B6 S) (h : Dual C M n c l) (h' : Dual C M n c l') (hv : ∀ l, Van C M n l → ev l S = 0) : ev l S = ev l' S := by
  have q := hv (fun i => l i ^^^ l' i) ⟨h.1.xor h'.1, fun c' hc' hb' => by
    rw [ev_xor_l h.1 h'.1 (hC c' hc')]
    by_cases e : c' = c
    · rw [e, h.2.1, h'.2.1]
      rfl
    · rw [h.2.2 c' hc' hb' e, h'.2.2 c' hc' hb' e]
      rfl⟩
  rw [ev_xor_l h.1 h'.1 hS] at q
  exact xor_eq0 q
theorem src3_lt {n M : Nat} : Src3 n M < 2 ^ n := Nat.lt_of_le_of_lt Nat.and_le_left (Nat.sub_lt (Nat.two_pow_pos n) (by decide))
theorem colv_home {g s T sh c : Nat} (hL : LayOK g s T sh) (hc : c < nc g s) : colv g s c (hcv g s c) = 1 := by
  unfold hcv
  by_cases q : c < g * s
  · rw [if_pos q]
    unfold colv
    rw [if_pos q, if_pos rfl]
  · rw [if_neg q, colv_pk q, if_pos rfl]
theorem src_n {g s T sh M c w src X : Nat} {C : Nat → Nat → Nat} {V : Nat → Nat} (hL : LayOK g s T sh) (h : WayX C V g s M c w src X) : src < 2 ^ nc g s := by
  have hn := hL.nc
  have hs : 2 ≤ s := hL.2.2.1
  rcases h with ⟨-, -, e, -⟩ | ⟨-, -, -, e, -⟩
  · rw [e]
    refine Nat.lt_pow_two_of_testBit _ (fun x hx => ?_)
    cases q : (pmv g s c).testBit x with
    | false => rfl
    | true =>
      have q2 := bit_tb.mpr q
      have h20 := bit_big (pmv_lt20 hL) q2
      by_cases hh : hcv g s c < g
      · have q3 := (pmv_bit (by omega) hh (by omega)).mp q2
        have q4 := gcv_n hh ((grp_iff (by omega) hh).mpr q3.1)
        omega
      · rw [pmv_d hh, bit_m1] at q2
        unfold nc at hx
        omega
  · rw [e]
    exact src3_lt
theorem pcn_n {M n : Nat} (hM : M < 2 ^ n) (hn : n ≤ 20) : pcn M 20 = pcn M n := by
  have q := pcn_hi hM (20 - n)
  rwa [show n + (20 - n) = 20 by omega] at q
theorem bP_iff {P Q : Prop} (h : P ↔ Q) : bP P = bP Q := by
  by_cases q : Q
  · rw [bP_t q, bP_t (h.mpr q)]
  · rw [bP_f q, bP_f (fun w => q (h.mp w))]
theorem pcn_pos {M x : Nat} (hb : bit M x) : ∀ n, x < n → 1 ≤ pcn M n
  | 0, h => absurd h (Nat.not_lt_zero x)
  | n + 1, h => by
    show 1 ≤ pcn M n + M / 2 ^ n % 2
    by_cases e : x = n
    · subst e
      have hb2 : M / 2 ^ x % 2 = 1 := hb
      omega
    · have := pcn_pos hb n (by omega)
      omega
/-- a mend reads at least one cell -/
theorem WyX.pos {A : Ab} {t c w src X : Nat} (hA : AOK A) (hc : c < nc (aG A) (aS A)) (h : WyX A t c w src X) : 1 ≤ pcn src 20 := by
  have hn := hA.1.nc
  have hg1 : 1 ≤ aG A := hA.1.1
  have hg4 : aG A ≤ 4 := hA.1.2.1
  have hs2 : 2 ≤ aS A := hA.1.2.2.1
  have en : nc (aG A) (aS A) = aG A * aS A + aG A + 2 := rfl
  have hgs2 : 2 ≤ aG A * aS A := Nat.le_trans hs2 (by have := Nat.mul_le_mul_right (aS A) hg1; rwa [Nat.one_mul] at this)
  have key : ∀ x, x < 20 → bit src x → 1 ≤ pcn src 20 := fun x hx hb => pcn_pos hb 20 hx
  rcases h with ⟨-, -, e, -⟩ | ⟨-, ⟨⟨l, hl⟩, -⟩, -, e, -⟩
  · rw [e] at key ⊢
    by_cases hh : hcv (aG A) (aS A) c < aG A
    · have hgk := mul_le_grp (s := aS A) hh
      by_cases q : c = aG A * aS A + hcv (aG A) (aS A) c
      · refine key (hcv (aG A) (aS A) c * aS A) (by omega) ((pmv_bit (by omega) hh (by omega)).mpr ⟨(grp_iff (by omega) hh).mp (gtb.mpr (Or.inl ⟨Nat.le_refl _, by omega⟩)), by omega⟩)
      · exact key (aG A * aS A + hcv (aG A) (aS A) c) (by omega) ((pmv_bit (by omega) hh (by omega)).mpr ⟨(grp_iff (by omega) hh).mp (gtb.mpr (Or.inr rfl)), fun w => q w.symm⟩)
    · rw [pmv_d hh] at key ⊢
      exact key 0 (by omega) (bit_m1.mpr (by omega))
  · rw [e] at key ⊢
    apply Classical.byContradiction
    intro hno
    have hall : ∀ x, x < nc (aG A) (aS A) → bit (aM A t) x := fun x hx => Classical.byContradiction fun q => hno (key x (by omega) ((src_bit (by omega)).mpr ⟨hx, q⟩))
    have hz : ∀ k, k < aG A + 2 → aG A * aS A + k ≠ c → l k = 0 := fun k hk hne => by
      have e := hl.2.2 (aG A * aS A + k) (by omega) (hall _ (by omega)) hne
      rwa [ev_par hl.1 hg4 (by omega) (by omega), show aG A * aS A + k - aG A * aS A = k by omega] at e
    have h1 := hl.2.1
    by_cases q : c < aG A * aS A
    · have hh := hcv_ltg q
      have eh : hcv (aG A) (aS A) c = c / aS A := if_pos q
      rw [ev_dat hl.1 hg4 q, hz (c / aS A) (by omega) (by omega), hz (aG A) (by omega) (by omega), hz (aG A + 1) (by omega) (by omega), gm_0l (pw_lt _), gm_0l (pw_lt _)] at h1
      cases h1
    · rw [ev_par hl.1 hg4 hc q] at h1
      -- a data cell of the same check
      by_cases q2 : c - aG A * aS A < aG A
      · have hgk := mul_le_grp (s := aS A) q2
        have hd : (c - aG A * aS A) * aS A < aG A * aS A := by omega
        have e2 := hl.2.2 ((c - aG A * aS A) * aS A) (by omega) (hall _ (by omega)) (by omega)
        have e3 : (c - aG A * aS A) * aS A / aS A = c - aG A * aS A := Nat.mul_div_cancel _ (by omega)
        rw [ev_dat hl.1 hg4 hd, e3, h1, hz (aG A) (by omega) (by omega), hz (aG A + 1) (by omega) (by omega), gm_0l (pw_lt _), gm_0l (pw_lt _)] at e2
        cases e2
      · have e2 := hl.2.2 0 (by omega) (hall _ (by omega)) (by omega)
        rw [ev_dat hl.1 hg4 (by omega), Nat.zero_div, hz 0 (by omega) (by omega)] at e2
        rcases (show c - aG A * aS A = aG A ∨ c - aG A * aS A = aG A + 1 by omega) with q3 | q3
        · rw [q3] at h1
          rw [h1, hz (aG A + 1) (by omega) (by omega)] at e2
          revert e2
          decide
        · rw [q3] at h1
          rw [h1, hz (aG A) (by omega) (by omega)] at e2
          revert e2
          decide
theorem vsum_put {C : Nat → Nat → Nat} {V : Nat → Nat} {M c v : Nat} (hV : ∀ k, V k < 16) (hC : ∀ k i, C k i < 16) (hv : v < 16) (i : Nat) : ∀ n, vsum C (fun k => if k = c then v else V k) M n i = vsum C V M n i ^^^ (if c < n ∧ bit M c then gm (C c i) (V c ^^^ v) else 0)
  | 0 => by
    rw [if_neg (by omega), Nat.xor_zero]
    rfl
  | n + 1 => by
    show vsum C (fun k => if k = c then v else V k) M n i ^^^ (if M / 2 ^ n % 2 = 1 then gm (C n i) (if n = c then v else V n) else 0) = (vsum C V M n i ^^^ (if M / 2 ^ n % 2 = 1 then gm (C n i) (V n) else 0)) ^^^ _
    rw [vsum_put hV hC hv i n]
    by_cases e : n = c
    · subst e
      rw [if_neg (show ¬ (n < n ∧ bit M n) by omega), if_pos rfl, Nat.xor_zero]
      by_cases q : M / 2 ^ n % 2 = 1
      · rw [if_pos q, if_pos q, if_pos (show n < n + 1 ∧ bit M n from ⟨by omega, q⟩), gm_xor (hC n i) (hV n) hv, Nat.xor_assoc, ← Nat.xor_assoc (gm (C n i) (V n)), Nat.xor_self, Nat.zero_xor]
      · rw [if_neg q, if_neg q, if_neg (show ¬ (n < n + 1 ∧ bit M n) from fun w => q w.2), Nat.xor_zero, Nat.xor_zero]
    · rw [if_neg e]
      by_cases q : c < n ∧ bit M c
      · rw [if_pos q, if_pos (show c < n + 1 ∧ bit M c from ⟨by omega, q.2⟩), Nat.xor_assoc, Nat.xor_comm (gm (C c i) (V c ^^^ v)), ← Nat.xor_assoc]
      · rw [if_neg q, if_neg (show ¬ (c < n + 1 ∧ bit M c) from fun w => q ⟨by omega, w.2⟩), Nat.xor_zero, Nat.xor_zero]
theorem aSum_put {A : Ab} {t c v : Nat} (hA : AOK A) (hc : c < nc (aG A) (aS A)) (hv : v < 16) (i : Nat) : aSum (aPut A t c v) t i = aSum A t i ^^^ gm (colv (aG A) (aS A) c i) (aV A t c ^^^ v) := by
  have e := vsum_put (C := colv (aG A) (aS A)) (V := aV A t) (M := 2 ^ nc (aG A) (aS A) - 1) (c := c) (v := v) (hA.2.2.1 t) (fun k i => colv_lt i) hv i (nc (aG A) (aS A))
  rw [if_pos ⟨hc, bit_m1.mpr hc⟩] at e
  have e2 : (fun k => if k = c then v else aV A t k) = aV (aPut A t c v) t := by
    funext k
    show _ = put2 (aV A) t c v t k
    unfold put2
    by_cases q : k = c
    · rw [if_pos q, if_pos ⟨rfl, q⟩]
    · rw [if_neg q, if_neg (fun w => q w.2)]
  rw [e2] at e
  exact e
theorem flg_0 {v : Nat → Nat} : ∀ n, flg v n = 0 ↔ ∀ j, j < n → v j = 0
  | 0 => ⟨fun _ j hj => absurd hj (Nat.not_lt_zero j), fun _ => rfl⟩
  | n + 1 => by
    have ih := flg_0 (v := v) n
    show (if v n = 0 then flg v n else flg v n ||| 1 * 2 ^ n) = 0 ↔ _
    by_cases q : v n = 0
    · rw [if_pos q, ih]
      constructor
      · intro h j hj
        by_cases e : j = n
        · rw [e]; exact q
        · exact h j (by omega)
      · exact fun h j hj => h j (by omega)
    · rw [if_neg q]
      constructor
      · intro h
        have h2 : 1 * 2 ^ n ≤ flg v n ||| 1 * 2 ^ n := Nat.right_le_or
        have h3 := Nat.two_pow_pos n
        omega
      · exact fun h => absurd (h n (by omega)) q
theorem flg_lt {v : Nat → Nat} : ∀ n, flg v n < 2 ^ n
  | 0 => by show 0 < 2 ^ 0; decide
  | n + 1 => by
    have ih := flg_lt (v := v) n
    show (if v n = 0 then flg v n else flg v n ||| 1 * 2 ^ n) < 2 ^ (n + 1)
    have h2 : 2 ^ (n + 1) = 2 * 2 ^ n := by rw [Nat.pow_succ, Nat.mul_comm]
    split
    · omega
    · rw [Nat.one_mul]
      exact Nat.or_lt_two_pow (by omega) (Nat.pow_lt_pow_right (by decide) (by omega))
theorem upd_self {f : Nat → Int32} {k : Nat} : upd f k (f k) = f := by
  funext j
  unfold upd
  split
  · rename_i e; rw [e]
  · rfl
theorem upd_upd {f : Nat → Int32} {k : Nat} {x y : Int32} : upd (upd f k x) k y = upd f k y := by
  funext j
  unfold upd
  split <;> rfl
theorem cpG_le {A : Ab} {t c : Nat} : ∀ j, cpG A t j = some c → c < j ∧ CU (colv (aG A) (aS A)) (aSum A t) (hcv (aG A) (aS A) c) c
  | 0, h => by cases h
  | j + 1, h => by
    have h2 : (match cpG A t j with | some c => some c | none => cI (CU (colv (aG A) (aS A)) (aSum A t) (hcv (aG A) (aS A) j) j) (some j) none) = some c := h
    cases e : cpG A t j with
    | some d =>
      rw [e] at h2
      cases h2
      have := cpG_le j e
      exact ⟨by omega, this.2⟩
    | none =>
      rw [e] at h2
      by_cases q : CU (colv (aG A) (aS A)) (aSum A t) (hcv (aG A) (aS A) j) j
      · have h3 := (cI_t q).symm.trans h2
        cases h3
        exact ⟨by omega, q⟩
      · have h3 := (cI_f q).symm.trans h2
        cases h3
theorem cpG_none {A : Ab} {t : Nat} : ∀ j, cpG A t j = none → ∀ c, c < j → ¬ CU (colv (aG A) (aS A)) (aSum A t) (hcv (aG A) (aS A) c) c
  | 0, _, c, hc => absurd hc (Nat.not_lt_zero c)
  | j + 1, h, c, hc => by
    have h2 : (match cpG A t j with | some c => some c | none => cI (CU (colv (aG A) (aS A)) (aSum A t) (hcv (aG A) (aS A) j) j) (some j) none) = none := h
    cases e : cpG A t j with
    | some d =>
      rw [e] at h2
      cases h2
    | none =>
      rw [e] at h2
      by_cases q : CU (colv (aG A) (aS A)) (aSum A t) (hcv (aG A) (aS A) j) j
      · have h3 := (cI_t q).symm.trans h2
        cases h3
      · by_cases e2 : c = j
        · rw [e2]; exact q
        · exact cpG_none j e c (by omega)
/-- a negative answer has changed nothing -/
def NG (R : Int32 × Ab) (A : Ab) : Prop := R.1 < 0 → R.2 = A
theorem NG.cI {P : Prop} {a b : Int32 × Ab} {A : Ab} (h1 : NG a A) (h2 : NG b A) : NG (cI P a b) A := by
  by_cases q : P
  · rw [cI_t q]; exact h1
  · rw [cI_f q]; exact h2
theorem NG.same {x : Int32} {A : Ab} : NG (x, A) A := fun _ => rfl
theorem NG.pos {k : Nat} {A A' : Ab} (h : k < 2 ^ 31) : NG (nI k, A') A := fun q => absurd q (nI_pos h)
theorem NG.cn {k : Nat} {A A' : Ab} (h : k < 2 ^ 31) (h0 : k = 0 → A' = A) : NG (cnI k, A') A := fun q => by
  by_cases e : k = 0
  · exact h0 e
  · have e2 : cnI k = nI k := if_neg e
    exact absurd (show nI k < 0 by rw [← e2]; exact q) (nI_pos h)
theorem wrF_ng {A : Ab} {x y z : Int32} (hA : AOK A) : NG (wrF A x y z) A := NG.cI (NG.cI (NG.cI (NG.cI NG.same (NG.pos (by have := hA.2.2.1 x.toNatClampNeg y.toNatClampNeg; omega))) NG.same) NG.same) NG.same
theorem loF_ng {A : Ab} {x y : Int32} (hA : AOK A) : NG (loF A x y) A := NG.cI (NG.cI NG.same (NG.pos (by have := hA.q160; omega))) NG.same
theorem mdF_ng {A : Ab} {x y : Int32} : NG (mdF A x y) A := by
  refine NG.cI (NG.cI ?_ NG.same) NG.same
  unfold mdA
  cases wyF A x.toNatClampNeg y.toNatClampNeg with
  | none => exact NG.same
  | some p => exact NG.pos (by have := pcn_le p.2.1 20; omega)
theorem lnG_0 {nd : Nat} : ∀ m t A, (lnG nd m t A).1 ≤ m ∧ ((lnG nd m t A).1 = 0 → (lnG nd m t A).2 = A)
  | 0, _, _ => ⟨Nat.le_refl 0, fun _ => rfl⟩
  | m + 1, t, A => by
    by_cases h : bit (aM A t) (con (nc (aG A) (aS A)) nd (t * aH A))
    · rw [lnG_t h]
      have ih := lnG_0 (nd := nd) m (t + 1) A
      exact ⟨by omega, ih.2⟩
    · rw [lnG_f h]
      have ih := lnG_0 (nd := nd) m (t + 1) (aLos A t (con (nc (aG A) (aS A)) nd (t * aH A)))
      exact ⟨by dsimp only; omega, fun q => absurd q (by dsimp only; omega)⟩
theorem lsF_ng {A : Ab} {x : Int32} (hA : AOK A) : NG (lsF A x) A := by
  have h8 : aT A ≤ 8 := hA.1.2.2.2.2.2.2.1
  have q := lnG_0 (nd := x.toNatClampNeg) (aT A) 0 A
  exact NG.cI (NG.cn (by omega) q.2) NG.same
theorem mnG_0r {nd : Nat} : ∀ m t A r, AOK A → t + m = aT A → mnG nd m t A = some r → r.1 ≤ 20 * m ∧ (r.1 = 0 → r.2 = A)
  | 0, _, _, r, _, _, h => by
    cases h
    exact ⟨Nat.le_refl 0, fun _ => rfl⟩
  | m + 1, t, A, r, hA, htm, h => by
    have hn := hA.1.nc
    by_cases hb : bit (aM A t) (con (nc (aG A) (aS A)) nd (t * aH A))
    · rcases way_cases A t (con (nc (aG A) (aS A)) nd (t * aH A)) with ⟨w, src, X, hW⟩ | hW
      · rw [mnG_s hb hW] at h
        have hc : con (nc (aG A) (aS A)) nd (t * aH A) < nc (aG A) (aS A) := con_lt (by omega)
        have hp := WyX.pos hA hc hW
        have hp2 := pcn_le src 20
        have ih := mnG_0r (nd := nd) m (t + 1) (aMnd A t (con (nc (aG A) (aS A)) nd (t * aH A)) w src X)
        cases e : mnG nd m (t + 1) (aMnd A t (con (nc (aG A) (aS A)) nd (t * aH A)) w src X) with
        | none =>
          rw [e] at h
          cases h
        | some r2 =>
          rw [e] at h
          cases h
          have ih2 := ih r2 (aMnd_ok hA (by omega) hc (WyX.lt hA hc hW)) (by show t + 1 + m = aT A; omega) e
          exact ⟨by show pcn src 20 + r2.1 ≤ 20 * (m + 1); omega, fun q => absurd (show pcn src 20 + r2.1 = 0 from q) (by omega)⟩
      · rw [mnG_0 hb hW] at h
        cases h
    · rw [mnG_f hb] at h
      have ih := mnG_0r (nd := nd) m (t + 1) A r hA (by omega) h
      exact ⟨by omega, ih.2⟩
theorem wkG_le : ∀ m A, (wkG m A).1 ≤ m
  | 0, _ => Nat.le_refl 0
  | m + 1, A => by
    cases hq : aQ A with
    | nil =>
      rw [wkG_e hq]
      exact Nat.zero_le _
    | cons x l =>
      rcases way_cases A (x / 20) (x % 20) with ⟨w, src, X, hW⟩ | hW
      · rw [wkG_s hq hW]
        have := wkG_le m (aMnd A (x / 20) (x % 20) w src X)
        dsimp only
        omega
      · rw [wkG_n hq hW]
        have := wkG_le m (aRot A)
        omega
theorem chZ_m {Z : Zt} {A : Ab} {v : Int32} (h : v < 0) : chZ Z (v, A) = (v, Z) := cI_t h
theorem mnF_ng {A : Ab} {x : Int32} (hA : AOK A) (h : (mnF A x).1 ≠ -4) : NG (mnF A x) A := by
  have h8 : aT A ≤ 8 := hA.1.2.2.2.2.2.2.1
  unfold mnF at h ⊢
  by_cases q : inR x (nc (aG A) (aS A))
  · rw [cI_t q] at h ⊢
    cases e : mnG x.toNatClampNeg (aT A) 0 A with
    | none =>
      rw [e] at h
      exact absurd rfl h
    | some r =>
      have q2 := mnG_0r (aT A) 0 A r hA (Nat.zero_add _) e
      exact NG.cn (by omega) q2.2
  · rw [cI_f q]
    exact NG.same
theorem pcn_0 {z : Nat} : ∀ j, z < 2 ^ j → pcn z j = 0 → z = 0
  | 0, h, _ => by
    have : z < 1 := h
    omega
  | j + 1, h, e => by
    have e2 : pcn z j + z / 2 ^ j % 2 = 0 := e
    have hp := Nat.two_pow_pos j
    have h2 : z < 2 ^ j * 2 := by rw [← Nat.pow_succ]; exact h
    have h3 : z / 2 ^ j < 2 := (Nat.div_lt_iff_lt_mul hp).mpr (by rw [Nat.mul_comm]; exact h2)
    have h4 : z / 2 ^ j = 0 := by
      revert e2 h3
      generalize z / 2 ^ j = q
      intro e2 h3
      omega
    have h5 : z < 2 ^ j := by
      rcases Nat.lt_or_ge z (2 ^ j) with q | q
      · exact q
      · have := Nat.div_pos q hp
        omega
    exact pcn_0 j h5 (by omega)
theorem pcn_m {z : Nat} : ∀ j k, j ≤ k → pcn (z % 2 ^ k) j = pcn z j
  | 0, _, _ => rfl
  | j + 1, k, h => by
    show pcn (z % 2 ^ k) j + z % 2 ^ k / 2 ^ j % 2 = pcn z j + z / 2 ^ j % 2
    rw [pcn_m j k (by omega)]
    have e : (bit (z % 2 ^ k) j ↔ bit z j) := by
      rw [bit_tb, bit_tb, Nat.testBit_mod_two_pow]
      simp [show j < k by omega]
    have e2 : (z % 2 ^ k / 2 ^ j % 2 = 1 ↔ z / 2 ^ j % 2 = 1) := e
    omega
theorem mod_pow1 (x p : Nat) : x % 2 ^ (p + 1) = x % 2 ^ p + x / 2 ^ p % 2 * 2 ^ p := by
  rw [Nat.pow_succ, Nat.mod_mul]
  rw [Nat.mul_comm (2 ^ p)]
theorem or_add {M p : Nat} (h : M < 2 ^ p) : M ||| 2 ^ p = M + 2 ^ p := by
  have q := Nat.two_pow_add_eq_or_of_lt h 1
  rw [Nat.mul_one] at q
  rw [Nat.or_comm, ← q, Nat.add_comm]
theorem pcn_or {M p : Nat} (h : M < 2 ^ p) : pcn (M ||| 2 ^ p) (p + 1) = pcn M p + 1 := by
  have e1 : pcn (M ||| 2 ^ p) p = pcn M p := pcn_congr p (fun c hc => by
    rw [bit_or]
    exact ⟨fun q => q.elim id (fun e => by omega), Or.inl⟩)
  have e2 : (M ||| 2 ^ p) / 2 ^ p % 2 = 1 := (show bit (M ||| 2 ^ p) p from bit_or.mpr (Or.inr rfl))
  show pcn (M ||| 2 ^ p) p + (M ||| 2 ^ p) / 2 ^ p % 2 = _
  rw [e1, e2]
theorem pcn_no {M p : Nat} (h : M < 2 ^ p) : pcn M (p + 1) = pcn M p := by
  show pcn M p + M / 2 ^ p % 2 = _
  rw [Nat.div_eq_of_lt h]
  rfl
theorem bit_xc {L c x : Nat} (hb : bit L c) : bit (L ^^^ 1 * 2 ^ c) x ↔ bit L x ∧ x ≠ c := by
  rw [Nat.one_mul, bit_tb, bit_tb, Nat.testBit_xor, Nat.testBit_two_pow]
  rw [bit_tb] at hb
  by_cases e : c = x
  · subst e
    simp [hb]
  · simp [e, Ne.symm e]
theorem xc_lt {L c : Nat} (hL : L < 2 ^ 20) (hb : bit L c) : L ^^^ 1 * 2 ^ c < L := by
  have e : L ^^^ 1 * 2 ^ c = clr L c := eq_bits (fun x => by
    rw [bit_xc hb]
    by_cases hx : x < 32
    · rw [bit_clr hx]
    · constructor
      · intro q
        have := bit_big hL q.1
        omega
      · intro q
        have := bit_big (Nat.lt_of_le_of_lt clr_le hL) q
        omega)
  have h1 : L ^^^ 1 * 2 ^ c ≤ L := by rw [e]; exact clr_le
  have h2 : L ^^^ 1 * 2 ^ c ≠ L := fun q => by
    have q2 : bit (L ^^^ 1 * 2 ^ c) c := by rw [q]; exact hb
    exact ((bit_xc hb).mp q2).2 rfl
  omega
theorem IndP.step {C : Nat → Nat → Nat} {L c n : Nat} (hC : ∀ c, c < n → B6 (C c)) (hc : c < n) (hb : bit L c) {l : Nat → Nat} (hl : Dual C L n c l) : IndP C (L ^^^ 1 * 2 ^ c) n ↔ IndP C L n := by
  constructor
  · intro h c' hc' hb'
    by_cases e : c' = c
    · subst e
      exact ⟨l, hl⟩
    · obtain ⟨l', h1, h2, h3⟩ := h c' hc' ((bit_xc hb).mpr ⟨hb', e⟩)
      have hy := ev_lt h1 (hC c hc)
      refine ⟨fun k => l' k ^^^ gm (l k) (ev l' (C c)), h1.xor (hl.1.gm hy), ?_, fun c2 hc2 hb2 hne => ?_⟩
      · rw [ev_xor_l h1 (hl.1.gm hy) (hC c' hc'), ev_gm_l hl.1 (hC c' hc') hy, hl.2.2 c' hc' hb' e, gm_0l hy, h2]
        rfl
      · by_cases e2 : c2 = c
        · subst e2
          rw [ev_xor_l h1 (hl.1.gm hy) (hC c2 hc2), ev_gm_l hl.1 (hC c2 hc2) hy, hl.2.1, gm_1l hy, Nat.xor_self]
        · rw [ev_xor_l h1 (hl.1.gm hy) (hC c2 hc2), ev_gm_l hl.1 (hC c2 hc2) hy, hl.2.2 c2 hc2 hb2 e2, gm_0l hy, h3 c2 hc2 ((bit_xc hb).mpr ⟨hb2, e2⟩) hne]
          rfl
  · intro h
    exact h.less (Nat.le_refl n) (fun c' _ hb' => ((bit_xc hb).mp hb').1)
/-- a cell that is mended within its group or from the data has a functional of its own -/
theorem dual12 {g s T sh M c : Nat} (hL : LayOK g s T sh) (hM : M < 2 ^ 20) (hc : c < nc g s) (hb : bit M c) (h0 : pmv g s c &&& M = 0) : ∃ l, Dual (colv g s) M (nc g s) c l := by
  have hh := hcv_lt hL hc
  have hg : g ≤ 4 := hL.2.1
  have hs : 2 ≤ s := hL.2.2.1
  refine ⟨sgl 1 (hcv g s c), B6.sgl (by decide), ?_, fun c' hc' hb' hne => ?_⟩
  · rw [ev_sgl (fun i _ => colv_lt i) (by omega), colv_home hL hc]
  · rw [ev_sgl (fun i _ => colv_lt i) (by omega)]
    have hx := bit_big hM hb'
    by_cases q : hcv g s c < g
    · have h1 : hcv g s c' ≠ hcv g s c := fun e => and_bit h0 ((pmv_bit (by omega) q (by omega)).mpr ⟨e, hne⟩) hb'
      by_cases q2 : c' < g * s
      · have eh : hcv g s c' = c' / s := if_pos q2
        rw [colv_dk q2 q, if_neg (by omega)]
      · have eh : hcv g s c' = c' - g * s := if_neg q2
        rw [colv_pk q2, if_neg (by omega)]
    · have hd : ¬ c < g * s := fun w => q (hcv_ltg w)
      have eh : hcv g s c = c - g * s := if_neg hd
      have q2 : ¬ c' < g * s := fun w => and_bit h0 (by rw [pmv_d q]; exact bit_m1.mpr w) hb'
      rw [colv_pk q2, if_neg (by omega)]
theorem IndP.zero {C : Nat → Nat → Nat} {n : Nat} : IndP C 0 n := fun c _ hb => absurd hb (nbit0 c)
section LW
variable {E : AEnv} {d : Nat} {h h1 h' l : List va_E} {b lo hi : Nat} {G G' : Nat → Option va_E} {Z : Zt} {Ψ : Pst}
theorem CZ.obj (q : CZ G Z h b) : ∃ n t, h[b]? = some (clO b (nI n) (nI t)) := by
  obtain ⟨B, S, o, X, q, -⟩ := q
  exact ⟨_, _, q.1⟩
theorem CZ.len (q : CZ G Z h b) : b + 52 ≤ h.length := by
  obtain ⟨B, S, o, X, q, -⟩ := q
  obtain ⟨F, p, h1, h2, h3, h4, h5⟩ := q.2.2.2.2.2.1
  obtain ⟨σ, s⟩ := h4 3 (by decide)
  have := (List.getElem?_eq_some_iff.mp s.2.2.2.2.2).1
  omega
theorem CZ.re (q : CZ G Z h b) (f : ∀ j, (j < b ∨ b + 52 ≤ j) → h[j]? = G' j) : CZ G' Z h b := by
  obtain ⟨B, S, o, X, ⟨q0, qn, q1, q2, q3, q4, q5, q6, fr, q7⟩, r⟩ := q
  exact ⟨B, S, o, X, ⟨q0, qn, q1, q2, q3, q4, q5, q6, f, q7⟩, r⟩
theorem CZ.keep (q : CZ G Z h b) (hO : Only lo hi h h1) (hd : b + 52 ≤ lo ∨ hi ≤ b) : CZ (fun j => h1[j]?) Z h1 b := by
  obtain ⟨B, S, o, X, ⟨q0, qn, q1, q2, q3, q4, q5, ⟨s, t, q6⟩, fr, w, fd, l, rf, q7⟩, r⟩ := q
  refine ⟨B, S, o, X, ⟨hO.at (by omega) q0, qn, q1.keep hO (by omega), q2.keep hO (by omega), q3.keep hO (by omega), ?_, q5.keep hO (by omega), ⟨s, t, q6.keep hO (by omega)⟩, fun _ _ => rfl, w, fd, l, rf, q7.keep hO (by omega)⟩, r⟩
  obtain ⟨F, p, h1, h2, h3, h4, h5⟩ := q4
  refine ⟨F, p, hO.at (by omega) h1, h2, h3, fun q hq => ?_, fun i hi => (h5 i hi).keep hO (by have := (h2 i (by omega)).1; omega)⟩
  obtain ⟨σ, s⟩ := h4 q hq
  exact ⟨σ, s.keep hO (by omega)⟩
theorem CZ.frm (q : CZ G Z h b) : ∀ j, (j < b ∨ b + 52 ≤ j) → h[j]? = G j := by
  obtain ⟨B, S, o, X, q, -⟩ := q
  exact q.2.2.2.2.2.2.2.2.1
theorem and31 (x : Int32) : ∃ k, k < 32 ∧ x &&& nI 31 = nI k := by
  refine ⟨x.toBitVec.toNat % 32, Nat.mod_lt _ (by decide), ?_⟩
  apply Int32.toBitVec_inj.1
  show x.toBitVec &&& BitVec.ofNat 32 31 = BitVec.ofNat 32 (x.toBitVec.toNat % 32)
  apply BitVec.eq_of_toNat_eq
  have h1 := Nat.and_two_pow_sub_one_eq_mod x.toBitVec.toNat 5
  have h2 := x.toBitVec.isLt
  rw [BitVec.toNat_and, BitVec.toNat_ofNat, BitVec.toNat_ofNat, show 31 % 2 ^ 32 = 2 ^ 5 - 1 by decide, h1, Nat.mod_eq_of_lt (show x.toBitVec.toNat % 2 ^ 5 < 2 ^ 32 by omega)]
end LW
