/-! COUNTING BITS; which sets survive; the nodes of a set -/
theorem and256 (a b c d : Nat) (ha : a < 256) (hc : c < 256) : (a + 256 * b) &&& (c + 256 * d) = (a &&& c) + 256 * (b &&& d) := by
  have e1 : a + 256 * b = 2 ^ 8 * b + a := by omega
  have e2 : c + 256 * d = 2 ^ 8 * d + c := by omega
  have e3 : (a &&& c) + 256 * (b &&& d) = 2 ^ 8 * (b &&& d) + (a &&& c) := by omega
  rw [e1, e2, e3]
  have hx : a &&& c < 2 ^ 8 := Nat.lt_of_le_of_lt Nat.and_le_left ha
  apply Nat.eq_of_testBit_eq
  intro i
  rw [Nat.testBit_and, Nat.testBit_two_pow_mul_add _ (show a < 2 ^ 8 from ha), Nat.testBit_two_pow_mul_add _ (show c < 2 ^ 8 from hc), Nat.testBit_two_pow_mul_add _ hx]
  by_cases hi : i < 8
  · simp [hi, Nat.testBit_and]
  · simp [hi, Nat.testBit_and]
theorem dec256 {P : Nat → Prop} [DecidablePred P] (h : (List.range 256).all (fun a => decide (P a)) = true) {a : Nat} (ha : a < 256) : P a := of_decide_eq_true (List.all_eq_true.mp h a (List.mem_range.mpr ha))
def f1 (a : Nat) : Nat := a - (a / 2 &&& 85)
def f2 (a : Nat) : Nat := (a &&& 51) + (a / 4 &&& 51)
theorem b_tab : ∀ {a : Nat}, a < 256 → a / 2 &&& 85 ≤ a ∧ f1 a < 256 ∧ f2 (f1 a) ≤ 68 ∧ f2 (f1 a) % 16 ≤ 4 ∧ (f2 (f1 a) + f2 (f1 a) / 16) &&& 15 = pcn a 8 ∧ pcn a 8 ≤ 8 :=
  fun h => dec256 (P := fun a => a / 2 &&& 85 ≤ a ∧ f1 a < 256 ∧ f2 (f1 a) ≤ 68 ∧ f2 (f1 a) % 16 ≤ 4 ∧ (f2 (f1 a) + f2 (f1 a) / 16) &&& 15 = pcn a 8 ∧ pcn a 8 ≤ 8) (by decide +kernel) h
/-- bits that another byte lends are masked away -/
theorem lend_tab : ∀ {a : Nat}, a < 256 → ((a / 2 + 128 * 0) &&& 85 = a / 2 &&& 85 ∧ (a / 2 + 128 * 1) &&& 85 = a / 2 &&& 85 ∧ (a / 4 + 64 * 0) &&& 51 = a / 4 &&& 51 ∧ (a / 4 + 64 * 1) &&& 51 = a / 4 &&& 51 ∧ (a / 4 + 64 * 2) &&& 51 = a / 4 &&& 51 ∧ (a / 4 + 64 * 3) &&& 51 = a / 4 &&& 51) :=
  fun h => dec256 (P := fun a => ((a / 2 + 128 * 0) &&& 85 = a / 2 &&& 85 ∧ (a / 2 + 128 * 1) &&& 85 = a / 2 &&& 85 ∧ (a / 4 + 64 * 0) &&& 51 = a / 4 &&& 51 ∧ (a / 4 + 64 * 1) &&& 51 = a / 4 &&& 51 ∧ (a / 4 + 64 * 2) &&& 51 = a / 4 &&& 51 ∧ (a / 4 + 64 * 3) &&& 51 = a / 4 &&& 51)) (by decide +kernel) h
theorem lend_15 {a k : Nat} : (a + 16 * k) &&& 15 = a &&& 15 := by
  rw [show (15 : Nat) = 2 ^ 4 - 1 from rfl, Nat.and_two_pow_sub_one_eq_mod, Nat.and_two_pow_sub_one_eq_mod]
  omega
theorem byte_A {a b m : Nat} (ha : a < 256) (hb : (b / 2 &&& m) ≤ b) : (a + 256 * b) - ((a + 256 * b) / 2 &&& (85 + 256 * m)) = f1 a + 256 * (b - (b / 2 &&& m)) ∧ ((a + 256 * b) / 2 &&& (85 + 256 * m)) ≤ a + 256 * b := by
  have e : (a + 256 * b) / 2 = (a / 2 + 128 * (b % 2)) + 256 * (b / 2) := by omega
  have h1 := (b_tab ha).1
  have h2 : (a / 2 + 128 * (b % 2)) &&& 85 = a / 2 &&& 85 := by
    rcases (show b % 2 = 0 ∨ b % 2 = 1 by omega) with q | q <;> rw [q]
    · exact (lend_tab ha).1
    · exact (lend_tab ha).2.1
  rw [e, and256 _ _ _ _ (by omega) (by decide), h2]
  unfold f1
  omega
theorem byte_B {a b m : Nat} (ha : a < 256) : ((a + 256 * b) &&& (51 + 256 * m)) + ((a + 256 * b) / 4 &&& (51 + 256 * m)) = f2 a + 256 * ((b &&& m) + (b / 4 &&& m)) := by
  have e : (a + 256 * b) / 4 = (a / 4 + 64 * (b % 4)) + 256 * (b / 4) := by omega
  have h2 : (a / 4 + 64 * (b % 4)) &&& 51 = a / 4 &&& 51 := by
    rcases (show b % 4 = 0 ∨ b % 4 = 1 ∨ b % 4 = 2 ∨ b % 4 = 3 by omega) with q | q | q | q <;> rw [q]
    · exact (lend_tab ha).2.2.1
    · exact (lend_tab ha).2.2.2.1
    · exact (lend_tab ha).2.2.2.2.1
    · exact (lend_tab ha).2.2.2.2.2
  rw [e, and256 _ _ _ _ ha (by decide), and256 _ _ _ _ (by omega) (by decide), h2]
  unfold f2
  omega
theorem byte_C {a b m : Nat} (ha : a ≤ 68) (hb : b % 16 ≤ 4) : ((a + 256 * b) + (a + 256 * b) / 16) &&& (15 + 256 * m) = ((a + a / 16) &&& 15) + 256 * ((b + b / 16) &&& m) := by
  have e : (a + 256 * b) + (a + 256 * b) / 16 = ((a + a / 16) + 16 * (b % 16)) + 256 * (b + b / 16) := by omega
  rw [e, and256 _ _ _ _ (by omega) (by decide), lend_15]
theorem pcn_add (M : Nat) : ∀ k j, pcn M (j + k) = pcn M j + pcn (M / 2 ^ j) k
  | 0, j => rfl
  | k + 1, j => by
    show pcn M (j + k) + M / 2 ^ (j + k) % 2 = pcn M j + (pcn (M / 2 ^ j) k + M / 2 ^ j / 2 ^ k % 2)
    rw [pcn_add M k j, Nat.pow_add, Nat.div_div_eq_div_mul]
    omega
theorem pcn_mod {M a b : Nat} (e : M = a + 2 ^ 8 * b) : ∀ k, k ≤ 8 → pcn M k = pcn a k
  | 0, _ => rfl
  | k + 1, hk => by
    have e1 : M / 2 ^ k % 2 = a / 2 ^ k % 2 := by
      rcases (show k = 0 ∨ k = 1 ∨ k = 2 ∨ k = 3 ∨ k = 4 ∨ k = 5 ∨ k = 6 ∨ k = 7 by omega) with rfl | rfl | rfl | rfl | rfl | rfl | rfl | rfl <;> omega
    show pcn M k + M / 2 ^ k % 2 = pcn a k + a / 2 ^ k % 2
    rw [pcn_mod e k (by omega), e1]
theorem pcn_z : ∀ k, pcn 0 k = 0
  | 0 => rfl
  | k + 1 => by show pcn 0 k + 0 / 2 ^ k % 2 = 0; rw [pcn_z k, Nat.zero_div]
theorem pcn_hi {M j : Nat} (h : M < 2 ^ j) : ∀ k, pcn M (j + k) = pcn M j
  | k => by rw [pcn_add, Nat.div_eq_of_lt h, pcn_z]; rfl
/-- the three rounds of bitCount over three bytes -/
theorem bc_rounds {a0 a1 a2 : Nat} (h0 : a0 < 256) (h1 : a1 < 256) (h2 : a2 < 256) :
    let x := a0 + 256 * (a1 + 256 * (a2 + 256 * 0))
    let y := x - (x / 2 &&& 1431655765)
    let z := (y &&& 858993459) + (y / 4 &&& 858993459)
    (x / 2 &&& 1431655765) ≤ x ∧ (z + z / 16) &&& 252645135 = pcn a0 8 + 256 * (pcn a1 8 + 256 * pcn a2 8) := by
  have mA : (1431655765 : Nat) = 85 + 256 * (85 + 256 * (85 + 256 * 85)) := rfl
  have mB : (858993459 : Nat) = 51 + 256 * (51 + 256 * (51 + 256 * 51)) := rfl
  have mC : (252645135 : Nat) = 15 + 256 * (15 + 256 * (15 + 256 * 15)) := rfl
  have b2 := byte_A (b := 0) (m := 85) h2 (by decide)
  have b1 := byte_A (b := a2 + 256 * 0) (m := 85 + 256 * 85) h1 b2.2
  have b0 := byte_A (b := a1 + 256 * (a2 + 256 * 0)) (m := 85 + 256 * (85 + 256 * 85)) h0 b1.2
  rw [b2.1] at b1
  rw [b1.1] at b0
  intro x y z
  refine ⟨by rw [mA]; exact b0.2, ?_⟩
  have ey : y = f1 a0 + 256 * (f1 a1 + 256 * (f1 a2 + 256 * (0 - (0 / 2 &&& 85)))) := by
    show x - (x / 2 &&& 1431655765) = _
    rw [mA]; exact b0.1
  have t0 := b_tab h0
  have t1 := b_tab h1
  have t2 := b_tab h2
  have ez : z = f2 (f1 a0) + 256 * (f2 (f1 a1) + 256 * (f2 (f1 a2) + 256 * 0)) := by
    show (y &&& 858993459) + (y / 4 &&& 858993459) = _
    rw [ey, mB, byte_B t0.2.1, byte_B t1.2.1, byte_B t2.2.1]
    rfl
  rw [ez, mC, byte_C t0.2.2.1 (by have := t1.2.2.2.1; omega), byte_C t1.2.2.1 (by have := t2.2.2.2.1; omega), byte_C t2.2.2.1 (by decide), t0.2.2.2.2.1, t1.2.2.2.2.1, t2.2.2.2.2.1]
  rfl
theorem pcn_20 {M : Nat} (hM : M < 2 ^ 20) : pcn M 20 = pcn (M % 256) 8 + (pcn (M / 256 % 256) 8 + pcn (M / 65536) 8) := by
  have e1 : pcn M 20 = pcn M 8 + (pcn (M / 2 ^ 8) 8 + pcn (M / 2 ^ 8 / 2 ^ 8) 4) := by
    rw [show (20 : Nat) = 8 + 12 from rfl, pcn_add, show (12 : Nat) = 8 + 4 from rfl, pcn_add]
  have e2 : pcn M 8 = pcn (M % 256) 8 := pcn_mod (b := M / 256) (by omega) 8 (Nat.le_refl 8)
  have e3 : pcn (M / 2 ^ 8) 8 = pcn (M / 256 % 256) 8 := pcn_mod (M := M / 2 ^ 8) (b := M / 65536) (by omega) 8 (Nat.le_refl 8)
  have e4 : M / 2 ^ 8 / 2 ^ 8 = M / 65536 := by omega
  have e5 : pcn (M / 65536) 4 = pcn (M / 65536) 8 := (pcn_hi (j := 4) (by omega) 4).symm
  rw [e1, e2, e3, e4, e5]
theorem sum63 {p q r : Nat} (h1 : p ≤ 8) (h2 : q ≤ 8) (h3 : r ≤ 8) : ((p + 256 * (q + 256 * r)) + (p + 256 * (q + 256 * r)) / 2 ^ 8 + ((p + 256 * (q + 256 * r)) + (p + 256 * (q + 256 * r)) / 2 ^ 8) / 2 ^ 16) % 2 ^ 6 = p + (q + r) := by
  have e1 : (p + 256 * (q + 256 * r)) / 2 ^ 8 = q + 256 * r := by omega
  rw [e1]
  have e2 : (p + 256 * (q + 256 * r) + (q + 256 * r)) / 2 ^ 16 = r := by omega
  rw [e2]
  omega
theorem kJ6_265 : Jvm.Cond.constant RJ6 265 1431655765 ∈ BW := BW_mem (by decide +kernel) rfl
theorem kJ6_266 : Jvm.Cond.constant RJ6 266 858993459 ∈ BW := BW_mem (by decide +kernel) rfl
theorem kJ6_267 : Jvm.Cond.constant RJ6 267 252645135 ∈ BW := BW_mem (by decide +kernel) rfl
section BC
variable {E : AEnv} {d : Nat} {h : List va_E} {b : Nat} {σ : Rows} {g s T sh : Nat}
theorem c_bitCount {M : Nat} (hM : M < 2 ^ 20) : Calls E mJ6_bitCount_0f7a4 d 0 0 [.int (nI M)] h (RX (nI (pcn M 20)) h) := by
  refine Calls.of (ls := [some (.int (nI M))]) (by decide +kernel) rfl (Nat.le_of_ble_eq_true rfl) (cat_ok rfl) ?_
  have hM32 : M < 2 ^ 32 := by omega
  have eM : M = M % 256 + 256 * (M / 256 % 256 + 256 * (M / 65536 + 256 * 0)) := by omega
  obtain ⟨hle, hr⟩ := bc_rounds (a0 := M % 256) (a1 := M / 256 % 256) (a2 := M / 65536) (by omega) (by omega) (by omega)
  have p0 := (b_tab (a := M % 256) (by omega)).2.2.2.2.2
  have p1 := (b_tab (a := M / 256 % 256) (by omega)).2.2.2.2.2
  have p2 := (b_tab (a := M / 65536) (by omega)).2.2.2.2.2
  rw [← eM] at hle
  rw [← eM] at hr
  have hy32 : M - (M / 2 &&& 1431655765) < 2 ^ 32 := by omega
  have hz32 : (M - (M / 2 &&& 1431655765) &&& 858993459) + ((M - (M / 2 &&& 1431655765)) / 4 &&& 858993459) < 2 ^ 32 := by
    have q1 : (M - (M / 2 &&& 1431655765) &&& 858993459) ≤ 858993459 := Nat.and_le_right
    have q2 : ((M - (M / 2 &&& 1431655765)) / 4 &&& 858993459) ≤ 858993459 := Nat.and_le_right
    omega
  refine go_iload_0 (DJ6_bitCount_0f7a4.at 0 rfl) ?_
  refine go_iload_0 (DJ6_bitCount_0f7a4.at 1 rfl) ?_
  refine go_iconst (v := nI 1) (DJ6_bitCount_0f7a4.at 2 rfl) (by decide) ?_
  refine go_iushr (DJ6_bitCount_0f7a4.at 3 rfl) ?_
  rw [nx_ush hM32 (by decide)]
  refine go_ldcw (DJ6_bitCount_0f7a4.at 4 rfl) kJ6_265 ?_
  refine go_iand (DJ6_bitCount_0f7a4.at 5 rfl) ?_
  rw [show (1431655765 : Int32) = nI 1431655765 from by decide, nx_and]
  refine go_isub (DJ6_bitCount_0f7a4.at 6 rfl) ?_
  rw [pk_sub hle]
  refine go_istore_0 (DJ6_bitCount_0f7a4.at 7 rfl) ?_
  refine go_iload_0 (DJ6_bitCount_0f7a4.at 8 rfl) ?_
  refine go_ldcw (DJ6_bitCount_0f7a4.at 9 rfl) kJ6_266 ?_
  refine go_iand (DJ6_bitCount_0f7a4.at 10 rfl) ?_
  rw [show (858993459 : Int32) = nI 858993459 from by decide, nx_and]
  refine go_iload_0 (DJ6_bitCount_0f7a4.at 11 rfl) ?_
  refine go_iconst (v := nI 2) (DJ6_bitCount_0f7a4.at 12 rfl) (by decide) ?_
  refine go_iushr (DJ6_bitCount_0f7a4.at 13 rfl) ?_
  rw [nx_ush hy32 (by decide)]
  refine go_ldcw (DJ6_bitCount_0f7a4.at 14 rfl) kJ6_266 ?_
  refine go_iand (DJ6_bitCount_0f7a4.at 15 rfl) ?_
  rw [show (858993459 : Int32) = nI 858993459 from by decide, nx_and]
  refine go_iadd (DJ6_bitCount_0f7a4.at 16 rfl) ?_
  rw [nI_add]
  refine go_istore_0 (DJ6_bitCount_0f7a4.at 17 rfl) ?_
  refine go_iload_0 (DJ6_bitCount_0f7a4.at 18 rfl) ?_
  refine go_iload_0 (DJ6_bitCount_0f7a4.at 19 rfl) ?_
  refine go_iconst (v := nI 4) (DJ6_bitCount_0f7a4.at 20 rfl) (by decide) ?_
  refine go_iushr (DJ6_bitCount_0f7a4.at 21 rfl) ?_
  rw [nx_ush hz32 (by decide)]
  refine go_iadd (DJ6_bitCount_0f7a4.at 22 rfl) ?_
  rw [nI_add]
  refine go_ldcw (DJ6_bitCount_0f7a4.at 23 rfl) kJ6_267 ?_
  refine go_iand (DJ6_bitCount_0f7a4.at 24 rfl) ?_
  rw [show (252645135 : Int32) = nI 252645135 from by decide, nx_and, hr]
  refine go_istore_0 (DJ6_bitCount_0f7a4.at 25 rfl) ?_
  refine go_iload_0 (DJ6_bitCount_0f7a4.at 26 rfl) ?_
  refine go_iload_0 (DJ6_bitCount_0f7a4.at 27 rfl) ?_
  refine go_bipush (v := nI 8) (DJ6_bitCount_0f7a4.at 28 rfl) (by decide) ?_
  refine go_iushr (DJ6_bitCount_0f7a4.at 29 rfl) ?_
  rw [nx_ush (by omega) (by decide)]
  refine go_iadd (DJ6_bitCount_0f7a4.at 30 rfl) ?_
  rw [nI_add]
  refine go_istore_0 (DJ6_bitCount_0f7a4.at 31 rfl) ?_
  refine go_iload_0 (DJ6_bitCount_0f7a4.at 32 rfl) ?_
  refine go_iload_0 (DJ6_bitCount_0f7a4.at 33 rfl) ?_
  refine go_bipush (v := nI 16) (DJ6_bitCount_0f7a4.at 34 rfl) (by decide) ?_
  refine go_iushr (DJ6_bitCount_0f7a4.at 35 rfl) ?_
  rw [nx_ush (by omega) (by decide)]
  refine go_iadd (DJ6_bitCount_0f7a4.at 36 rfl) ?_
  rw [nI_add]
  refine go_istore_0 (DJ6_bitCount_0f7a4.at 37 rfl) ?_
  refine go_iload_0 (DJ6_bitCount_0f7a4.at 38 rfl) ?_
  refine go_bipush (v := nI 63) (DJ6_bitCount_0f7a4.at 39 rfl) (by decide) ?_
  refine go_iand (DJ6_bitCount_0f7a4.at 40 rfl) ?_
  rw [nx_and]
  exact go_iret (DJ6_bitCount_0f7a4.at 41 rfl) rfl rfl (RX.mk (congrArg nI (by
      rw [show (63 : Nat) = 2 ^ 6 - 1 from rfl, Nat.and_two_pow_sub_one_eq_mod, pcn_20 hM]
      exact sum63 p0 p1 p2)) rfl)

theorem pcn_le (M : Nat) : ∀ j, pcn M j ≤ j
  | 0 => Nat.le_refl 0
  | j + 1 => by
    have := pcn_le M j
    have h2 : M / 2 ^ j % 2 < 2 := Nat.mod_lt _ (by decide)
    show pcn M j + M / 2 ^ j % 2 ≤ j + 1
    omega
theorem c_canMendAll {a M r0 : Nat} {src out : Int32} {cf0 lf0 : Nat → Int32} {C : Nat → Nat → Nat} (hp : h[b]? = some (.inr (2, [.ref (b + 1), .int src, .int out]))) (hB0 : BsAt h (b + 1) r0 cf0 lf0) (hS : StAt h a σ) (hL : LayX σ g s T sh) (hC : ColX σ (nc g s) C) (hM : M < 2 ^ nc g s) (hab : a + 6 ≤ b ∨ b + 4 ≤ a) (hd : 3 ≤ d) : Calls E mX2_canMendAll d 0 0 [.ref b, .ref a, .int (nI M)] h (RI (fun x h' => Only b (b + 4) h h' ∧ (∃ src out, PlIs h' b src out) ∧ x = bP (IndP C M (nc g s)))) := by
  refine Calls.of (ls := [some (.ref b), some (.ref a), some (.int (nI M))]) (by decide +kernel) rfl (Nat.le_of_ble_eq_true rfl) (cat_ok rfl) ?_
  have hM20 : M < 2 ^ 20 := Nat.lt_of_lt_of_le hM (Nat.pow_le_pow_right (by decide) hL.2.2.2.2.nc.2)
  refine go_aload_0 (DX2_canMendAll.at 0 rfl) ?_
  refine go_getfield (DX2_canMendAll.at 1 rfl) fX2_12 hp rfl ?_
  refine go_aload_1 (DX2_canMendAll.at 2 rfl) ?_
  refine go_iload_2 (DX2_canMendAll.at 3 rfl) ?_
  refine go_cVv2 (DX2_canMendAll.at 4 rfl) nX2_58 vX0_span (by omega) (c_span hB0 hS hL hC (by omega) (by omega) (by omega)) hB0.1 rfl (Nat.le_of_ble_eq_true rfl) (fun h6 q6 => ?_)
  obtain ⟨o6, r1, U, K, cf1, lf1, hB6, hrep, hI⟩ := q6
  have g6 := o6.at (i := b) (by omega) hp
  have hcnt := hI.2.2.2.2.2.2.2
  have h20 : pcn M 20 = pcn M (nc g s) := by
    have hn := hL.2.2.2.2.nc
    have := pcn_hi hM (20 - nc g s)
    rw [show nc g s + (20 - nc g s) = 20 by omega] at this
    exact this
  refine go_aload_0 (DX2_canMendAll.at 5 rfl) ?_
  refine go_getfield (DX2_canMendAll.at 6 rfl) fX2_12 g6 rfl ?_
  refine go_getfield (DX2_canMendAll.at 7 rfl) fX2_85 hB6.1 rfl ?_
  refine go_iload_2 (DX2_canMendAll.at 8 rfl) ?_
  refine go_cSx1 (DX2_canMendAll.at 9 rfl) nX2_88 vJ6_bitCount_0f7a4 (by omega) (c_bitCount (by omega)) (Nat.le_of_ble_eq_true rfl) ?_
  rw [h20]
  refine go_icmp_ne 27 (DX2_canMendAll.at 10 rfl) (by decide) (fun c20 => ?_) (fun c20 => ?_)
  · rw [nI_eq (by have := hI.1; omega) (by have := pcn_le M (nc g s); have := hL.2.2.2.2.nc; omega)] at c20
    have e0 : bP (IndP C M (nc g s)) = nI 0 := bP_f (fun q => c20 (hcnt.mpr q))
    refine go_iconst (v := nI 0) (DX2_canMendAll.at 13 rfl) (by decide) ?_
    exact go_iret (DX2_canMendAll.at 14 rfl) rfl rfl (RI.mk ⟨o6.mono (by omega) (by omega), ⟨_, _, g6, r1, cf1, lf1, hB6⟩, e0.symm⟩)
  · rw [nI_eq (by have := hI.1; omega) (by have := pcn_le M (nc g s); have := hL.2.2.2.2.nc; omega)] at c20
    have e0 : bP (IndP C M (nc g s)) = nI 1 := bP_t (hcnt.mp c20)
    refine go_iconst (v := nI 1) (DX2_canMendAll.at 11 rfl) (by decide) ?_
    refine go_goto 28 (DX2_canMendAll.at 12 rfl) (by decide) ?_
    exact go_iret (DX2_canMendAll.at 14 rfl) rfl rfl (RI.mk ⟨o6.mono (by omega) (by omega), ⟨_, _, g6, r1, cf1, lf1, hB6⟩, e0.symm⟩)

def ndv (g s sh t A : Nat) : Nat := ((A * 2 ^ (t * sh % nc g s)) ||| (A / 2 ^ (nc g s - t * sh % nc g s))) &&& (2 ^ nc g s - 1)
end BC
