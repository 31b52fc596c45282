/-! THE MODEL: sums and factors -/
def lsum (A : Ab) (t k : Nat) : Nat := aV A t (aG A * aS A + k) ^^^ xs (fun j => aV A t (k * aS A + j)) (aS A)
def wsum (A : Ab) (t e : Nat) : Nat := xs (fun c => gm (pw ((e + 1) * c)) (aV A t c)) (aG A * aS A)
/-- the functional with the local factors F and the global ones -/
def lfn (g : Nat) (F : Nat → Nat) (α β : Nat) : Nat → Nat := fun i => if i < g then F i else if i = g then α else if i = g + 1 then β else 0
theorem lfn_lt {g α β : Nat} {F : Nat → Nat} (hF : ∀ k, k < g → F k < 16) (ha : α < 16) (hb : β < 16) : B6 (lfn g F α β) := by
  intro i _
  unfold lfn
  split
  · exact hF _ (by assumption)
  · split
    · exact ha
    · split
      · exact hb
      · decide
def LfR (ρ : Nat → Nat → Int32) (g : Nat) (F : Nat → Nat) : Prop := ∀ k, k < g → F k < 16 ∧ ((ρ 10 k = -1 ∧ F k = 0) ∨ ρ 10 k = nI (F k))
theorem lsum_v {A : Ab} {t k M : Nat} (hA : AOK A) (hk : k < aG A) (hM : ∀ c, bit (gcv (aG A) (aS A) k) c → bit M c) : vsum (colv (aG A) (aS A)) (aV A t) M (nc (aG A) (aS A)) k = lsum A t k :=
  vsum_grp hA.1 hk (hA.2.2.1 t) (fun j hj => hM _ (gtb.mpr (Or.inl ⟨by omega, by omega⟩))) (hM _ (gtb.mpr (Or.inr rfl)))
theorem lsum_lt {A : Ab} {t k : Nat} (hA : AOK A) : lsum A t k < 16 := xor_lt (hA.2.2.1 _ _) (xs_lt _ (fun j _ => hA.2.2.1 _ _))
theorem wsum_lt {A : Ab} {t e : Nat} (hA : AOK A) : wsum A t e < 16 := xs_lt _ (fun j _ => gm_lt (pw_lt _) (hA.2.2.1 _ _))
theorem gcv_n {g s k x : Nat} (hk : k < g) (h : bit (gcv g s k) x) : x < nc g s := by
  have h2 := mul_le_grp (s := s) hk
  rw [gtb] at h
  unfold nc
  omega
theorem gcv_lt {g s k : Nat} (hk : k < g) : gcv g s k < 2 ^ nc g s := by
  refine Nat.lt_pow_two_of_testBit _ (fun x hx => ?_)
  cases e : (gcv g s k).testBit x with
  | false => rfl
  | true => exact absurd (gcv_n hk (bit_tb.mpr e)) (by omega)
theorem gc_step {a j p : Nat} : ((2 ^ j - 1) * 2 ^ a ||| p) ||| 1 * 2 ^ (a + j) = (2 ^ (j + 1) - 1) * 2 ^ a ||| p := by
  apply eq_bits
  intro x
  rw [bit_tb, bit_tb, Nat.one_mul, Nat.testBit_or, Nat.testBit_or, Nat.testBit_or, Nat.testBit_mul_two_pow, Nat.testBit_two_pow_sub_one, Nat.testBit_two_pow, Nat.testBit_mul_two_pow, Nat.testBit_two_pow_sub_one]
  simp
  by_cases h : p.testBit x = true
  · simp [h]
  · simp [h]
    omega
def ndS (nd : Nat → Nat) (M : Nat) : Nat → Nat
  | 0 => 0
  | j + 1 => if M / 2 ^ j % 2 = 1 then ndS nd M j ||| 1 * 2 ^ nd j else ndS nd M j ||| 0
section M6
variable {E : AEnv} {d : Nat} {h h' : List va_E} {b : Nat} {i : Nat → Int32} {ρ : Nat → Nat → Int32} {A : Ab} {G : Nat → Option va_E}
theorem m_localSum {t k : Nat} (ht : t < aT A) (hk : k < aG A) (h0 : ∀ c, bit (gcv (aG A) (aS A) k) c → ¬ bit (aM A t) c) (hX : MX G h b i ρ A) (hd : 1 ≤ d) : Calls E mX6_localSum d 0 0 [.ref b, .int (nI t), .int (nI k)] h (RX (nI (lsum A t k)) h) := by
  refine Calls.of (ls := [some (.ref b), some (.int (nI t)), some (.int (nI k)), none, none]) (by decide +kernel) rfl (Nat.le_of_ble_eq_true rfl) (cat_ok rfl) ?_
  have hM := hX.1
  have hTb := hX.2.1
  have hR := hX.2.2
  have hA := hR.1
  have hn := hA.1.nc
  have hT8 : aT A ≤ 8 := hA.1.2.2.2.2.2.2.1
  have hg4 : aG A ≤ 4 := hA.1.2.1
  have hs6 : aS A ≤ 6 := hA.1.2.2.2.1
  have hs2 : 2 ≤ aS A := hA.1.2.2.1
  have hg1 : 1 ≤ aG A := hA.1.1
  have hgs : aG A * aS A ≤ 15 := hA.1.2.2.2.2.1
  have hH5 : aH A ≤ 5 := hA.1.2.2.2.2.2.2.2
  have en : nc (aG A) (aS A) = aG A * aS A + aG A + 2 := rfl
  have hgk := mul_le_grp (s := aS A) hk
  have loop : ∀ (m j : Nat), j + m = aS A → Go E mX6_localSum d 0 0 15 [some (.ref b), some (.int (nI t)), some (.int (nI k)), some (.int (nI (aV A t (aG A * aS A + k) ^^^ xs (fun j => aV A t (k * aS A + j)) j))), some (.int (nI j))] [] h (RX (nI (lsum A t k)) h) := by
    intro m
    induction m with
    | zero =>
      intro j hj
      obtain rfl : j = aS A := by omega
      refine go_iload_4 (DX6_localSum.at 10 rfl) ?_
      refine go_aload_0 (DX6_localSum.at 11 rfl) ?_
      refine go_getfield (DX6_localSum.at 12 rfl) fX6_7 hM.1 rfl ?_
      refine go_iconst (v := nI 1) (DX6_localSum.at 13 rfl) (by decide) ?_
      refine go_ialdM (DX6_localSum.at 14 rfl) (hM.2.1 1 (by decide)) (show 1 < 349 by decide) (by decide) ?_
      rw [show ρ 1 1 = nI (aS A) from hR.2.1.2.1]
      refine go_icmp_ge 51 (DX6_localSum.at 15 rfl) (by decide) (fun c23 => ?_) (fun c23 => absurd (Int32.le_refl _) c23)
      refine go_iload_3 (DX6_localSum.at 32 rfl) ?_
      exact go_iret (DX6_localSum.at 33 rfl) rfl rfl (RX.mk rfl rfl)
    | succ m ih =>
      intro j hj
      refine go_iload_4 (DX6_localSum.at 10 rfl) ?_
      refine go_aload_0 (DX6_localSum.at 11 rfl) ?_
      refine go_getfield (DX6_localSum.at 12 rfl) fX6_7 hM.1 rfl ?_
      refine go_iconst (v := nI 1) (DX6_localSum.at 13 rfl) (by decide) ?_
      refine go_ialdM (DX6_localSum.at 14 rfl) (hM.2.1 1 (by decide)) (show 1 < 349 by decide) (by decide) ?_
      rw [show ρ 1 1 = nI (aS A) from hR.2.1.2.1]
      refine go_icmp_ge 51 (DX6_localSum.at 15 rfl) (by decide) (fun c23 => absurd c23 (nI_ge (by omega) (by omega))) (fun c23 => ?_)
      refine go_iload_3 (DX6_localSum.at 16 rfl) ?_
      refine go_aload_0 (DX6_localSum.at 17 rfl) ?_
      refine go_iload_1 (DX6_localSum.at 18 rfl) ?_
      refine go_iload_2 (DX6_localSum.at 19 rfl) ?_
      refine go_aload_0 (DX6_localSum.at 20 rfl) ?_
      refine go_getfield (DX6_localSum.at 21 rfl) fX6_7 hM.1 rfl ?_
      refine go_iconst (v := nI 1) (DX6_localSum.at 22 rfl) (by decide) ?_
      refine go_ialdM (DX6_localSum.at 23 rfl) (hM.2.1 1 (by decide)) (show 1 < 349 by decide) (by decide) ?_
      rw [show ρ 1 1 = nI (aS A) from hR.2.1.2.1]
      refine go_imul (DX6_localSum.at 24 rfl) ?_
      rw [pk_mul]
      refine go_iload_4 (DX6_localSum.at 25 rfl) ?_
      refine go_iadd (DX6_localSum.at 26 rfl) ?_
      rw [nI_add]
      refine go_cVx2 (DX6_localSum.at 27 rfl) nX6_62 vX6_cellValue (by omega) (m_cellValue hM (show t < 8 by omega) (show k * aS A + j < 20 by omega)) hM.1 rfl (Nat.le_of_ble_eq_true rfl) ?_
      rw [hR.2.2.2.2.2.2.1 t ht _ (show k * aS A + j < nc (aG A) (aS A) by omega) (h0 _ (gtb.mpr (Or.inl ⟨by omega, by omega⟩)))]
      refine go_ixor (DX6_localSum.at 28 rfl) ?_
      rw [nx_xor, Nat.xor_assoc]
      refine go_istore_3 (DX6_localSum.at 29 rfl) ?_
      refine go_iincN_4 (DX6_localSum.at 30 rfl) ?_
      refine go_goto 15 (DX6_localSum.at 31 rfl) (by decide) ?_
      exact ih (j + 1) (by omega)
  refine go_aload_0 (DX6_localSum.at 0 rfl) ?_
  refine go_iload_1 (DX6_localSum.at 1 rfl) ?_
  refine go_aload_0 (DX6_localSum.at 2 rfl) ?_
  refine go_cVx0 (DX6_localSum.at 3 rfl) nX6_47 vX6_dataCells (by omega) (m_dataCells hX) hM.1 rfl (Nat.le_of_ble_eq_true rfl) ?_
  refine go_iload_2 (DX6_localSum.at 4 rfl) ?_
  refine go_iadd (DX6_localSum.at 5 rfl) ?_
  rw [nI_add]
  refine go_cVx2 (DX6_localSum.at 6 rfl) nX6_62 vX6_cellValue (by omega) (m_cellValue hM (show t < 8 by omega) (show aG A * aS A + k < 20 by omega)) hM.1 rfl (Nat.le_of_ble_eq_true rfl) ?_
  rw [hR.2.2.2.2.2.2.1 t ht _ (show aG A * aS A + k < nc (aG A) (aS A) by omega) (h0 _ (gtb.mpr (Or.inr rfl)))]
  refine go_istore_3 (DX6_localSum.at 7 rfl) ?_
  refine go_iconst (v := nI 0) (DX6_localSum.at 8 rfl) (by decide) ?_
  refine go_istore_4 (DX6_localSum.at 9 rfl) ?_
  rw [show aV A t (aG A * aS A + k) = aV A t (aG A * aS A + k) ^^^ xs (fun j => aV A t (k * aS A + j)) 0 from (Nat.xor_zero _).symm]
  exact loop (aS A) 0 (Nat.zero_add _)

theorem m_weighed0 {t : Nat} (ht : t < aT A) (h0 : ∀ c, c < aG A * aS A → ¬ bit (aM A t) c) (hX : MX G h b i ρ A) (hd : 1 ≤ d) : Calls E mX6_weighed d 0 0 [.ref b, .int (nI t), .int (nI 1)] h (RX (nI (wsum A t 0)) h) := by
  refine Calls.of (ls := [some (.ref b), some (.int (nI t)), some (.int (nI 1)), none, none]) (by decide +kernel) rfl (Nat.le_of_ble_eq_true rfl) (cat_ok rfl) ?_
  have hM := hX.1
  have hTb := hX.2.1
  have hR := hX.2.2
  have hA := hR.1
  have hn := hA.1.nc
  have hT8 : aT A ≤ 8 := hA.1.2.2.2.2.2.2.1
  have hg4 : aG A ≤ 4 := hA.1.2.1
  have hs6 : aS A ≤ 6 := hA.1.2.2.2.1
  have hs2 : 2 ≤ aS A := hA.1.2.2.1
  have hg1 : 1 ≤ aG A := hA.1.1
  have hgs : aG A * aS A ≤ 15 := hA.1.2.2.2.2.1
  have hH5 : aH A ≤ 5 := hA.1.2.2.2.2.2.2.2
  have en : nc (aG A) (aS A) = aG A * aS A + aG A + 2 := rfl
  have loop : ∀ (m j : Nat), j + m = aG A * aS A → Go E mX6_weighed d 0 0 5 [some (.ref b), some (.int (nI t)), some (.int (nI 1)), some (.int (nI (xs (fun c => gm (pw ((0 + 1) * c)) (aV A t c)) j))), some (.int (nI j))] [] h (RX (nI (wsum A t 0)) h) := by
    intro m
    induction m with
    | zero =>
      intro j hj
      obtain rfl : j = aG A * aS A := by omega
      refine go_iload_4 (DX6_weighed.at 4 rfl) ?_
      refine go_aload_0 (DX6_weighed.at 5 rfl) ?_
      refine go_cVx0 (DX6_weighed.at 6 rfl) nX6_47 vX6_dataCells (by omega) (m_dataCells hX) hM.1 rfl (Nat.le_of_ble_eq_true rfl) ?_
      refine go_icmp_ge 55 (DX6_weighed.at 7 rfl) (by decide) (fun c11 => ?_) (fun c11 => absurd (Int32.le_refl _) c11)
      refine go_iload_3 (DX6_weighed.at 30 rfl) ?_
      exact go_iret (DX6_weighed.at 31 rfl) rfl rfl (RX.mk rfl rfl)
    | succ m ih =>
      intro j hj
      refine go_iload_4 (DX6_weighed.at 4 rfl) ?_
      refine go_aload_0 (DX6_weighed.at 5 rfl) ?_
      refine go_cVx0 (DX6_weighed.at 6 rfl) nX6_47 vX6_dataCells (by omega) (m_dataCells hX) hM.1 rfl (Nat.le_of_ble_eq_true rfl) ?_
      refine go_icmp_ge 55 (DX6_weighed.at 7 rfl) (by decide) (fun c11 => absurd c11 (nI_ge (by omega) (by omega))) (fun c11 => ?_)
      refine go_iload_3 (DX6_weighed.at 8 rfl) ?_
      refine go_aload_0 (DX6_weighed.at 9 rfl) ?_
      refine go_iload_2 (DX6_weighed.at 10 rfl) ?_
      refine go_if_eq 30 (DX6_weighed.at 11 rfl) (by decide) (fun c17 => absurd c17 (by decide)) (fun c17 => ?_)
      refine go_aload_0 (DX6_weighed.at 12 rfl) ?_
      refine go_getfield (DX6_weighed.at 13 rfl) fX6_31 hM.1 rfl ?_
      refine go_iload_4 (DX6_weighed.at 14 rfl) ?_
      refine go_ialdM (DX6_weighed.at 15 rfl) (hM.2.1 8 (by decide)) (show j < 15 by omega) (by decide) ?_
      rw [hTb.2.1 j (by omega), show pw j = pw ((0 + 1) * j) by rw [Nat.zero_add, Nat.one_mul]]
      refine go_goto 37 (DX6_weighed.at 16 rfl) (by decide) ?_
      refine go_aload_0 (DX6_weighed.at 21 rfl) ?_
      refine go_iload_1 (DX6_weighed.at 22 rfl) ?_
      refine go_iload_4 (DX6_weighed.at 23 rfl) ?_
      refine go_cVx2 (DX6_weighed.at 24 rfl) nX6_62 vX6_cellValue (by omega) (m_cellValue hM (show t < 8 by omega) (show j < 20 by omega)) hM.1 rfl (Nat.le_of_ble_eq_true rfl) ?_
      rw [hR.2.2.2.2.2.2.1 t ht j (by omega) (h0 j (by omega))]
      refine go_cVx2 (DX6_weighed.at 25 rfl) nX6_44 vX6_product (by omega) (m_product (pw_lt _) (hA.2.2.1 _ _) hX) hM.1 rfl (Nat.le_of_ble_eq_true rfl) ?_
      refine go_ixor (DX6_weighed.at 26 rfl) ?_
      rw [nx_xor]
      refine go_istore_3 (DX6_weighed.at 27 rfl) ?_
      refine go_iincN_4 (DX6_weighed.at 28 rfl) ?_
      refine go_goto 5 (DX6_weighed.at 29 rfl) (by decide) ?_
      exact ih (j + 1) (by omega)
  refine go_iconst (v := nI 0) (DX6_weighed.at 0 rfl) (by decide) ?_
  rw [show nI 0 = nI (xs (fun c => gm (pw ((0 + 1) * c)) (aV A t c)) 0) from rfl]
  refine go_istore_3 (DX6_weighed.at 1 rfl) ?_
  refine go_iconst (v := nI 0) (DX6_weighed.at 2 rfl) (by decide) ?_
  refine go_istore_4 (DX6_weighed.at 3 rfl) ?_
  exact loop (aG A * aS A) 0 (Nat.zero_add _)

theorem m_weighed1 {t : Nat} (ht : t < aT A) (h0 : ∀ c, c < aG A * aS A → ¬ bit (aM A t) c) (hX : MX G h b i ρ A) (hd : 1 ≤ d) : Calls E mX6_weighed d 0 0 [.ref b, .int (nI t), .int (nI 0)] h (RX (nI (wsum A t 1)) h) := by
  refine Calls.of (ls := [some (.ref b), some (.int (nI t)), some (.int (nI 0)), none, none]) (by decide +kernel) rfl (Nat.le_of_ble_eq_true rfl) (cat_ok rfl) ?_
  have hM := hX.1
  have hTb := hX.2.1
  have hR := hX.2.2
  have hA := hR.1
  have hn := hA.1.nc
  have hT8 : aT A ≤ 8 := hA.1.2.2.2.2.2.2.1
  have hg4 : aG A ≤ 4 := hA.1.2.1
  have hs6 : aS A ≤ 6 := hA.1.2.2.2.1
  have hs2 : 2 ≤ aS A := hA.1.2.2.1
  have hg1 : 1 ≤ aG A := hA.1.1
  have hgs : aG A * aS A ≤ 15 := hA.1.2.2.2.2.1
  have hH5 : aH A ≤ 5 := hA.1.2.2.2.2.2.2.2
  have en : nc (aG A) (aS A) = aG A * aS A + aG A + 2 := rfl
  have loop : ∀ (m j : Nat), j + m = aG A * aS A → Go E mX6_weighed d 0 0 5 [some (.ref b), some (.int (nI t)), some (.int (nI 0)), some (.int (nI (xs (fun c => gm (pw ((1 + 1) * c)) (aV A t c)) j))), some (.int (nI j))] [] h (RX (nI (wsum A t 1)) h) := by
    intro m
    induction m with
    | zero =>
      intro j hj
      obtain rfl : j = aG A * aS A := by omega
      refine go_iload_4 (DX6_weighed.at 4 rfl) ?_
      refine go_aload_0 (DX6_weighed.at 5 rfl) ?_
      refine go_cVx0 (DX6_weighed.at 6 rfl) nX6_47 vX6_dataCells (by omega) (m_dataCells hX) hM.1 rfl (Nat.le_of_ble_eq_true rfl) ?_
      refine go_icmp_ge 55 (DX6_weighed.at 7 rfl) (by decide) (fun c11 => ?_) (fun c11 => absurd (Int32.le_refl _) c11)
      refine go_iload_3 (DX6_weighed.at 30 rfl) ?_
      exact go_iret (DX6_weighed.at 31 rfl) rfl rfl (RX.mk rfl rfl)
    | succ m ih =>
      intro j hj
      refine go_iload_4 (DX6_weighed.at 4 rfl) ?_
      refine go_aload_0 (DX6_weighed.at 5 rfl) ?_
      refine go_cVx0 (DX6_weighed.at 6 rfl) nX6_47 vX6_dataCells (by omega) (m_dataCells hX) hM.1 rfl (Nat.le_of_ble_eq_true rfl) ?_
      refine go_icmp_ge 55 (DX6_weighed.at 7 rfl) (by decide) (fun c11 => absurd c11 (nI_ge (by omega) (by omega))) (fun c11 => ?_)
      refine go_iload_3 (DX6_weighed.at 8 rfl) ?_
      refine go_aload_0 (DX6_weighed.at 9 rfl) ?_
      refine go_iload_2 (DX6_weighed.at 10 rfl) ?_
      refine go_if_eq 30 (DX6_weighed.at 11 rfl) (by decide) (fun c17 => ?_) (fun c17 => absurd rfl c17)
      refine go_aload_0 (DX6_weighed.at 17 rfl) ?_
      refine go_getfield (DX6_weighed.at 18 rfl) fX6_34 hM.1 rfl ?_
      refine go_iload_4 (DX6_weighed.at 19 rfl) ?_
      refine go_ialdM (DX6_weighed.at 20 rfl) (hM.2.1 9 (by decide)) (show j < 15 by omega) (by decide) ?_
      rw [hTb.2.2 j (by omega), show pw (2 * j) = pw ((1 + 1) * j) from rfl]
      refine go_aload_0 (DX6_weighed.at 21 rfl) ?_
      refine go_iload_1 (DX6_weighed.at 22 rfl) ?_
      refine go_iload_4 (DX6_weighed.at 23 rfl) ?_
      refine go_cVx2 (DX6_weighed.at 24 rfl) nX6_62 vX6_cellValue (by omega) (m_cellValue hM (show t < 8 by omega) (show j < 20 by omega)) hM.1 rfl (Nat.le_of_ble_eq_true rfl) ?_
      rw [hR.2.2.2.2.2.2.1 t ht j (by omega) (h0 j (by omega))]
      refine go_cVx2 (DX6_weighed.at 25 rfl) nX6_44 vX6_product (by omega) (m_product (pw_lt _) (hA.2.2.1 _ _) hX) hM.1 rfl (Nat.le_of_ble_eq_true rfl) ?_
      refine go_ixor (DX6_weighed.at 26 rfl) ?_
      rw [nx_xor]
      refine go_istore_3 (DX6_weighed.at 27 rfl) ?_
      refine go_iincN_4 (DX6_weighed.at 28 rfl) ?_
      refine go_goto 5 (DX6_weighed.at 29 rfl) (by decide) ?_
      exact ih (j + 1) (by omega)
  refine go_iconst (v := nI 0) (DX6_weighed.at 0 rfl) (by decide) ?_
  rw [show nI 0 = nI (xs (fun c => gm (pw ((1 + 1) * c)) (aV A t c)) 0) from rfl]
  refine go_istore_3 (DX6_weighed.at 1 rfl) ?_
  refine go_iconst (v := nI 0) (DX6_weighed.at 2 rfl) (by decide) ?_
  refine go_istore_4 (DX6_weighed.at 3 rfl) ?_
  exact loop (aG A * aS A) 0 (Nat.zero_add _)

theorem m_failingChecks {t : Nat} (ht : t < aT A) (h0 : aM A t = 0) (hX : MX G h b i ρ A) (hd : 2 ≤ d) : Calls E mX6_failingChecks d 0 0 [.ref b, .int (nI t)] h (RX (nI (flg (aSum A t) 6)) h) := by
  refine Calls.of (ls := [some (.ref b), some (.int (nI t)), none, none, none, none]) (by decide +kernel) rfl (Nat.le_of_ble_eq_true rfl) (cat_ok rfl) ?_
  have hM := hX.1
  have hTb := hX.2.1
  have hR := hX.2.2
  have hA := hR.1
  have hn := hA.1.nc
  have hT8 : aT A ≤ 8 := hA.1.2.2.2.2.2.2.1
  have hg4 : aG A ≤ 4 := hA.1.2.1
  have hs6 : aS A ≤ 6 := hA.1.2.2.2.1
  have hs2 : 2 ≤ aS A := hA.1.2.2.1
  have hg1 : 1 ≤ aG A := hA.1.1
  have hgs : aG A * aS A ≤ 15 := hA.1.2.2.2.2.1
  have hH5 : aH A ≤ 5 := hA.1.2.2.2.2.2.2.2
  have en : nc (aG A) (aS A) = aG A * aS A + aG A + 2 := rfl
  have hall : ∀ c, c < nc (aG A) (aS A) → bit (2 ^ (nc (aG A) (aS A)) - 1) c := fun c hc => bit_m1.mpr hc
  have hS : ∀ k, k < aG A → aSum A t k = lsum A t k := fun k hk => lsum_v hA hk (fun c hc => hall c (gcv_n hk hc))
  have hS0 : aSum A t (aG A) = wsum A t 0 ^^^ aV A t (aG A * aS A + aG A) := by
    have q := vsum_glo (e := 0) (M := 2 ^ (nc (aG A) (aS A)) - 1) hA.1 (by decide) (hA.2.2.1 t) (fun c hc => hall c (by omega))
    rw [Nat.add_zero, if_pos (hall _ (by omega))] at q
    exact q
  have hS1 : aSum A t (aG A + 1) = wsum A t 1 ^^^ aV A t (aG A * aS A + (aG A + 1)) := by
    have q := vsum_glo (e := 1) (M := 2 ^ (nc (aG A) (aS A)) - 1) hA.1 (by decide) (hA.2.2.1 t) (fun c hc => hall c (by omega))
    rw [if_pos (hall _ (by omega))] at q
    exact q
  have hnb : ∀ c, ¬ bit (aM A t) c := fun c => by rw [h0]; exact nbit0 c
  have hv := hA.2.2.1 t
  have loop : ∀ (m j : Nat), j + m = aG A → Go E mX6_failingChecks d 0 0 20 [some (.ref b), some (.int (nI t)), some (.int (nI (aG A))), some (.int (nI (aG A * aS A + aG A))), some (.int (nI (flg (aSum A t) j))), some (.int (nI j))] [] h (RX (nI (flg (aSum A t) 6)) h) := by
    intro m
    induction m with
    | zero =>
      intro j hj
      obtain rfl : j = aG A := by omega
      refine go_iload_5 (DX6_failingChecks.at 14 rfl) ?_
      refine go_iload_2 (DX6_failingChecks.at 15 rfl) ?_
      refine go_icmp_ge 55 (DX6_failingChecks.at 16 rfl) (by decide) (fun c23 => ?_) (fun c23 => absurd (Int32.le_refl _) c23)
      refine go_iload_4 (DX6_failingChecks.at 32 rfl) ?_
      refine go_aload_0 (DX6_failingChecks.at 33 rfl) ?_
      refine go_iload_1 (DX6_failingChecks.at 34 rfl) ?_
      refine go_iconst (v := nI 1) (DX6_failingChecks.at 35 rfl) (by decide) ?_
      refine go_cVx2 (DX6_failingChecks.at 36 rfl) nX6_87 vX6_weighed (by omega) (m_weighed0 ht (fun c _ => hnb c) hX (by omega)) hM.1 rfl (Nat.le_of_ble_eq_true rfl) ?_
      refine go_aload_0 (DX6_failingChecks.at 37 rfl) ?_
      refine go_iload_1 (DX6_failingChecks.at 38 rfl) ?_
      refine go_iload_3 (DX6_failingChecks.at 39 rfl) ?_
      refine go_cVx2 (DX6_failingChecks.at 40 rfl) nX6_62 vX6_cellValue (by omega) (m_cellValue hM (show t < 8 by omega) (show aG A * aS A + aG A < 20 by omega)) hM.1 rfl (Nat.le_of_ble_eq_true rfl) ?_
      rw [hR.2.2.2.2.2.2.1 t ht _ (show aG A * aS A + aG A < nc (aG A) (aS A) by omega) (hnb _)]
      refine go_icmp_ne 76 (DX6_failingChecks.at 41 rfl) (by decide) (fun c69 => ?_) (fun c69 => ?_)
      · rw [nI_eq (by have := wsum_lt (t := t) (e := 0) hA; omega) (by have := hv (aG A * aS A + aG A); omega)] at c69
        have e0 : flg (aSum A t) (aG A + 1) = flg (aSum A t) (aG A) ||| 1 * 2 ^ aG A := if_neg (by rw [hS0]; exact fun e => c69 (xor_eq0 e))
        refine go_iconst (v := nI 1) (DX6_failingChecks.at 44 rfl) (by decide) ?_
        refine go_iload_2 (DX6_failingChecks.at 45 rfl) ?_
        refine go_ishl (DX6_failingChecks.at 46 rfl) ?_
        rw [nx_shlW 1 (by omega)]
        refine go_ior (DX6_failingChecks.at 47 rfl) ?_
        rw [nx_or, ← e0]
        refine go_istore_4 (DX6_failingChecks.at 48 rfl) ?_
        refine go_iload_4 (DX6_failingChecks.at 49 rfl) ?_
        refine go_aload_0 (DX6_failingChecks.at 50 rfl) ?_
        refine go_iload_1 (DX6_failingChecks.at 51 rfl) ?_
        refine go_iconst (v := nI 0) (DX6_failingChecks.at 52 rfl) (by decide) ?_
        refine go_cVx2 (DX6_failingChecks.at 53 rfl) nX6_87 vX6_weighed (by omega) (m_weighed1 ht (fun c _ => hnb c) hX (by omega)) hM.1 rfl (Nat.le_of_ble_eq_true rfl) ?_
        refine go_aload_0 (DX6_failingChecks.at 54 rfl) ?_
        refine go_iload_1 (DX6_failingChecks.at 55 rfl) ?_
        refine go_iload_3 (DX6_failingChecks.at 56 rfl) ?_
        refine go_iconst (v := nI 1) (DX6_failingChecks.at 57 rfl) (by decide) ?_
        refine go_iadd (DX6_failingChecks.at 58 rfl) ?_
        rw [nI_add, Nat.add_assoc]
        refine go_cVx2 (DX6_failingChecks.at 59 rfl) nX6_62 vX6_cellValue (by omega) (m_cellValue hM (show t < 8 by omega) (show aG A * aS A + (aG A + 1) < 20 by omega)) hM.1 rfl (Nat.le_of_ble_eq_true rfl) ?_
        rw [hR.2.2.2.2.2.2.1 t ht _ (show aG A * aS A + (aG A + 1) < nc (aG A) (aS A) by omega) (hnb _)]
        refine go_icmp_ne 105 (DX6_failingChecks.at 60 rfl) (by decide) (fun c98 => ?_) (fun c98 => ?_)
        · rw [nI_eq (by have := wsum_lt (t := t) (e := 1) hA; omega) (by have := hv (aG A * aS A + (aG A + 1)); omega)] at c98
          have e1 : flg (aSum A t) (aG A + 1 + 1) = flg (aSum A t) (aG A + 1) ||| 1 * 2 ^ (aG A + 1) := if_neg (by rw [hS1]; exact fun e => c98 (xor_eq0 e))
          refine go_iconst (v := nI 2) (DX6_failingChecks.at 63 rfl) (by decide) ?_
          refine go_iload_2 (DX6_failingChecks.at 64 rfl) ?_
          refine go_ishl (DX6_failingChecks.at 65 rfl) ?_
          rw [nx_shlW 2 (by omega), show 2 * 2 ^ aG A = 1 * 2 ^ (aG A + 1) by rw [Nat.pow_succ, Nat.one_mul, Nat.mul_comm]]
          refine go_ior (DX6_failingChecks.at 66 rfl) ?_
          rw [nx_or, ← e1]
          refine go_istore_4 (DX6_failingChecks.at 67 rfl) ?_
          refine go_iload_4 (DX6_failingChecks.at 68 rfl) ?_
          exact go_iret (DX6_failingChecks.at 69 rfl) rfl rfl (RX.mk (congrArg nI (flg_top hg4 (fun k hk => vsum_hi (hA.2.2.1 t) hk)).symm) rfl)
        · rw [nI_eq (by have := wsum_lt (t := t) (e := 1) hA; omega) (by have := hv (aG A * aS A + (aG A + 1)); omega)] at c98
          have e1 : flg (aSum A t) (aG A + 1 + 1) = flg (aSum A t) (aG A + 1) ||| 0 := (if_pos (by rw [hS1, c98, Nat.xor_self])).trans (Nat.or_zero _).symm
          refine go_iconst (v := nI 0) (DX6_failingChecks.at 61 rfl) (by decide) ?_
          refine go_goto 108 (DX6_failingChecks.at 62 rfl) (by decide) ?_
          refine go_ior (DX6_failingChecks.at 66 rfl) ?_
          rw [nx_or, ← e1]
          refine go_istore_4 (DX6_failingChecks.at 67 rfl) ?_
          refine go_iload_4 (DX6_failingChecks.at 68 rfl) ?_
          exact go_iret (DX6_failingChecks.at 69 rfl) rfl rfl (RX.mk (congrArg nI (flg_top hg4 (fun k hk => vsum_hi (hA.2.2.1 t) hk)).symm) rfl)
      · rw [nI_eq (by have := wsum_lt (t := t) (e := 0) hA; omega) (by have := hv (aG A * aS A + aG A); omega)] at c69
        have e0 : flg (aSum A t) (aG A + 1) = flg (aSum A t) (aG A) ||| 0 := (if_pos (by rw [hS0, c69, Nat.xor_self])).trans (Nat.or_zero _).symm
        refine go_iconst (v := nI 0) (DX6_failingChecks.at 42 rfl) (by decide) ?_
        refine go_goto 79 (DX6_failingChecks.at 43 rfl) (by decide) ?_
        refine go_ior (DX6_failingChecks.at 47 rfl) ?_
        rw [nx_or, ← e0]
        refine go_istore_4 (DX6_failingChecks.at 48 rfl) ?_
        refine go_iload_4 (DX6_failingChecks.at 49 rfl) ?_
        refine go_aload_0 (DX6_failingChecks.at 50 rfl) ?_
        refine go_iload_1 (DX6_failingChecks.at 51 rfl) ?_
        refine go_iconst (v := nI 0) (DX6_failingChecks.at 52 rfl) (by decide) ?_
        refine go_cVx2 (DX6_failingChecks.at 53 rfl) nX6_87 vX6_weighed (by omega) (m_weighed1 ht (fun c _ => hnb c) hX (by omega)) hM.1 rfl (Nat.le_of_ble_eq_true rfl) ?_
        refine go_aload_0 (DX6_failingChecks.at 54 rfl) ?_
        refine go_iload_1 (DX6_failingChecks.at 55 rfl) ?_
        refine go_iload_3 (DX6_failingChecks.at 56 rfl) ?_
        refine go_iconst (v := nI 1) (DX6_failingChecks.at 57 rfl) (by decide) ?_
        refine go_iadd (DX6_failingChecks.at 58 rfl) ?_
        rw [nI_add, Nat.add_assoc]
        refine go_cVx2 (DX6_failingChecks.at 59 rfl) nX6_62 vX6_cellValue (by omega) (m_cellValue hM (show t < 8 by omega) (show aG A * aS A + (aG A + 1) < 20 by omega)) hM.1 rfl (Nat.le_of_ble_eq_true rfl) ?_
        rw [hR.2.2.2.2.2.2.1 t ht _ (show aG A * aS A + (aG A + 1) < nc (aG A) (aS A) by omega) (hnb _)]
        refine go_icmp_ne 105 (DX6_failingChecks.at 60 rfl) (by decide) (fun c98 => ?_) (fun c98 => ?_)
        · rw [nI_eq (by have := wsum_lt (t := t) (e := 1) hA; omega) (by have := hv (aG A * aS A + (aG A + 1)); omega)] at c98
          have e1 : flg (aSum A t) (aG A + 1 + 1) = flg (aSum A t) (aG A + 1) ||| 1 * 2 ^ (aG A + 1) := if_neg (by rw [hS1]; exact fun e => c98 (xor_eq0 e))
          refine go_iconst (v := nI 2) (DX6_failingChecks.at 63 rfl) (by decide) ?_
          refine go_iload_2 (DX6_failingChecks.at 64 rfl) ?_
          refine go_ishl (DX6_failingChecks.at 65 rfl) ?_
          rw [nx_shlW 2 (by omega), show 2 * 2 ^ aG A = 1 * 2 ^ (aG A + 1) by rw [Nat.pow_succ, Nat.one_mul, Nat.mul_comm]]
          refine go_ior (DX6_failingChecks.at 66 rfl) ?_
          rw [nx_or, ← e1]
          refine go_istore_4 (DX6_failingChecks.at 67 rfl) ?_
          refine go_iload_4 (DX6_failingChecks.at 68 rfl) ?_
          exact go_iret (DX6_failingChecks.at 69 rfl) rfl rfl (RX.mk (congrArg nI (flg_top hg4 (fun k hk => vsum_hi (hA.2.2.1 t) hk)).symm) rfl)
        · rw [nI_eq (by have := wsum_lt (t := t) (e := 1) hA; omega) (by have := hv (aG A * aS A + (aG A + 1)); omega)] at c98
          have e1 : flg (aSum A t) (aG A + 1 + 1) = flg (aSum A t) (aG A + 1) ||| 0 := (if_pos (by rw [hS1, c98, Nat.xor_self])).trans (Nat.or_zero _).symm
          refine go_iconst (v := nI 0) (DX6_failingChecks.at 61 rfl) (by decide) ?_
          refine go_goto 108 (DX6_failingChecks.at 62 rfl) (by decide) ?_
          refine go_ior (DX6_failingChecks.at 66 rfl) ?_
          rw [nx_or, ← e1]
          refine go_istore_4 (DX6_failingChecks.at 67 rfl) ?_
          refine go_iload_4 (DX6_failingChecks.at 68 rfl) ?_
          exact go_iret (DX6_failingChecks.at 69 rfl) rfl rfl (RX.mk (congrArg nI (flg_top hg4 (fun k hk => vsum_hi (hA.2.2.1 t) hk)).symm) rfl)
    | succ m ih =>
      intro j hj
      refine go_iload_5 (DX6_failingChecks.at 14 rfl) ?_
      refine go_iload_2 (DX6_failingChecks.at 15 rfl) ?_
      refine go_icmp_ge 55 (DX6_failingChecks.at 16 rfl) (by decide) (fun c23 => absurd c23 (nI_ge (by omega) (by omega))) (fun c23 => ?_)
      refine go_iload_4 (DX6_failingChecks.at 17 rfl) ?_
      refine go_aload_0 (DX6_failingChecks.at 18 rfl) ?_
      refine go_iload_1 (DX6_failingChecks.at 19 rfl) ?_
      refine go_iload_5 (DX6_failingChecks.at 20 rfl) ?_
      refine go_cVx2 (DX6_failingChecks.at 21 rfl) nX6_84 vX6_localSum (by omega) (m_localSum ht (show j < aG A by omega) (fun c _ => hnb c) hX (by omega)) hM.1 rfl (Nat.le_of_ble_eq_true rfl) ?_
      refine go_if_ne 42 (DX6_failingChecks.at 22 rfl) (by decide) (fun c35 => ?_) (fun c35 => ?_)
      · rw [nI_eq0 (by have := lsum_lt (t := t) (k := j) hA; omega), ← hS j (by omega)] at c35
        have e0 : flg (aSum A t) (j + 1) = flg (aSum A t) j ||| 1 * 2 ^ j := if_neg c35
        refine go_iconst (v := nI 1) (DX6_failingChecks.at 25 rfl) (by decide) ?_
        refine go_iload_5 (DX6_failingChecks.at 26 rfl) ?_
        refine go_ishl (DX6_failingChecks.at 27 rfl) ?_
        rw [nx_shlW 1 (by omega)]
        refine go_ior (DX6_failingChecks.at 28 rfl) ?_
        rw [nx_or, ← e0]
        refine go_istore_4 (DX6_failingChecks.at 29 rfl) ?_
        refine go_iincN_5 (DX6_failingChecks.at 30 rfl) ?_
        refine go_goto 20 (DX6_failingChecks.at 31 rfl) (by decide) ?_
        exact ih (j + 1) (by omega)
      · rw [nI_eq0 (by have := lsum_lt (t := t) (k := j) hA; omega), ← hS j (by omega)] at c35
        have e0 : flg (aSum A t) (j + 1) = flg (aSum A t) j ||| 0 := (if_pos c35).trans (Nat.or_zero _).symm
        refine go_iconst (v := nI 0) (DX6_failingChecks.at 23 rfl) (by decide) ?_
        refine go_goto 46 (DX6_failingChecks.at 24 rfl) (by decide) ?_
        refine go_ior (DX6_failingChecks.at 28 rfl) ?_
        rw [nx_or, ← e0]
        refine go_istore_4 (DX6_failingChecks.at 29 rfl) ?_
        refine go_iincN_5 (DX6_failingChecks.at 30 rfl) ?_
        refine go_goto 20 (DX6_failingChecks.at 31 rfl) (by decide) ?_
        exact ih (j + 1) (by omega)
  refine go_aload_0 (DX6_failingChecks.at 0 rfl) ?_
  refine go_getfield (DX6_failingChecks.at 1 rfl) fX6_7 hM.1 rfl ?_
  refine go_iconst (v := nI 0) (DX6_failingChecks.at 2 rfl) (by decide) ?_
  refine go_ialdM (DX6_failingChecks.at 3 rfl) (hM.2.1 1 (by decide)) (show 0 < 349 by decide) (by decide) ?_
  rw [show ρ 1 0 = nI (aG A) from hR.2.1.1]
  refine go_istore_2 (DX6_failingChecks.at 4 rfl) ?_
  refine go_aload_0 (DX6_failingChecks.at 5 rfl) ?_
  refine go_cVx0 (DX6_failingChecks.at 6 rfl) nX6_47 vX6_dataCells (by omega) (m_dataCells hX) hM.1 rfl (Nat.le_of_ble_eq_true rfl) ?_
  refine go_iload_2 (DX6_failingChecks.at 7 rfl) ?_
  refine go_iadd (DX6_failingChecks.at 8 rfl) ?_
  rw [nI_add]
  refine go_istore_3 (DX6_failingChecks.at 9 rfl) ?_
  refine go_iconst (v := nI 0) (DX6_failingChecks.at 10 rfl) (by decide) ?_
  rw [show nI 0 = nI (flg (aSum A t) 0) from rfl]
  refine go_istore_4 (DX6_failingChecks.at 11 rfl) ?_
  refine go_iconst (v := nI 0) (DX6_failingChecks.at 12 rfl) (by decide) ?_
  refine go_istore_5 (DX6_failingChecks.at 13 rfl) ?_
  exact loop (aG A) 0 (Nat.zero_add _)

theorem m_globalPart {c α β : Nat} (hc : c < nc (aG A) (aS A)) (ha : α < 16) (hb : β < 16) (hX : MX G h b i ρ A) (hd : 1 ≤ d) : Calls E mX6_globalPart d 0 0 [.ref b, .int (nI c), .int (nI α), .int (nI β)] h (RX (nI (if c < aG A * aS A then gm α (pw c) ^^^ gm β (pw (2 * c)) else 0)) h) := by
  refine Calls.of (ls := [some (.ref b), some (.int (nI c)), some (.int (nI α)), some (.int (nI β))]) (by decide +kernel) rfl (Nat.le_of_ble_eq_true rfl) (cat_ok rfl) ?_
  have hM := hX.1
  have hTb := hX.2.1
  have hR := hX.2.2
  have hA := hR.1
  have hn := hA.1.nc
  have hT8 : aT A ≤ 8 := hA.1.2.2.2.2.2.2.1
  have hg4 : aG A ≤ 4 := hA.1.2.1
  have hs6 : aS A ≤ 6 := hA.1.2.2.2.1
  have hs2 : 2 ≤ aS A := hA.1.2.2.1
  have hg1 : 1 ≤ aG A := hA.1.1
  have hgs : aG A * aS A ≤ 15 := hA.1.2.2.2.2.1
  have hH5 : aH A ≤ 5 := hA.1.2.2.2.2.2.2.2
  have en : nc (aG A) (aS A) = aG A * aS A + aG A + 2 := rfl
  refine go_iload_1 (DX6_globalPart.at 0 rfl) ?_
  refine go_aload_0 (DX6_globalPart.at 1 rfl) ?_
  refine go_cVx0 (DX6_globalPart.at 2 rfl) nX6_47 vX6_dataCells (by omega) (m_dataCells hX) hM.1 rfl (Nat.le_of_ble_eq_true rfl) ?_
  refine go_icmp_ge 34 (DX6_globalPart.at 3 rfl) (by decide) (fun c5 => ?_) (fun c5 => ?_)
  · rw [nI_leI (by omega) (by omega)] at c5
    refine go_iconst (v := nI 0) (DX6_globalPart.at 20 rfl) (by decide) ?_
    exact go_iret (DX6_globalPart.at 21 rfl) rfl rfl (RX.mk (by first | rw [if_neg (by omega)] | rw [if_pos (by omega)]) rfl)
  · rw [nI_leI (by omega) (by omega)] at c5
    refine go_aload_0 (DX6_globalPart.at 4 rfl) ?_
    refine go_iload_2 (DX6_globalPart.at 5 rfl) ?_
    refine go_aload_0 (DX6_globalPart.at 6 rfl) ?_
    refine go_getfield (DX6_globalPart.at 7 rfl) fX6_31 hM.1 rfl ?_
    refine go_iload_1 (DX6_globalPart.at 8 rfl) ?_
    refine go_ialdM (DX6_globalPart.at 9 rfl) (hM.2.1 8 (by decide)) (show c < 15 by omega) (by decide) ?_
    rw [hTb.2.1 c (by omega)]
    refine go_cVx2 (DX6_globalPart.at 10 rfl) nX6_44 vX6_product (by omega) (m_product ha (pw_lt _) hX) hM.1 rfl (Nat.le_of_ble_eq_true rfl) ?_
    refine go_aload_0 (DX6_globalPart.at 11 rfl) ?_
    refine go_iload_3 (DX6_globalPart.at 12 rfl) ?_
    refine go_aload_0 (DX6_globalPart.at 13 rfl) ?_
    refine go_getfield (DX6_globalPart.at 14 rfl) fX6_34 hM.1 rfl ?_
    refine go_iload_1 (DX6_globalPart.at 15 rfl) ?_
    refine go_ialdM (DX6_globalPart.at 16 rfl) (hM.2.1 9 (by decide)) (show c < 15 by omega) (by decide) ?_
    rw [hTb.2.2 c (by omega)]
    refine go_cVx2 (DX6_globalPart.at 17 rfl) nX6_44 vX6_product (by omega) (m_product hb (pw_lt _) hX) hM.1 rfl (Nat.le_of_ble_eq_true rfl) ?_
    refine go_ixor (DX6_globalPart.at 18 rfl) ?_
    rw [nx_xor]
    refine go_goto 35 (DX6_globalPart.at 19 rfl) (by decide) ?_
    exact go_iret (DX6_globalPart.at 21 rfl) rfl rfl (RX.mk (by first | rw [if_neg (by omega)] | rw [if_pos (by omega)]) rfl)

theorem m_groupCells {k : Nat} (hk : k < aG A) (hX : MX G h b i ρ A) (hd : 1 ≤ d) : Calls E mX6_groupCells d 0 0 [.ref b, .int (nI k)] h (RX (nI (gcv (aG A) (aS A) k)) h) := by
  refine Calls.of (ls := [some (.ref b), some (.int (nI k)), none, none]) (by decide +kernel) rfl (Nat.le_of_ble_eq_true rfl) (cat_ok rfl) ?_
  have hM := hX.1
  have hTb := hX.2.1
  have hR := hX.2.2
  have hA := hR.1
  have hn := hA.1.nc
  have hT8 : aT A ≤ 8 := hA.1.2.2.2.2.2.2.1
  have hg4 : aG A ≤ 4 := hA.1.2.1
  have hs6 : aS A ≤ 6 := hA.1.2.2.2.1
  have hs2 : 2 ≤ aS A := hA.1.2.2.1
  have hg1 : 1 ≤ aG A := hA.1.1
  have hgs : aG A * aS A ≤ 15 := hA.1.2.2.2.2.1
  have hH5 : aH A ≤ 5 := hA.1.2.2.2.2.2.2.2
  have en : nc (aG A) (aS A) = aG A * aS A + aG A + 2 := rfl
  have hgk := mul_le_grp (s := aS A) hk
  have loop : ∀ (m j : Nat), j + m = aS A → Go E mX6_groupCells d 0 0 11 [some (.ref b), some (.int (nI k)), some (.int (nI ((2 ^ j - 1) * 2 ^ (k * aS A) ||| 2 ^ (aG A * aS A + k)))), some (.int (nI j))] [] h (RX (nI (gcv (aG A) (aS A) k)) h) := by
    intro m
    induction m with
    | zero =>
      intro j hj
      obtain rfl : j = aS A := by omega
      refine go_iload_3 (DX6_groupCells.at 9 rfl) ?_
      refine go_aload_0 (DX6_groupCells.at 10 rfl) ?_
      refine go_getfield (DX6_groupCells.at 11 rfl) fX6_7 hM.1 rfl ?_
      refine go_iconst (v := nI 1) (DX6_groupCells.at 12 rfl) (by decide) ?_
      refine go_ialdM (DX6_groupCells.at 13 rfl) (hM.2.1 1 (by decide)) (show 1 < 349 by decide) (by decide) ?_
      rw [show ρ 1 1 = nI (aS A) from hR.2.1.2.1]
      refine go_icmp_ge 42 (DX6_groupCells.at 14 rfl) (by decide) (fun c18 => ?_) (fun c18 => absurd (Int32.le_refl _) c18)
      refine go_iload_2 (DX6_groupCells.at 30 rfl) ?_
      exact go_iret (DX6_groupCells.at 31 rfl) rfl rfl (RX.mk rfl rfl)
    | succ m ih =>
      intro j hj
      refine go_iload_3 (DX6_groupCells.at 9 rfl) ?_
      refine go_aload_0 (DX6_groupCells.at 10 rfl) ?_
      refine go_getfield (DX6_groupCells.at 11 rfl) fX6_7 hM.1 rfl ?_
      refine go_iconst (v := nI 1) (DX6_groupCells.at 12 rfl) (by decide) ?_
      refine go_ialdM (DX6_groupCells.at 13 rfl) (hM.2.1 1 (by decide)) (show 1 < 349 by decide) (by decide) ?_
      rw [show ρ 1 1 = nI (aS A) from hR.2.1.2.1]
      refine go_icmp_ge 42 (DX6_groupCells.at 14 rfl) (by decide) (fun c18 => absurd c18 (nI_ge (by omega) (by omega))) (fun c18 => ?_)
      refine go_iload_2 (DX6_groupCells.at 15 rfl) ?_
      refine go_iconst (v := nI 1) (DX6_groupCells.at 16 rfl) (by decide) ?_
      refine go_iload_1 (DX6_groupCells.at 17 rfl) ?_
      refine go_aload_0 (DX6_groupCells.at 18 rfl) ?_
      refine go_getfield (DX6_groupCells.at 19 rfl) fX6_7 hM.1 rfl ?_
      refine go_iconst (v := nI 1) (DX6_groupCells.at 20 rfl) (by decide) ?_
      refine go_ialdM (DX6_groupCells.at 21 rfl) (hM.2.1 1 (by decide)) (show 1 < 349 by decide) (by decide) ?_
      rw [show ρ 1 1 = nI (aS A) from hR.2.1.2.1]
      refine go_imul (DX6_groupCells.at 22 rfl) ?_
      rw [pk_mul]
      refine go_iload_3 (DX6_groupCells.at 23 rfl) ?_
      refine go_iadd (DX6_groupCells.at 24 rfl) ?_
      rw [nI_add]
      refine go_ishl (DX6_groupCells.at 25 rfl) ?_
      rw [nx_shlW 1 (by omega)]
      refine go_ior (DX6_groupCells.at 26 rfl) ?_
      rw [nx_or, gc_step]
      refine go_istore_2 (DX6_groupCells.at 27 rfl) ?_
      refine go_iincN_3 (DX6_groupCells.at 28 rfl) ?_
      refine go_goto 11 (DX6_groupCells.at 29 rfl) (by decide) ?_
      exact ih (j + 1) (by omega)
  refine go_iconst (v := nI 1) (DX6_groupCells.at 0 rfl) (by decide) ?_
  refine go_aload_0 (DX6_groupCells.at 1 rfl) ?_
  refine go_cVx0 (DX6_groupCells.at 2 rfl) nX6_47 vX6_dataCells (by omega) (m_dataCells hX) hM.1 rfl (Nat.le_of_ble_eq_true rfl) ?_
  refine go_iload_1 (DX6_groupCells.at 3 rfl) ?_
  refine go_iadd (DX6_groupCells.at 4 rfl) ?_
  rw [nI_add]
  refine go_ishl (DX6_groupCells.at 5 rfl) ?_
  rw [nx_shlW 1 (by omega), Nat.one_mul, show 2 ^ (aG A * aS A + k) = (2 ^ 0 - 1) * 2 ^ (k * aS A) ||| 2 ^ (aG A * aS A + k) by rw [Nat.pow_zero, Nat.sub_self, Nat.zero_mul, Nat.zero_or]]
  refine go_istore_2 (DX6_groupCells.at 6 rfl) ?_
  refine go_iconst (v := nI 0) (DX6_groupCells.at 7 rfl) (by decide) ?_
  refine go_istore_3 (DX6_groupCells.at 8 rfl) ?_
  exact loop (aS A) 0 (Nat.zero_add _)

theorem nI_m5 {k : Nat} (h : k < 2 ^ 31) : ¬ nI k = -5 := fun e => absurd (show nI k < 0 by rw [e]; decide) (nI_pos h)
theorem fc_eq {g s c α β : Nat} {F : Nat → Nat} (hg : g ≤ 4) (hc : c < nc g s) (hh : hcv g s c < g) (hl : B6 (lfn g F α β)) : F (hcv g s c) ^^^ (if c < g * s then gm α (pw c) ^^^ gm β (pw (2 * c)) else 0) = ev (lfn g F α β) (colv g s c) := by
  have l1 : lfn g F α β (hcv g s c) = F (hcv g s c) := if_pos hh
  have l2 : lfn g F α β g = α := by unfold lfn; rw [if_neg (by omega), if_pos rfl]
  have l3 : lfn g F α β (g + 1) = β := by unfold lfn; rw [if_neg (by omega), if_neg (by omega), if_pos rfl]
  by_cases q : c < g * s
  · have eh : hcv g s c = c / s := if_pos q
    rw [if_pos q, ev_dat hl hg q, ← eh, l1, l2, l3]
  · have eh : hcv g s c = c - g * s := if_neg q
    rw [if_neg q, ev_par hl hg hc q, ← eh, l1, Nat.xor_zero]
theorem m_factorOf {c α β : Nat} {F : Nat → Nat} (hc : c < nc (aG A) (aS A)) (ha : α < 16) (hb : β < 16) (hF : LfR ρ (aG A) F) (hX : MX G h b i ρ A) (hd : 2 ≤ d) : Calls E mX6_factorOf d 0 0 [.ref b, .int (nI c), .int (nI α), .int (nI β)] h (RX (nI (ev (lfn (aG A) F α β) (colv (aG A) (aS A) c))) h) := by
  refine Calls.of (ls := [some (.ref b), some (.int (nI c)), some (.int (nI α)), some (.int (nI β)), none, none]) (by decide +kernel) rfl (Nat.le_of_ble_eq_true rfl) (cat_ok rfl) ?_
  have hM := hX.1
  have hTb := hX.2.1
  have hR := hX.2.2
  have hA := hR.1
  have hn := hA.1.nc
  have hT8 : aT A ≤ 8 := hA.1.2.2.2.2.2.2.1
  have hg4 : aG A ≤ 4 := hA.1.2.1
  have hs6 : aS A ≤ 6 := hA.1.2.2.2.1
  have hs2 : 2 ≤ aS A := hA.1.2.2.1
  have hg1 : 1 ≤ aG A := hA.1.1
  have hgs : aG A * aS A ≤ 15 := hA.1.2.2.2.2.1
  have hH5 : aH A ≤ 5 := hA.1.2.2.2.2.2.2.2
  have en : nc (aG A) (aS A) = aG A * aS A + aG A + 2 := rfl
  refine go_aload_0 (DX6_factorOf.at 0 rfl) ?_
  refine go_iload_1 (DX6_factorOf.at 1 rfl) ?_
  refine go_cVx1 (DX6_factorOf.at 2 rfl) nX6_91 vX6_groupOf (by omega) (m_groupOf hc hX (by omega)) hM.1 rfl (Nat.le_of_ble_eq_true rfl) ?_
  refine go_istore_4 (DX6_factorOf.at 3 rfl) ?_
  refine go_iload_4 (DX6_factorOf.at 4 rfl) ?_
  refine go_bipush (v := (-5)) (DX6_factorOf.at 5 rfl) (by decide) ?_
  refine go_icmp_ne 35 (DX6_factorOf.at 6 rfl) (by decide) (fun c11 => ?_) (fun c11 => ?_)
  · have hh : hcv (aG A) (aS A) c < aG A := Classical.byContradiction (fun q => c11 (if_neg q))
    rw [show grI (aG A) (aS A) c = nI (hcv (aG A) (aS A) c) from if_pos hh]
    obtain ⟨f1, f2⟩ := hF _ hh
    refine go_aload_0 (DX6_factorOf.at 20 rfl) ?_
    refine go_getfield (DX6_factorOf.at 21 rfl) fX6_37 hM.1 rfl ?_
    refine go_iload_4 (DX6_factorOf.at 22 rfl) ?_
    refine go_ialdM (DX6_factorOf.at 23 rfl) (hM.2.1 10 (by decide)) (show hcv (aG A) (aS A) c < 4 by omega) (by decide) ?_
    refine go_if_ge 49 (DX6_factorOf.at 24 rfl) (by decide) (fun c42 => ?_) (fun c42 => ?_)
    · have f3 : ρ 10 (hcv (aG A) (aS A) c) = nI (F (hcv (aG A) (aS A) c)) := f2.elim (fun q => absurd c42 (by rw [q.1]; decide)) id
      refine go_aload_0 (DX6_factorOf.at 27 rfl) ?_
      refine go_getfield (DX6_factorOf.at 28 rfl) fX6_37 hM.1 rfl ?_
      refine go_iload_4 (DX6_factorOf.at 29 rfl) ?_
      refine go_ialdM (DX6_factorOf.at 30 rfl) (hM.2.1 10 (by decide)) (show hcv (aG A) (aS A) c < 4 by omega) (by decide) ?_
      refine go_istore_5 (DX6_factorOf.at 31 rfl) ?_
      refine go_iload_5 (DX6_factorOf.at 32 rfl) ?_
      refine go_aload_0 (DX6_factorOf.at 33 rfl) ?_
      refine go_iload_1 (DX6_factorOf.at 34 rfl) ?_
      refine go_iload_2 (DX6_factorOf.at 35 rfl) ?_
      refine go_iload_3 (DX6_factorOf.at 36 rfl) ?_
      refine go_cVx3 (DX6_factorOf.at 37 rfl) nX6_94 vX6_globalPart (by omega) (m_globalPart hc ha hb hX (by omega)) hM.1 rfl (Nat.le_of_ble_eq_true rfl) ?_
      refine go_ixor (DX6_factorOf.at 38 rfl) ?_
      first | rw [show nI 0 = nI (F (hcv (aG A) (aS A) c)) from congrArg nI f3.symm, nx_xor] | rw [f3, nx_xor]
      exact go_iret (DX6_factorOf.at 39 rfl) rfl rfl (RX.mk (congrArg nI (fc_eq hg4 hc hh (lfn_lt (fun k hk => (hF k hk).1) ha hb))) rfl)
    · have f3 : F (hcv (aG A) (aS A) c) = 0 := f2.elim (fun q => q.2) (fun q => absurd (nI_0le (a := F (hcv (aG A) (aS A) c)) (by omega)) (by rw [q] at c42; exact c42))
      refine go_iconst (v := nI 0) (DX6_factorOf.at 25 rfl) (by decide) ?_
      refine go_goto 56 (DX6_factorOf.at 26 rfl) (by decide) ?_
      refine go_istore_5 (DX6_factorOf.at 31 rfl) ?_
      refine go_iload_5 (DX6_factorOf.at 32 rfl) ?_
      refine go_aload_0 (DX6_factorOf.at 33 rfl) ?_
      refine go_iload_1 (DX6_factorOf.at 34 rfl) ?_
      refine go_iload_2 (DX6_factorOf.at 35 rfl) ?_
      refine go_iload_3 (DX6_factorOf.at 36 rfl) ?_
      refine go_cVx3 (DX6_factorOf.at 37 rfl) nX6_94 vX6_globalPart (by omega) (m_globalPart hc ha hb hX (by omega)) hM.1 rfl (Nat.le_of_ble_eq_true rfl) ?_
      refine go_ixor (DX6_factorOf.at 38 rfl) ?_
      first | rw [show nI 0 = nI (F (hcv (aG A) (aS A) c)) from congrArg nI f3.symm, nx_xor] | rw [f3, nx_xor]
      exact go_iret (DX6_factorOf.at 39 rfl) rfl rfl (RX.mk (congrArg nI (fc_eq hg4 hc hh (lfn_lt (fun k hk => (hF k hk).1) ha hb))) rfl)
  · have hh : ¬ hcv (aG A) (aS A) c < aG A := fun q => nI_m5 (show hcv (aG A) (aS A) c < 2 ^ 31 by omega) ((if_pos q).symm.trans c11)
    have hd : ¬ c < aG A * aS A := fun q => hh (hcv_ltg q)
    have eh : hcv (aG A) (aS A) c = c - aG A * aS A := if_neg hd
    refine go_iload_1 (DX6_factorOf.at 7 rfl) ?_
    refine go_aload_0 (DX6_factorOf.at 8 rfl) ?_
    refine go_cVx0 (DX6_factorOf.at 9 rfl) nX6_47 vX6_dataCells (by omega) (m_dataCells hX) hM.1 rfl (Nat.le_of_ble_eq_true rfl) ?_
    refine go_aload_0 (DX6_factorOf.at 10 rfl) ?_
    refine go_getfield (DX6_factorOf.at 11 rfl) fX6_7 hM.1 rfl ?_
    refine go_iconst (v := nI 0) (DX6_factorOf.at 12 rfl) (by decide) ?_
    refine go_ialdM (DX6_factorOf.at 13 rfl) (hM.2.1 1 (by decide)) (show 0 < 349 by decide) (by decide) ?_
    rw [show ρ 1 0 = nI (aG A) from hR.2.1.1]
    refine go_iadd (DX6_factorOf.at 14 rfl) ?_
    rw [nI_add]
    refine go_icmp_ne 33 (DX6_factorOf.at 15 rfl) (by decide) (fun c26 => ?_) (fun c26 => ?_)
    · rw [nI_eq (by omega) (by omega)] at c26
      have e0 : ev (lfn (aG A) F α β) (colv (aG A) (aS A) c) = β := by
        rw [ev_par (lfn_lt (fun k hk => (hF k hk).1) ha hb) hg4 hc hd]
        unfold lfn
        rw [if_neg (by omega), if_neg (by omega), if_pos (by omega)]
      refine go_iload_3 (DX6_factorOf.at 18 rfl) ?_
      exact go_iret (DX6_factorOf.at 19 rfl) rfl rfl (RX.mk (congrArg nI e0.symm) rfl)
    · rw [nI_eq (by omega) (by omega)] at c26
      have e0 : ev (lfn (aG A) F α β) (colv (aG A) (aS A) c) = α := by
        rw [ev_par (lfn_lt (fun k hk => (hF k hk).1) ha hb) hg4 hc hd]
        unfold lfn
        rw [if_neg (by omega), if_pos (by omega)]
      refine go_iload_2 (DX6_factorOf.at 16 rfl) ?_
      refine go_goto 34 (DX6_factorOf.at 17 rfl) (by decide) ?_
      exact go_iret (DX6_factorOf.at 19 rfl) rfl rfl (RX.mk (congrArg nI e0.symm) rfl)

theorem m_sumThere {t α β : Nat} {F : Nat → Nat} (ht : t < aT A) (ha : α < 16) (hb : β < 16) (hF : LfR ρ (aG A) F) (hX : MX G h b i ρ A) (hd : 3 ≤ d) : Calls E mX6_sumThere d 0 0 [.ref b, .int (nI t), .int (nI α), .int (nI β)] h (RX (nI (ev (lfn (aG A) F α β) (vsum (colv (aG A) (aS A)) (aV A t) (Src3 (nc (aG A) (aS A)) (aM A t)) (nc (aG A) (aS A))))) h) := by
  refine Calls.of (ls := [some (.ref b), some (.int (nI t)), some (.int (nI α)), some (.int (nI β)), none, none]) (by decide +kernel) rfl (Nat.le_of_ble_eq_true rfl) (cat_ok rfl) ?_
  have hM := hX.1
  have hTb := hX.2.1
  have hR := hX.2.2
  have hA := hR.1
  have hn := hA.1.nc
  have hT8 : aT A ≤ 8 := hA.1.2.2.2.2.2.2.1
  have hg4 : aG A ≤ 4 := hA.1.2.1
  have hs6 : aS A ≤ 6 := hA.1.2.2.2.1
  have hs2 : 2 ≤ aS A := hA.1.2.2.1
  have hg1 : 1 ≤ aG A := hA.1.1
  have hgs : aG A * aS A ≤ 15 := hA.1.2.2.2.2.1
  have hH5 : aH A ≤ 5 := hA.1.2.2.2.2.2.2.2
  have en : nc (aG A) (aS A) = aG A * aS A + aG A + 2 := rfl
  have hl : B6 (lfn (aG A) F α β) := lfn_lt (fun k hk => (hF k hk).1) ha hb
  have loop : ∀ (m j : Nat), j + m = nc (aG A) (aS A) → Go E mX6_sumThere d 0 0 6 [some (.ref b), some (.int (nI t)), some (.int (nI α)), some (.int (nI β)), some (.int (nI (xsum (fun c => gm (ev (lfn (aG A) F α β) (colv (aG A) (aS A) c)) (aV A t c)) (Src3 (nc (aG A) (aS A)) (aM A t)) j))), some (.int (nI j))] [] h (RX (nI (ev (lfn (aG A) F α β) (vsum (colv (aG A) (aS A)) (aV A t) (Src3 (nc (aG A) (aS A)) (aM A t)) (nc (aG A) (aS A))))) h) := by
    intro m
    induction m with
    | zero =>
      intro j hj
      obtain rfl : j = nc (aG A) (aS A) := by omega
      refine go_iload_5 (DX6_sumThere.at 4 rfl) ?_
      refine go_aload_0 (DX6_sumThere.at 5 rfl) ?_
      refine go_cVx0 (DX6_sumThere.at 6 rfl) nX6_59 vX6_cells (by omega) (m_cells hX (by omega)) hM.1 rfl (Nat.le_of_ble_eq_true rfl) ?_
      refine go_icmp_ge 59 (DX6_sumThere.at 7 rfl) (by decide) (fun c12 => ?_) (fun c12 => absurd (Int32.le_refl _) c12)
      refine go_iload_4 (DX6_sumThere.at 31 rfl) ?_
      exact go_iret (DX6_sumThere.at 32 rfl) rfl rfl (RX.mk (congrArg nI (ev_vsum hl (fun c _ i _ => colv_lt i) (fun c _ _ => hA.2.2.1 t c) (nc (aG A) (aS A)) (Nat.le_refl _)).symm) rfl)
    | succ m ih =>
      intro j hj
      refine go_iload_5 (DX6_sumThere.at 4 rfl) ?_
      refine go_aload_0 (DX6_sumThere.at 5 rfl) ?_
      refine go_cVx0 (DX6_sumThere.at 6 rfl) nX6_59 vX6_cells (by omega) (m_cells hX (by omega)) hM.1 rfl (Nat.le_of_ble_eq_true rfl) ?_
      refine go_icmp_ge 59 (DX6_sumThere.at 7 rfl) (by decide) (fun c12 => absurd c12 (nI_ge (by omega) (by omega))) (fun c12 => ?_)
      refine go_iload_4 (DX6_sumThere.at 8 rfl) ?_
      refine go_aload_0 (DX6_sumThere.at 9 rfl) ?_
      refine go_iload_1 (DX6_sumThere.at 10 rfl) ?_
      refine go_iload_5 (DX6_sumThere.at 11 rfl) ?_
      refine go_cVx2 (DX6_sumThere.at 12 rfl) nX6_65 vX6_isLost (by omega) (m_isLost ht (show j < nc (aG A) (aS A) by omega) hX (by omega)) hM.1 rfl (Nat.le_of_ble_eq_true rfl) ?_
      refine go_if_eq 31 (DX6_sumThere.at 13 rfl) (by decide) (fun c24 => ?_) (fun c24 => ?_)
      · rw [bP_eq0] at c24
        have e0 : xsum (fun c => gm (ev (lfn (aG A) F α β) (colv (aG A) (aS A) c)) (aV A t c)) (Src3 (nc (aG A) (aS A)) (aM A t)) (j + 1) = xsum (fun c => gm (ev (lfn (aG A) F α β) (colv (aG A) (aS A) c)) (aV A t c)) (Src3 (nc (aG A) (aS A)) (aM A t)) j ^^^ gm (ev (lfn (aG A) F α β) (colv (aG A) (aS A) j)) (aV A t j) := by
          show xsum (fun c => gm (ev (lfn (aG A) F α β) (colv (aG A) (aS A) c)) (aV A t c)) (Src3 (nc (aG A) (aS A)) (aM A t)) j ^^^ (if (Src3 (nc (aG A) (aS A)) (aM A t)) / 2 ^ j % 2 = 1 then _ else 0) = _
          rw [if_pos ((src_bit (by omega)).mpr ⟨by omega, c24⟩)]
        refine go_aload_0 (DX6_sumThere.at 16 rfl) ?_
        refine go_aload_0 (DX6_sumThere.at 17 rfl) ?_
        refine go_iload_5 (DX6_sumThere.at 18 rfl) ?_
        refine go_iload_2 (DX6_sumThere.at 19 rfl) ?_
        refine go_iload_3 (DX6_sumThere.at 20 rfl) ?_
        refine go_cVx3 (DX6_sumThere.at 21 rfl) nX6_98 vX6_factorOf (by omega) (m_factorOf (show j < nc (aG A) (aS A) by omega) ha hb hF hX (by omega)) hM.1 rfl (Nat.le_of_ble_eq_true rfl) ?_
        refine go_aload_0 (DX6_sumThere.at 22 rfl) ?_
        refine go_iload_1 (DX6_sumThere.at 23 rfl) ?_
        refine go_iload_5 (DX6_sumThere.at 24 rfl) ?_
        refine go_cVx2 (DX6_sumThere.at 25 rfl) nX6_62 vX6_cellValue (by omega) (m_cellValue hM (show t < 8 by omega) (show j < 20 by omega)) hM.1 rfl (Nat.le_of_ble_eq_true rfl) ?_
        rw [hR.2.2.2.2.2.2.1 t ht j (by omega) c24]
        refine go_cVx2 (DX6_sumThere.at 26 rfl) nX6_44 vX6_product (by omega) (m_product (ev_lt hl (fun i _ => colv_lt i)) (hA.2.2.1 _ _) hX) hM.1 rfl (Nat.le_of_ble_eq_true rfl) ?_
        refine go_ixor (DX6_sumThere.at 27 rfl) ?_
        rw [nx_xor, ← e0]
        refine go_istore_4 (DX6_sumThere.at 28 rfl) ?_
        refine go_iincN_5 (DX6_sumThere.at 29 rfl) ?_
        refine go_goto 6 (DX6_sumThere.at 30 rfl) (by decide) ?_
        exact ih (j + 1) (by omega)
      · rw [bP_eq0, Classical.not_not] at c24
        have e0 : xsum (fun c => gm (ev (lfn (aG A) F α β) (colv (aG A) (aS A) c)) (aV A t c)) (Src3 (nc (aG A) (aS A)) (aM A t)) (j + 1) = xsum (fun c => gm (ev (lfn (aG A) F α β) (colv (aG A) (aS A) c)) (aV A t c)) (Src3 (nc (aG A) (aS A)) (aM A t)) j ^^^ 0 := by
          show xsum (fun c => gm (ev (lfn (aG A) F α β) (colv (aG A) (aS A) c)) (aV A t c)) (Src3 (nc (aG A) (aS A)) (aM A t)) j ^^^ (if (Src3 (nc (aG A) (aS A)) (aM A t)) / 2 ^ j % 2 = 1 then _ else 0) = _
          rw [if_neg (fun q => ((src_bit (by omega)).mp q).2 c24)]
        refine go_iconst (v := nI 0) (DX6_sumThere.at 14 rfl) (by decide) ?_
        refine go_goto 50 (DX6_sumThere.at 15 rfl) (by decide) ?_
        refine go_ixor (DX6_sumThere.at 27 rfl) ?_
        rw [nx_xor, ← e0]
        refine go_istore_4 (DX6_sumThere.at 28 rfl) ?_
        refine go_iincN_5 (DX6_sumThere.at 29 rfl) ?_
        refine go_goto 6 (DX6_sumThere.at 30 rfl) (by decide) ?_
        exact ih (j + 1) (by omega)
  refine go_iconst (v := nI 0) (DX6_sumThere.at 0 rfl) (by decide) ?_
  rw [show nI 0 = nI (xsum (fun c => gm (ev (lfn (aG A) F α β) (colv (aG A) (aS A) c)) (aV A t c)) (Src3 (nc (aG A) (aS A)) (aM A t)) 0) from rfl]
  refine go_istore_4 (DX6_sumThere.at 1 rfl) ?_
  refine go_iconst (v := nI 0) (DX6_sumThere.at 2 rfl) (by decide) ?_
  refine go_istore_5 (DX6_sumThere.at 3 rfl) ?_
  exact loop (nc (aG A) (aS A)) 0 (Nat.zero_add _)

theorem m_nodesOf {t M : Nat} (ht : t < 8) (hM20 : M < 2 ^ 20) (hX : MX G h b i ρ A) (hd : 3 ≤ d) : Calls E mX6_nodesOf d 0 0 [.ref b, .int (nI M), .int (nI t)] h (RX (nI (ndS (fun c => (c + t * aH A) % nc (aG A) (aS A)) M (nc (aG A) (aS A)))) h) := by
  refine Calls.of (ls := [some (.ref b), some (.int (nI M)), some (.int (nI t)), none, none]) (by decide +kernel) rfl (Nat.le_of_ble_eq_true rfl) (cat_ok rfl) ?_
  have hM := hX.1
  have hTb := hX.2.1
  have hR := hX.2.2
  have hA := hR.1
  have hn := hA.1.nc
  have hT8 : aT A ≤ 8 := hA.1.2.2.2.2.2.2.1
  have hg4 : aG A ≤ 4 := hA.1.2.1
  have hs6 : aS A ≤ 6 := hA.1.2.2.2.1
  have hs2 : 2 ≤ aS A := hA.1.2.2.1
  have hg1 : 1 ≤ aG A := hA.1.1
  have hgs : aG A * aS A ≤ 15 := hA.1.2.2.2.2.1
  have hH5 : aH A ≤ 5 := hA.1.2.2.2.2.2.2.2
  have en : nc (aG A) (aS A) = aG A * aS A + aG A + 2 := rfl
  have loop : ∀ (m j : Nat), j + m = nc (aG A) (aS A) → Go E mX6_nodesOf d 0 0 5 [some (.ref b), some (.int (nI M)), some (.int (nI t)), some (.int (nI (ndS (fun c => (c + t * aH A) % nc (aG A) (aS A)) M j))), some (.int (nI j))] [] h (RX (nI (ndS (fun c => (c + t * aH A) % nc (aG A) (aS A)) M (nc (aG A) (aS A)))) h) := by
    intro m
    induction m with
    | zero =>
      intro j hj
      obtain rfl : j = nc (aG A) (aS A) := by omega
      refine go_iload_4 (DX6_nodesOf.at 4 rfl) ?_
      refine go_aload_0 (DX6_nodesOf.at 5 rfl) ?_
      refine go_cVx0 (DX6_nodesOf.at 6 rfl) nX6_59 vX6_cells (by omega) (m_cells hX (by omega)) hM.1 rfl (Nat.le_of_ble_eq_true rfl) ?_
      refine go_icmp_ge 46 (DX6_nodesOf.at 7 rfl) (by decide) (fun c11 => ?_) (fun c11 => absurd (Int32.le_refl _) c11)
      refine go_iload_3 (DX6_nodesOf.at 28 rfl) ?_
      exact go_iret (DX6_nodesOf.at 29 rfl) rfl rfl (RX.mk rfl rfl)
    | succ m ih =>
      intro j hj
      refine go_iload_4 (DX6_nodesOf.at 4 rfl) ?_
      refine go_aload_0 (DX6_nodesOf.at 5 rfl) ?_
      refine go_cVx0 (DX6_nodesOf.at 6 rfl) nX6_59 vX6_cells (by omega) (m_cells hX (by omega)) hM.1 rfl (Nat.le_of_ble_eq_true rfl) ?_
      refine go_icmp_ge 46 (DX6_nodesOf.at 7 rfl) (by decide) (fun c11 => absurd c11 (nI_ge (by omega) (by omega))) (fun c11 => ?_)
      refine go_iload_3 (DX6_nodesOf.at 8 rfl) ?_
      refine go_iload_1 (DX6_nodesOf.at 9 rfl) ?_
      refine go_iload_4 (DX6_nodesOf.at 10 rfl) ?_
      refine go_ishr (DX6_nodesOf.at 11 rfl) ?_
      refine go_iconst (v := nI 1) (DX6_nodesOf.at 12 rfl) (by decide) ?_
      refine go_iand (DX6_nodesOf.at 13 rfl) ?_
      refine go_iconst (v := nI 1) (DX6_nodesOf.at 14 rfl) (by decide) ?_
      refine go_icmp_ne 37 (DX6_nodesOf.at 15 rfl) (by decide) (fun c22 => ?_) (fun c22 => ?_)
      · rw [nx_bit (by omega) (by omega), nI_eq (by omega) (by decide)] at c22
        have e0 : ndS (fun c => (c + t * aH A) % nc (aG A) (aS A)) M (j + 1) = ndS (fun c => (c + t * aH A) % nc (aG A) (aS A)) M j ||| 0 := if_neg c22
        refine go_iconst (v := nI 0) (DX6_nodesOf.at 23 rfl) (by decide) ?_
        refine go_ior (DX6_nodesOf.at 24 rfl) ?_
        rw [nx_or, ← e0]
        refine go_istore_3 (DX6_nodesOf.at 25 rfl) ?_
        refine go_iincN_4 (DX6_nodesOf.at 26 rfl) ?_
        refine go_goto 5 (DX6_nodesOf.at 27 rfl) (by decide) ?_
        exact ih (j + 1) (by omega)
      · rw [nx_bit (by omega) (by omega), nI_eq (by omega) (by decide)] at c22
        have e0 : ndS (fun c => (c + t * aH A) % nc (aG A) (aS A)) M (j + 1) = ndS (fun c => (c + t * aH A) % nc (aG A) (aS A)) M j ||| 1 * 2 ^ ((j + t * aH A) % nc (aG A) (aS A)) := if_pos c22
        refine go_iconst (v := nI 1) (DX6_nodesOf.at 16 rfl) (by decide) ?_
        refine go_aload_0 (DX6_nodesOf.at 17 rfl) ?_
        refine go_iload_2 (DX6_nodesOf.at 18 rfl) ?_
        refine go_iload_4 (DX6_nodesOf.at 19 rfl) ?_
        refine go_cVx2 (DX6_nodesOf.at 20 rfl) nX6_135 vX6_nodeOf (by omega) (m_nodeOf ht (show j < 20 by omega) hX (by omega)) hM.1 rfl (Nat.le_of_ble_eq_true rfl) ?_
        refine go_ishl (DX6_nodesOf.at 21 rfl) ?_
        rw [nx_shlW 1 (by have := Nat.mod_lt (j + t * aH A) (show 0 < nc (aG A) (aS A) by omega); omega)]
        refine go_goto 38 (DX6_nodesOf.at 22 rfl) (by decide) ?_
        refine go_ior (DX6_nodesOf.at 24 rfl) ?_
        rw [nx_or, ← e0]
        refine go_istore_3 (DX6_nodesOf.at 25 rfl) ?_
        refine go_iincN_4 (DX6_nodesOf.at 26 rfl) ?_
        refine go_goto 5 (DX6_nodesOf.at 27 rfl) (by decide) ?_
        exact ih (j + 1) (by omega)
  refine go_iconst (v := nI 0) (DX6_nodesOf.at 0 rfl) (by decide) ?_
  rw [show nI 0 = nI (ndS (fun c => (c + t * aH A) % nc (aG A) (aS A)) M 0) from rfl]
  refine go_istore_3 (DX6_nodesOf.at 1 rfl) ?_
  refine go_iconst (v := nI 0) (DX6_nodesOf.at 2 rfl) (by decide) ?_
  refine go_istore_4 (DX6_nodesOf.at 3 rfl) ?_
  exact loop (nc (aG A) (aS A)) 0 (Nat.zero_add _)

end M6
