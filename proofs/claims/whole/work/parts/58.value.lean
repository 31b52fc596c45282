/-! THE MODEL: cells that are read, the value, the queue -/
theorem colv_home {g s T sh c : Nat} (hL : LayOK g s T sh) (hc : c < nc g s) : colv g s c (hcv g s c) = 1 := by
  unfold hcv
  by_cases q : c < g * s
  · rw [if_pos q]
    unfold colv
    rw [if_pos q, if_pos rfl]
  · rw [if_neg q, colv_pk q, if_pos rfl]
theorem grI_eq {g s a c : Nat} (hc : hcv g s c < g) (hg : g ≤ 4) : grI g s a = grI g s c ↔ hcv g s a = hcv g s c := by
  unfold grI
  rw [if_pos hc]
  by_cases q : hcv g s a < g
  · rw [if_pos q, nI_eq (by omega) (by omega)]
  · rw [if_neg q]
    exact ⟨fun e => absurd e.symm (nI_m5 (by omega)), fun e => absurd (e ▸ hc) q⟩
theorem src_n {g s T sh M c w src X : Nat} {C : Nat → Nat → Nat} {V : Nat → Nat} (hL : LayOK g s T sh) (h : WayX C V g s M c w src X) : src < 2 ^ nc g s := by
  have hn := hL.nc
  have hs : 2 ≤ s := hL.2.2.1
  rcases h with ⟨-, -, e, -⟩ | ⟨-, -, -, e, -⟩
  · rw [e]
    refine Nat.lt_pow_two_of_testBit _ (fun x hx => ?_)
    cases q : (pmv g s c).testBit x with
    | false => rfl
    | true =>
      have q2 := bit_tb.mpr q
      have h20 := bit_big (pmv_lt20 hL) q2
      by_cases hh : hcv g s c < g
      · have q3 := (pmv_bit (by omega) hh (by omega)).mp q2
        have q4 := gcv_n hh ((grp_iff (by omega) hh).mpr q3.1)
        omega
      · rw [pmv_d hh, bit_m1] at q2
        unfold nc at hx
        omega
  · rw [e]
    exact src3_lt
theorem pcn_n {M n : Nat} (hM : M < 2 ^ n) (hn : n ≤ 20) : pcn M 20 = pcn M n := by
  have q := pcn_hi hM (20 - n)
  rwa [show n + (20 - n) = 20 by omega] at q
theorem bP_iff {P Q : Prop} (h : P ↔ Q) : bP P = bP Q := by
  by_cases q : Q
  · rw [bP_t q, bP_t (h.mpr q)]
  · rw [bP_f q, bP_f (fun w => q (h.mp w))]
section M6
variable {E : AEnv} {d : Nat} {h h' : List va_E} {b : Nat} {i : Nat → Int32} {ρ : Nat → Nat → Int32} {A : Ab} {G : Nat → Option va_E}
theorem m_isRead1 {t o c : Nat} (ho : o < nc (aG A) (aS A)) (hc : c < nc (aG A) (aS A)) (hh : hcv (aG A) (aS A) c < aG A) (hX : MX G h b i ρ A) (hd : 2 ≤ d) : Calls E mX6_isRead d 0 0 [.ref b, .int (nI t), .int (nI o), .int (nI c), .int (nI 1)] h (RX (bP (bit (pmv (aG A) (aS A) c) o)) h) := by
  refine Calls.of (ls := [some (.ref b), some (.int (nI t)), some (.int (nI o)), some (.int (nI c)), some (.int (nI 1))]) (by decide +kernel) rfl (Nat.le_of_ble_eq_true rfl) (cat_ok rfl) ?_
  have hM := hX.1
  have hTb := hX.2.1
  have hR := hX.2.2
  have hA := hR.1
  have hn := hA.1.nc
  have hT8 : aT A ≤ 8 := hA.1.2.2.2.2.2.2.1
  have hg4 : aG A ≤ 4 := hA.1.2.1
  have hs6 : aS A ≤ 6 := hA.1.2.2.2.1
  have hs2 : 2 ≤ aS A := hA.1.2.2.1
  have hg1 : 1 ≤ aG A := hA.1.1
  have hgs : aG A * aS A ≤ 15 := hA.1.2.2.2.2.1
  have hH5 : aH A ≤ 5 := hA.1.2.2.2.2.2.2.2
  have en : nc (aG A) (aS A) = aG A * aS A + aG A + 2 := rfl
  refine go_iload_4 (DX6_isRead.at 0 rfl) ?_
  refine go_iconst (v := nI 1) (DX6_isRead.at 1 rfl) (by decide) ?_
  refine go_icmp_ne 30 (DX6_isRead.at 2 rfl) (by decide) (fun c3 => absurd rfl c3) (fun c3 => ?_)
  refine go_iload_2 (DX6_isRead.at 3 rfl) ?_
  refine go_iload_3 (DX6_isRead.at 4 rfl) ?_
  refine go_icmp_eq 28 (DX6_isRead.at 5 rfl) (by decide) (fun c8 => ?_) (fun c8 => ?_)
  · rw [nI_eq (by omega) (by omega)] at c8
    have e0 : bP (bit (pmv (aG A) (aS A) c) o) = nI 0 := bP_f (fun q => ((pmv_bit (by omega) hh (by omega)).mp q).2 c8)
    refine go_iconst (v := nI 0) (DX6_isRead.at 15 rfl) (by decide) ?_
    exact go_iret (DX6_isRead.at 16 rfl) rfl rfl (RX.mk e0.symm rfl)
  · rw [nI_eq (by omega) (by omega)] at c8
    refine go_aload_0 (DX6_isRead.at 6 rfl) ?_
    refine go_iload_2 (DX6_isRead.at 7 rfl) ?_
    refine go_cVx1 (DX6_isRead.at 8 rfl) nX6_91 vX6_groupOf (by omega) (m_groupOf ho hX (by omega)) hM.1 rfl (Nat.le_of_ble_eq_true rfl) ?_
    refine go_aload_0 (DX6_isRead.at 9 rfl) ?_
    refine go_iload_3 (DX6_isRead.at 10 rfl) ?_
    refine go_cVx1 (DX6_isRead.at 11 rfl) nX6_91 vX6_groupOf (by omega) (m_groupOf hc hX (by omega)) hM.1 rfl (Nat.le_of_ble_eq_true rfl) ?_
    refine go_icmp_ne 28 (DX6_isRead.at 12 rfl) (by decide) (fun c21 => ?_) (fun c21 => ?_)
    · rw [grI_eq hh hg4] at c21
      have e0 : bP (bit (pmv (aG A) (aS A) c) o) = nI 0 := bP_f (fun q => c21 ((pmv_bit (by omega) hh (by omega)).mp q).1)
      refine go_iconst (v := nI 0) (DX6_isRead.at 15 rfl) (by decide) ?_
      exact go_iret (DX6_isRead.at 16 rfl) rfl rfl (RX.mk e0.symm rfl)
    · rw [grI_eq hh hg4] at c21
      have e0 : bP (bit (pmv (aG A) (aS A) c) o) = nI 1 := bP_t ((pmv_bit (by omega) hh (by omega)).mpr ⟨c21, c8⟩)
      refine go_iconst (v := nI 1) (DX6_isRead.at 13 rfl) (by decide) ?_
      refine go_goto 29 (DX6_isRead.at 14 rfl) (by decide) ?_
      exact go_iret (DX6_isRead.at 16 rfl) rfl rfl (RX.mk e0.symm rfl)

theorem m_isRead2 {t o c : Nat} (ho : o < nc (aG A) (aS A)) (hX : MX G h b i ρ A) (hd : 2 ≤ d) : Calls E mX6_isRead d 0 0 [.ref b, .int (nI t), .int (nI o), .int (nI c), .int (nI 2)] h (RX (bP (bit (2 ^ (aG A * aS A) - 1) o)) h) := by
  refine Calls.of (ls := [some (.ref b), some (.int (nI t)), some (.int (nI o)), some (.int (nI c)), some (.int (nI 2))]) (by decide +kernel) rfl (Nat.le_of_ble_eq_true rfl) (cat_ok rfl) ?_
  have hM := hX.1
  have hTb := hX.2.1
  have hR := hX.2.2
  have hA := hR.1
  have hn := hA.1.nc
  have hT8 : aT A ≤ 8 := hA.1.2.2.2.2.2.2.1
  have hg4 : aG A ≤ 4 := hA.1.2.1
  have hs6 : aS A ≤ 6 := hA.1.2.2.2.1
  have hs2 : 2 ≤ aS A := hA.1.2.2.1
  have hg1 : 1 ≤ aG A := hA.1.1
  have hgs : aG A * aS A ≤ 15 := hA.1.2.2.2.2.1
  have hH5 : aH A ≤ 5 := hA.1.2.2.2.2.2.2.2
  have en : nc (aG A) (aS A) = aG A * aS A + aG A + 2 := rfl
  refine go_iload_4 (DX6_isRead.at 0 rfl) ?_
  refine go_iconst (v := nI 1) (DX6_isRead.at 1 rfl) (by decide) ?_
  refine go_icmp_ne 30 (DX6_isRead.at 2 rfl) (by decide) (fun c3 => ?_) (fun c3 => absurd c3 (by decide))
  refine go_iload_4 (DX6_isRead.at 17 rfl) ?_
  refine go_iconst (v := nI 2) (DX6_isRead.at 18 rfl) (by decide) ?_
  refine go_icmp_ne 52 (DX6_isRead.at 19 rfl) (by decide) (fun c33 => absurd rfl c33) (fun c33 => ?_)
  refine go_iload_2 (DX6_isRead.at 20 rfl) ?_
  refine go_aload_0 (DX6_isRead.at 21 rfl) ?_
  refine go_cVx0 (DX6_isRead.at 22 rfl) nX6_47 vX6_dataCells (by omega) (m_dataCells hX) hM.1 rfl (Nat.le_of_ble_eq_true rfl) ?_
  refine go_icmp_ge 48 (DX6_isRead.at 23 rfl) (by decide) (fun c41 => ?_) (fun c41 => ?_)
  · rw [nI_leI (by omega) (by omega)] at c41
    have e0 : bP (bit (2 ^ (aG A * aS A) - 1) o) = nI 0 := bP_f (fun q => by rw [bit_m1] at q; omega)
    refine go_iconst (v := nI 0) (DX6_isRead.at 26 rfl) (by decide) ?_
    refine go_goto 66 (DX6_isRead.at 27 rfl) (by decide) ?_
    exact go_iret (DX6_isRead.at 36 rfl) rfl rfl (RX.mk e0.symm rfl)
  · rw [nI_leI (by omega) (by omega)] at c41
    have e0 : bP (bit (2 ^ (aG A * aS A) - 1) o) = nI 1 := bP_t (bit_m1.mpr (by omega))
    refine go_iconst (v := nI 1) (DX6_isRead.at 24 rfl) (by decide) ?_
    refine go_goto 66 (DX6_isRead.at 25 rfl) (by decide) ?_
    exact go_iret (DX6_isRead.at 36 rfl) rfl rfl (RX.mk e0.symm rfl)

theorem m_isRead3 {t o c : Nat} (ht : t < aT A) (ho : o < nc (aG A) (aS A)) (hX : MX G h b i ρ A) (hd : 2 ≤ d) : Calls E mX6_isRead d 0 0 [.ref b, .int (nI t), .int (nI o), .int (nI c), .int (nI 3)] h (RX (bP (bit (Src3 (nc (aG A) (aS A)) (aM A t)) o)) h) := by
  refine Calls.of (ls := [some (.ref b), some (.int (nI t)), some (.int (nI o)), some (.int (nI c)), some (.int (nI 3))]) (by decide +kernel) rfl (Nat.le_of_ble_eq_true rfl) (cat_ok rfl) ?_
  have hM := hX.1
  have hTb := hX.2.1
  have hR := hX.2.2
  have hA := hR.1
  have hn := hA.1.nc
  have hT8 : aT A ≤ 8 := hA.1.2.2.2.2.2.2.1
  have hg4 : aG A ≤ 4 := hA.1.2.1
  have hs6 : aS A ≤ 6 := hA.1.2.2.2.1
  have hs2 : 2 ≤ aS A := hA.1.2.2.1
  have hg1 : 1 ≤ aG A := hA.1.1
  have hgs : aG A * aS A ≤ 15 := hA.1.2.2.2.2.1
  have hH5 : aH A ≤ 5 := hA.1.2.2.2.2.2.2.2
  have en : nc (aG A) (aS A) = aG A * aS A + aG A + 2 := rfl
  refine go_iload_4 (DX6_isRead.at 0 rfl) ?_
  refine go_iconst (v := nI 1) (DX6_isRead.at 1 rfl) (by decide) ?_
  refine go_icmp_ne 30 (DX6_isRead.at 2 rfl) (by decide) (fun c3 => ?_) (fun c3 => absurd c3 (by decide))
  refine go_iload_4 (DX6_isRead.at 17 rfl) ?_
  refine go_iconst (v := nI 2) (DX6_isRead.at 18 rfl) (by decide) ?_
  refine go_icmp_ne 52 (DX6_isRead.at 19 rfl) (by decide) (fun c33 => ?_) (fun c33 => absurd c33 (by decide))
  refine go_aload_0 (DX6_isRead.at 28 rfl) ?_
  refine go_iload_1 (DX6_isRead.at 29 rfl) ?_
  refine go_iload_2 (DX6_isRead.at 30 rfl) ?_
  refine go_cVx2 (DX6_isRead.at 31 rfl) nX6_65 vX6_isLost (by omega) (m_isLost ht ho hX (by omega)) hM.1 rfl (Nat.le_of_ble_eq_true rfl) ?_
  refine go_if_ne 65 (DX6_isRead.at 32 rfl) (by decide) (fun c58 => ?_) (fun c58 => ?_)
  · rw [bP_eq0, Classical.not_not] at c58
    have e0 : bP (bit (Src3 (nc (aG A) (aS A)) (aM A t)) o) = nI 0 := bP_f (fun q => ((src_bit (by omega)).mp q).2 c58)
    refine go_iconst (v := nI 0) (DX6_isRead.at 35 rfl) (by decide) ?_
    exact go_iret (DX6_isRead.at 36 rfl) rfl rfl (RX.mk e0.symm rfl)
  · rw [bP_eq0] at c58
    have e0 : bP (bit (Src3 (nc (aG A) (aS A)) (aM A t)) o) = nI 1 := bP_t ((src_bit (by omega)).mpr ⟨ho, c58⟩)
    refine go_iconst (v := nI 1) (DX6_isRead.at 33 rfl) (by decide) ?_
    refine go_goto 66 (DX6_isRead.at 34 rfl) (by decide) ?_
    exact go_iret (DX6_isRead.at 36 rfl) rfl rfl (RX.mk e0.symm rfl)

theorem m_isRead {t o c w src X : Nat} (ht : t < aT A) (ho : o < nc (aG A) (aS A)) (hc : c < nc (aG A) (aS A)) (hW : WyX A t c w src X) (hX : MX G h b i ρ A) (hd : 2 ≤ d) : Calls E mX6_isRead d 0 0 [.ref b, .int (nI t), .int (nI o), .int (nI c), .int (nI w)] h (RX (bP (bit src o)) h) := by
  rcases hW with ⟨-, e1, e2, -⟩ | ⟨-, -, e1, e2, -⟩
  · by_cases q : hcv (aG A) (aS A) c < aG A
    · rw [if_pos q] at e1
      subst e1
      subst e2
      exact m_isRead1 ho hc q hX hd
    · rw [if_neg q] at e1
      subst e1
      rw [e2, pmv_d q]
      exact m_isRead2 ho hX hd
  · subst e1
    subst e2
    exact m_isRead3 ht ho hX hd
theorem m_readMany {t c w src X : Nat} (ht : t < aT A) (hc : c < nc (aG A) (aS A)) (hW : WyX A t c w src X) (hX : MX G h b i ρ A) (hd : 3 ≤ d) : Calls E mX6_readMany d 0 0 [.ref b, .int (nI t), .int (nI c), .int (nI w)] h (RX (nI (pcn src 20)) h) := by
  refine Calls.of (ls := [some (.ref b), some (.int (nI t)), some (.int (nI c)), some (.int (nI w)), none, none]) (by decide +kernel) rfl (Nat.le_of_ble_eq_true rfl) (cat_ok rfl) ?_
  have hM := hX.1
  have hTb := hX.2.1
  have hR := hX.2.2
  have hA := hR.1
  have hn := hA.1.nc
  have hT8 : aT A ≤ 8 := hA.1.2.2.2.2.2.2.1
  have hg4 : aG A ≤ 4 := hA.1.2.1
  have hs6 : aS A ≤ 6 := hA.1.2.2.2.1
  have hs2 : 2 ≤ aS A := hA.1.2.2.1
  have hg1 : 1 ≤ aG A := hA.1.1
  have hgs : aG A * aS A ≤ 15 := hA.1.2.2.2.2.1
  have hH5 : aH A ≤ 5 := hA.1.2.2.2.2.2.2.2
  have en : nc (aG A) (aS A) = aG A * aS A + aG A + 2 := rfl
  have loop : ∀ (m j : Nat), j + m = nc (aG A) (aS A) → Go E mX6_readMany d 0 0 6 [some (.ref b), some (.int (nI t)), some (.int (nI c)), some (.int (nI w)), some (.int (nI (pcn src j))), some (.int (nI j))] [] h (RX (nI (pcn src 20)) h) := by
    intro m
    induction m with
    | zero =>
      intro j hj
      obtain rfl : j = nc (aG A) (aS A) := by omega
      refine go_iload_5 (DX6_readMany.at 4 rfl) ?_
      refine go_aload_0 (DX6_readMany.at 5 rfl) ?_
      refine go_cVx0 (DX6_readMany.at 6 rfl) nX6_59 vX6_cells (by omega) (m_cells hX (by omega)) hM.1 rfl (Nat.le_of_ble_eq_true rfl) ?_
      refine go_icmp_ge 43 (DX6_readMany.at 7 rfl) (by decide) (fun c12 => ?_) (fun c12 => absurd (Int32.le_refl _) c12)
      refine go_iload_4 (DX6_readMany.at 23 rfl) ?_
      exact go_iret (DX6_readMany.at 24 rfl) rfl rfl (RX.mk (by rw [pcn_n (src_n hA.1 hW) hn.2]) rfl)
    | succ m ih =>
      intro j hj
      refine go_iload_5 (DX6_readMany.at 4 rfl) ?_
      refine go_aload_0 (DX6_readMany.at 5 rfl) ?_
      refine go_cVx0 (DX6_readMany.at 6 rfl) nX6_59 vX6_cells (by omega) (m_cells hX (by omega)) hM.1 rfl (Nat.le_of_ble_eq_true rfl) ?_
      refine go_icmp_ge 43 (DX6_readMany.at 7 rfl) (by decide) (fun c12 => absurd c12 (nI_ge (by omega) (by omega))) (fun c12 => ?_)
      refine go_iload_4 (DX6_readMany.at 8 rfl) ?_
      refine go_aload_0 (DX6_readMany.at 9 rfl) ?_
      refine go_iload_1 (DX6_readMany.at 10 rfl) ?_
      refine go_iload_5 (DX6_readMany.at 11 rfl) ?_
      refine go_iload_2 (DX6_readMany.at 12 rfl) ?_
      refine go_iload_3 (DX6_readMany.at 13 rfl) ?_
      refine go_cVx4 (DX6_readMany.at 14 rfl) nX6_123 vX6_isRead (by omega) (m_isRead ht (show j < nc (aG A) (aS A) by omega) hc hW hX (by omega)) hM.1 rfl (Nat.le_of_ble_eq_true rfl) ?_
      refine go_if_eq 33 (DX6_readMany.at 15 rfl) (by decide) (fun c26 => ?_) (fun c26 => ?_)
      · rw [bP_eq0] at c26
        have e0 : pcn src (j + 1) = pcn src j + 0 := by
          show pcn src j + src / 2 ^ j % 2 = _
          have c26 : ¬ src / 2 ^ j % 2 = 1 := c26
          omega
        refine go_iconst (v := nI 0) (DX6_readMany.at 18 rfl) (by decide) ?_
        refine go_iadd (DX6_readMany.at 19 rfl) ?_
        rw [nI_add, ← e0]
        refine go_istore_4 (DX6_readMany.at 20 rfl) ?_
        refine go_iincN_5 (DX6_readMany.at 21 rfl) ?_
        refine go_goto 6 (DX6_readMany.at 22 rfl) (by decide) ?_
        exact ih (j + 1) (by omega)
      · rw [bP_eq0, Classical.not_not] at c26
        have e0 : pcn src (j + 1) = pcn src j + 1 := by
          show pcn src j + src / 2 ^ j % 2 = _
          have c26 : src / 2 ^ j % 2 = 1 := c26
          omega
        refine go_iconst (v := nI 1) (DX6_readMany.at 16 rfl) (by decide) ?_
        refine go_goto 34 (DX6_readMany.at 17 rfl) (by decide) ?_
        refine go_iadd (DX6_readMany.at 19 rfl) ?_
        rw [nI_add, ← e0]
        refine go_istore_4 (DX6_readMany.at 20 rfl) ?_
        refine go_iincN_5 (DX6_readMany.at 21 rfl) ?_
        refine go_goto 6 (DX6_readMany.at 22 rfl) (by decide) ?_
        exact ih (j + 1) (by omega)
  refine go_iconst (v := nI 0) (DX6_readMany.at 0 rfl) (by decide) ?_
  rw [show nI 0 = nI (pcn src 0) from rfl]
  refine go_istore_4 (DX6_readMany.at 1 rfl) ?_
  refine go_iconst (v := nI 0) (DX6_readMany.at 2 rfl) (by decide) ?_
  refine go_istore_5 (DX6_readMany.at 3 rfl) ?_
  exact loop (nc (aG A) (aS A)) 0 (Nat.zero_add _)

theorem m_mendedValue1 {t c : Nat} (ht : t < aT A) (hc : c < nc (aG A) (aS A)) (hh : hcv (aG A) (aS A) c < aG A) (h0 : pmv (aG A) (aS A) c &&& aM A t = 0) (hX : MX G h b i ρ A) (hd : 3 ≤ d) : Calls E mX6_mendedValue d 0 0 [.ref b, .int (nI t), .int (nI c), .int (nI 1)] h (RI (fun r h' => ∃ f, MdAt G h' b i (rset ρ 10 f) ∧ r = nI (vsum (colv (aG A) (aS A)) (aV A t) (pmv (aG A) (aS A) c) (nc (aG A) (aS A)) (hcv (aG A) (aS A) c)))) := by
  refine Calls.of (ls := [some (.ref b), some (.int (nI t)), some (.int (nI c)), some (.int (nI 1)), none, none]) (by decide +kernel) rfl (Nat.le_of_ble_eq_true rfl) (cat_ok rfl) ?_
  have hM := hX.1
  have hTb := hX.2.1
  have hR := hX.2.2
  have hA := hR.1
  have hn := hA.1.nc
  have hT8 : aT A ≤ 8 := hA.1.2.2.2.2.2.2.1
  have hg4 : aG A ≤ 4 := hA.1.2.1
  have hs6 : aS A ≤ 6 := hA.1.2.2.2.1
  have hs2 : 2 ≤ aS A := hA.1.2.2.1
  have hg1 : 1 ≤ aG A := hA.1.1
  have hgs : aG A * aS A ≤ 15 := hA.1.2.2.2.2.1
  have hH5 : aH A ≤ 5 := hA.1.2.2.2.2.2.2.2
  have en : nc (aG A) (aS A) = aG A * aS A + aG A + 2 := rfl
  have loop : ∀ (m j : Nat), j + m = nc (aG A) (aS A) → Go E mX6_mendedValue d 0 0 70 [some (.ref b), some (.int (nI t)), some (.int (nI c)), some (.int (nI 1)), some (.int (nI (vsum (colv (aG A) (aS A)) (aV A t) (pmv (aG A) (aS A) c) j (hcv (aG A) (aS A) c)))), some (.int (nI j))] [] h (RI (fun r h' => ∃ f, MdAt G h' b i (rset ρ 10 f) ∧ r = nI (vsum (colv (aG A) (aS A)) (aV A t) (pmv (aG A) (aS A) c) (nc (aG A) (aS A)) (hcv (aG A) (aS A) c)))) := by
    intro m
    induction m with
    | zero =>
      intro j hj
      obtain rfl : j = nc (aG A) (aS A) := by omega
      refine go_iload_5 (DX6_mendedValue.at 43 rfl) ?_
      refine go_aload_0 (DX6_mendedValue.at 44 rfl) ?_
      refine go_cVx0 (DX6_mendedValue.at 45 rfl) nX6_59 vX6_cells (by omega) (m_cells hX (by omega)) hM.1 rfl (Nat.le_of_ble_eq_true rfl) ?_
      refine go_icmp_ge 113 (DX6_mendedValue.at 46 rfl) (by decide) (fun c76 => ?_) (fun c76 => absurd (Int32.le_refl _) c76)
      refine go_iload_4 (DX6_mendedValue.at 65 rfl) ?_
      exact go_iret (DX6_mendedValue.at 66 rfl) rfl rfl (RI.mk ⟨ρ 10, by rw [rset_self]; exact hM, rfl⟩)
    | succ m ih =>
      intro j hj
      refine go_iload_5 (DX6_mendedValue.at 43 rfl) ?_
      refine go_aload_0 (DX6_mendedValue.at 44 rfl) ?_
      refine go_cVx0 (DX6_mendedValue.at 45 rfl) nX6_59 vX6_cells (by omega) (m_cells hX (by omega)) hM.1 rfl (Nat.le_of_ble_eq_true rfl) ?_
      refine go_icmp_ge 113 (DX6_mendedValue.at 46 rfl) (by decide) (fun c76 => absurd c76 (nI_ge (by omega) (by omega))) (fun c76 => ?_)
      refine go_iload_4 (DX6_mendedValue.at 47 rfl) ?_
      refine go_aload_0 (DX6_mendedValue.at 48 rfl) ?_
      refine go_iload_1 (DX6_mendedValue.at 49 rfl) ?_
      refine go_iload_5 (DX6_mendedValue.at 50 rfl) ?_
      refine go_iload_2 (DX6_mendedValue.at 51 rfl) ?_
      refine go_iconst (v := nI 1) (DX6_mendedValue.at 52 rfl) (by decide) ?_
      refine go_cVx4 (DX6_mendedValue.at 53 rfl) nX6_123 vX6_isRead (by omega) (m_isRead1 (show j < nc (aG A) (aS A) by omega) hc hh hX (by omega)) hM.1 rfl (Nat.le_of_ble_eq_true rfl) ?_
      refine go_if_eq 103 (DX6_mendedValue.at 54 rfl) (by decide) (fun c90 => ?_) (fun c90 => ?_)
      · rw [bP_eq0] at c90
        have e0 : vsum (colv (aG A) (aS A)) (aV A t) (pmv (aG A) (aS A) c) (j + 1) (hcv (aG A) (aS A) c) = vsum (colv (aG A) (aS A)) (aV A t) (pmv (aG A) (aS A) c) j (hcv (aG A) (aS A) c) ^^^ 0 := by
          show vsum (colv (aG A) (aS A)) (aV A t) (pmv (aG A) (aS A) c) j (hcv (aG A) (aS A) c) ^^^ (if pmv (aG A) (aS A) c / 2 ^ j % 2 = 1 then gm (colv (aG A) (aS A) j (hcv (aG A) (aS A) c)) (aV A t j) else 0) = _
          rw [if_neg c90]
        refine go_iconst (v := nI 0) (DX6_mendedValue.at 60 rfl) (by decide) ?_
        refine go_ixor (DX6_mendedValue.at 61 rfl) ?_
        rw [nx_xor, ← e0]
        refine go_istore_4 (DX6_mendedValue.at 62 rfl) ?_
        refine go_iincN_5 (DX6_mendedValue.at 63 rfl) ?_
        refine go_goto 70 (DX6_mendedValue.at 64 rfl) (by decide) ?_
        exact ih (j + 1) (by omega)
      · rw [bP_eq0, Classical.not_not] at c90
        have e0 : vsum (colv (aG A) (aS A)) (aV A t) (pmv (aG A) (aS A) c) (j + 1) (hcv (aG A) (aS A) c) = vsum (colv (aG A) (aS A)) (aV A t) (pmv (aG A) (aS A) c) j (hcv (aG A) (aS A) c) ^^^ aV A t j := by
          show vsum (colv (aG A) (aS A)) (aV A t) (pmv (aG A) (aS A) c) j (hcv (aG A) (aS A) c) ^^^ (if pmv (aG A) (aS A) c / 2 ^ j % 2 = 1 then gm (colv (aG A) (aS A) j (hcv (aG A) (aS A) c)) (aV A t j) else 0) = _
          have e1 := ((pmv_bit (by omega) hh (by omega)).mp c90).1
          rw [if_pos c90, ← e1, colv_home hA.1 (by omega), gm_1l (hA.2.2.1 t j)]
        refine go_aload_0 (DX6_mendedValue.at 55 rfl) ?_
        refine go_iload_1 (DX6_mendedValue.at 56 rfl) ?_
        refine go_iload_5 (DX6_mendedValue.at 57 rfl) ?_
        refine go_cVx2 (DX6_mendedValue.at 58 rfl) nX6_62 vX6_cellValue (by omega) (m_cellValue hM (show t < 8 by omega) (show j < 20 by omega)) hM.1 rfl (Nat.le_of_ble_eq_true rfl) ?_
        rw [hR.2.2.2.2.2.2.1 t ht j (by omega) (and_bit h0 c90)]
        refine go_goto 104 (DX6_mendedValue.at 59 rfl) (by decide) ?_
        refine go_ixor (DX6_mendedValue.at 61 rfl) ?_
        rw [nx_xor, ← e0]
        refine go_istore_4 (DX6_mendedValue.at 62 rfl) ?_
        refine go_iincN_5 (DX6_mendedValue.at 63 rfl) ?_
        refine go_goto 70 (DX6_mendedValue.at 64 rfl) (by decide) ?_
        exact ih (j + 1) (by omega)
  refine go_iload_3 (DX6_mendedValue.at 0 rfl) ?_
  refine go_iconst (v := nI 2) (DX6_mendedValue.at 1 rfl) (by decide) ?_
  refine go_icmp_ne 31 (DX6_mendedValue.at 2 rfl) (by decide) (fun c2 => ?_) (fun c2 => absurd c2 (by decide))
  refine go_iload_3 (DX6_mendedValue.at 19 rfl) ?_
  refine go_iconst (v := nI 3) (DX6_mendedValue.at 20 rfl) (by decide) ?_
  refine go_icmp_ne 64 (DX6_mendedValue.at 21 rfl) (by decide) (fun c33 => ?_) (fun c33 => absurd c33 (by decide))
  refine go_iconst (v := nI 0) (DX6_mendedValue.at 39 rfl) (by decide) ?_
  rw [show nI 0 = nI (vsum (colv (aG A) (aS A)) (aV A t) (pmv (aG A) (aS A) c) 0 (hcv (aG A) (aS A) c)) from rfl]
  refine go_istore_4 (DX6_mendedValue.at 40 rfl) ?_
  refine go_iconst (v := nI 0) (DX6_mendedValue.at 41 rfl) (by decide) ?_
  refine go_istore_5 (DX6_mendedValue.at 42 rfl) ?_
  exact loop (nc (aG A) (aS A)) 0 (Nat.zero_add _)

theorem m_mendedValue2 {t c : Nat} (ht : t < aT A) (hc : c < nc (aG A) (aS A)) (hh : ¬ hcv (aG A) (aS A) c < aG A) (h0 : pmv (aG A) (aS A) c &&& aM A t = 0) (hX : MX G h b i ρ A) (hd : 3 ≤ d) : Calls E mX6_mendedValue d 0 0 [.ref b, .int (nI t), .int (nI c), .int (nI 2)] h (RI (fun r h' => ∃ f, MdAt G h' b i (rset ρ 10 f) ∧ r = nI (vsum (colv (aG A) (aS A)) (aV A t) (pmv (aG A) (aS A) c) (nc (aG A) (aS A)) (hcv (aG A) (aS A) c)))) := by
  refine Calls.of (ls := [some (.ref b), some (.int (nI t)), some (.int (nI c)), some (.int (nI 2)), none, none]) (by decide +kernel) rfl (Nat.le_of_ble_eq_true rfl) (cat_ok rfl) ?_
  have hM := hX.1
  have hTb := hX.2.1
  have hR := hX.2.2
  have hA := hR.1
  have hn := hA.1.nc
  have hT8 : aT A ≤ 8 := hA.1.2.2.2.2.2.2.1
  have hg4 : aG A ≤ 4 := hA.1.2.1
  have hs6 : aS A ≤ 6 := hA.1.2.2.2.1
  have hs2 : 2 ≤ aS A := hA.1.2.2.1
  have hg1 : 1 ≤ aG A := hA.1.1
  have hgs : aG A * aS A ≤ 15 := hA.1.2.2.2.2.1
  have hH5 : aH A ≤ 5 := hA.1.2.2.2.2.2.2.2
  have en : nc (aG A) (aS A) = aG A * aS A + aG A + 2 := rfl
  rw [pmv_d hh] at h0 ⊢
  have hnl : ∀ k, k < aG A * aS A → ¬ bit (aM A t) k := fun k hk => and_bit h0 (bit_m1.mpr hk)
  have hd : ¬ c < aG A * aS A := fun q => hh (hcv_ltg q)
  have eh : hcv (aG A) (aS A) c = c - aG A * aS A := if_neg hd
  have hvg : ∀ e, e < 2 → vsum (colv (aG A) (aS A)) (aV A t) (2 ^ (aG A * aS A) - 1) (nc (aG A) (aS A)) (aG A + e) = wsum A t e := fun e he => by
    rw [vsum_glo hA.1 he (hA.2.2.1 t) (fun k hk => bit_m1.mpr hk), if_neg (fun q => by have q2 : bit (2 ^ (aG A * aS A) - 1) (aG A * aS A + (aG A + e)) := q; rw [bit_m1] at q2; omega), Nat.xor_zero]
    rfl
  refine go_iload_3 (DX6_mendedValue.at 0 rfl) ?_
  refine go_iconst (v := nI 2) (DX6_mendedValue.at 1 rfl) (by decide) ?_
  refine go_icmp_ne 31 (DX6_mendedValue.at 2 rfl) (by decide) (fun c2 => absurd rfl c2) (fun c2 => ?_)
  refine go_aload_0 (DX6_mendedValue.at 3 rfl) ?_
  refine go_iload_1 (DX6_mendedValue.at 4 rfl) ?_
  refine go_iload_2 (DX6_mendedValue.at 5 rfl) ?_
  refine go_aload_0 (DX6_mendedValue.at 6 rfl) ?_
  refine go_cVx0 (DX6_mendedValue.at 7 rfl) nX6_47 vX6_dataCells (by omega) (m_dataCells hX) hM.1 rfl (Nat.le_of_ble_eq_true rfl) ?_
  refine go_aload_0 (DX6_mendedValue.at 8 rfl) ?_
  refine go_getfield (DX6_mendedValue.at 9 rfl) fX6_7 hM.1 rfl ?_
  refine go_iconst (v := nI 0) (DX6_mendedValue.at 10 rfl) (by decide) ?_
  refine go_ialdM (DX6_mendedValue.at 11 rfl) (hM.2.1 1 (by decide)) (show 0 < 349 by decide) (by decide) ?_
  rw [show ρ 1 0 = nI (aG A) from hR.2.1.1]
  refine go_iadd (DX6_mendedValue.at 12 rfl) ?_
  rw [nI_add]
  refine go_icmp_ne 26 (DX6_mendedValue.at 13 rfl) (by decide) (fun c19 => ?_) (fun c19 => ?_)
  · rw [nI_eq (by omega) (by omega)] at c19
    have e0 := hvg 1 (by decide)
    rw [show aG A + 1 = hcv (aG A) (aS A) c by omega] at e0
    refine go_iconst (v := nI 0) (DX6_mendedValue.at 16 rfl) (by decide) ?_
    refine go_cVx2 (DX6_mendedValue.at 17 rfl) nX6_87 vX6_weighed (by omega) (m_weighed1 ht hnl hX (by omega)) hM.1 rfl (Nat.le_of_ble_eq_true rfl) ?_
    exact go_iret (DX6_mendedValue.at 18 rfl) rfl rfl (RI.mk ⟨ρ 10, by rw [rset_self]; exact hM, by rw [e0]⟩)
  · rw [nI_eq (by omega) (by omega)] at c19
    have e0 := hvg 0 (by decide)
    rw [show aG A + 0 = hcv (aG A) (aS A) c by omega] at e0
    refine go_iconst (v := nI 1) (DX6_mendedValue.at 14 rfl) (by decide) ?_
    refine go_goto 27 (DX6_mendedValue.at 15 rfl) (by decide) ?_
    refine go_cVx2 (DX6_mendedValue.at 17 rfl) nX6_87 vX6_weighed (by omega) (m_weighed0 ht hnl hX (by omega)) hM.1 rfl (Nat.le_of_ble_eq_true rfl) ?_
    exact go_iret (DX6_mendedValue.at 18 rfl) rfl rfl (RI.mk ⟨ρ 10, by rw [rset_self]; exact hM, by rw [e0]⟩)

theorem m_mendedValue3 {t c src X : Nat} (ht : t < aT A) (hc : c < nc (aG A) (aS A)) (hb : bit (aM A t) c) (hW : WyX A t c 3 src X) (hX : MX G h b i ρ A) (hd : 5 ≤ d) : Calls E mX6_mendedValue d 0 0 [.ref b, .int (nI t), .int (nI c), .int (nI 3)] h (RI (fun r h' => ∃ f, MdAt G h' b i (rset ρ 10 f) ∧ r = nI X)) := by
  refine Calls.of (ls := [some (.ref b), some (.int (nI t)), some (.int (nI c)), some (.int (nI 3)), none, none]) (by decide +kernel) rfl (Nat.le_of_ble_eq_true rfl) (cat_ok rfl) ?_
  have hM := hX.1
  have hTb := hX.2.1
  have hR := hX.2.2
  have hA := hR.1
  have hn := hA.1.nc
  have hT8 : aT A ≤ 8 := hA.1.2.2.2.2.2.2.1
  have hg4 : aG A ≤ 4 := hA.1.2.1
  have hs6 : aS A ≤ 6 := hA.1.2.2.2.1
  have hs2 : 2 ≤ aS A := hA.1.2.2.1
  have hg1 : 1 ≤ aG A := hA.1.1
  have hgs : aG A * aS A ≤ 15 := hA.1.2.2.2.2.1
  have hH5 : aH A ≤ 5 := hA.1.2.2.2.2.2.2.2
  have en : nc (aG A) (aS A) = aG A * aS A + aG A + 2 := rfl
  have hd3 : (∃ l, Dual (colv (aG A) (aS A)) (aM A t) (nc (aG A) (aS A)) c l) ∧ ∀ l, Dual (colv (aG A) (aS A)) (aM A t) (nc (aG A) (aS A)) c l → ev l (vsum (colv (aG A) (aS A)) (aV A t) (Src3 (nc (aG A) (aS A)) (aM A t)) (nc (aG A) (aS A))) = X := by
    rcases hW with ⟨-, e, -⟩ | ⟨-, e1, -, -, -, e2⟩
    · by_cases q : hcv (aG A) (aS A) c < aG A
      · rw [if_pos q] at e
        cases e
      · rw [if_neg q] at e
        cases e
    · exact ⟨e1.1, e2⟩
  refine go_iload_3 (DX6_mendedValue.at 0 rfl) ?_
  refine go_iconst (v := nI 2) (DX6_mendedValue.at 1 rfl) (by decide) ?_
  refine go_icmp_ne 31 (DX6_mendedValue.at 2 rfl) (by decide) (fun c2 => ?_) (fun c2 => absurd c2 (by decide))
  refine go_iload_3 (DX6_mendedValue.at 19 rfl) ?_
  refine go_iconst (v := nI 3) (DX6_mendedValue.at 20 rfl) (by decide) ?_
  refine go_icmp_ne 64 (DX6_mendedValue.at 21 rfl) (by decide) (fun c33 => absurd rfl c33) (fun c33 => ?_)
  refine go_aload_0 (DX6_mendedValue.at 22 rfl) ?_
  refine go_aload_0 (DX6_mendedValue.at 23 rfl) ?_
  refine go_iload_1 (DX6_mendedValue.at 24 rfl) ?_
  refine go_cVx1 (DX6_mendedValue.at 25 rfl) nX6_114 vX6_lostCells (by omega) (m_lostCells ht hX (by omega)) hM.1 rfl (Nat.le_of_ble_eq_true rfl) ?_
  refine go_iload_2 (DX6_mendedValue.at 26 rfl) ?_
  refine go_cVi2 (DX6_mendedValue.at 27 rfl) nX6_111 vX6_tellingPair (by omega) (m_tellingPair (hA.2.1 t ht) hX (by omega)) hM.1 rfl (Nat.le_of_ble_eq_true rfl) (fun x43 h43 q43 => ?_)
  obtain ⟨f, q, q43⟩ := q43
  rcases q43 with ⟨p, F, hp, rfl, hF, hT⟩ | ⟨rfl, hT⟩
  · have hlB : B6 (lfn (aG A) F (p / 16) (p % 16)) := lfn_lt (fun k hk => (hF k hk).1) (by omega) (by omega)
    have hD := (dual_tv hlB hn.2 hc hb).mp hT
    refine go_istore_4 (DX6_mendedValue.at 28 rfl) ?_
    refine go_aload_0 (DX6_mendedValue.at 29 rfl) ?_
    refine go_iload_1 (DX6_mendedValue.at 30 rfl) ?_
    refine go_iload_4 (DX6_mendedValue.at 31 rfl) ?_
    refine go_bipush (v := nI 16) (DX6_mendedValue.at 32 rfl) (by decide) ?_
    refine go_idiv (DX6_mendedValue.at 33 rfl) (by decide) ?_
    rw [pk_div (by omega) (by decide) (by decide)]
    refine go_iload_4 (DX6_mendedValue.at 34 rfl) ?_
    refine go_bipush (v := nI 16) (DX6_mendedValue.at 35 rfl) (by decide) ?_
    refine go_irem (DX6_mendedValue.at 36 rfl) (by decide) ?_
    rw [pk_rem (by omega) (by decide) (by decide)]
    refine go_cVx3 (DX6_mendedValue.at 37 rfl) nX6_108 vX6_sumThere (by omega) (m_sumThere ht (show p / 16 < 16 by omega) (show p % 16 < 16 by omega) hF (hX.row10 q) (by omega)) q.1 rfl (Nat.le_of_ble_eq_true rfl) ?_
    rw [hd3.2 _ hD]
    exact go_iret (DX6_mendedValue.at 38 rfl) rfl rfl (RI.mk ⟨f, q, rfl⟩)
  · obtain ⟨l, hl⟩ := hd3.1
    exact absurd ((dual_tv hl.1 hn.2 hc hb).mpr hl) (hT l hl.1)
  

theorem m_mendedValue {t c w src X : Nat} (ht : t < aT A) (hc : c < nc (aG A) (aS A)) (hb : bit (aM A t) c) (hW : WyX A t c w src X) (hX : MX G h b i ρ A) (hd : 5 ≤ d) : Calls E mX6_mendedValue d 0 0 [.ref b, .int (nI t), .int (nI c), .int (nI w)] h (RI (fun r h' => ∃ f, MdAt G h' b i (rset ρ 10 f) ∧ r = nI X)) := by
  have hW2 := hW
  rcases hW with ⟨h0, e1, -, e3⟩ | ⟨-, -, e1, -⟩
  · by_cases q : hcv (aG A) (aS A) c < aG A
    · rw [if_pos q] at e1
      subst e1
      rw [e3]
      exact m_mendedValue1 ht hc q h0 hX (by omega)
    · rw [if_neg q] at e1
      subst e1
      rw [e3]
      exact m_mendedValue2 ht hc q h0 hX (by omega)
  · subst e1
    exact m_mendedValue3 ht hc hb hW2 hX hd
end M6
