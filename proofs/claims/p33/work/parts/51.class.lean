/-! THE CLASS: every call, told by the store -/
section CL
variable {E : AEnv} {d : Nat} {h h' : List va_E} {b : Nat} {Z : Zt} {G : Nat → Option va_E}
theorem z_write {x y z : Int32} (hZ : CZ G Z h b) (hd : 6 ≤ d) : Calls E mX5_write d 0 0 [.ref b, .int x, .int y, .int z] h (RI (fun r h' => r = (chZ Z (wrF (zA Z) x y z)).1 ∧ CZ G (chZ Z (wrF (zA Z) x y z)).2 h' b)) := by
  refine Calls.of (ls := [some (.ref b), some (.int x), some (.int y), some (.int z)]) (by decide +kernel) rfl (Nat.le_of_ble_eq_true rfl) (cat_ok rfl) ?_
  obtain ⟨B, S, o, X, hC, hN, hT, hk, hs⟩ := hZ
  refine go_aload_0 (DX5_write.at 0 rfl) ?_
  refine go_cVv0 (DX5_write.at 1 rfl) nX5_59 vX5_begin (by omega) (c_begin hC RepS.rc (by omega)) hC.1 rfl (Nat.le_of_ble_eq_true rfl) (fun h1 q1 => ?_)
  refine go_aload_0 (DX5_write.at 2 rfl) ?_
  refine go_aload_0 (DX5_write.at 3 rfl) ?_
  refine go_iload_1 (DX5_write.at 4 rfl) ?_
  refine go_iload_2 (DX5_write.at 5 rfl) ?_
  refine go_iload_3 (DX5_write.at 6 rfl) ?_
  refine go_cVi3 (DX5_write.at 7 rfl) nX5_74 vX5_writeCell (by omega) (c_writeCell q1 (by omega)) q1.1 rfl (Nat.le_of_ble_eq_true rfl) (fun x9 h9 q9 => ?_)
  obtain ⟨e9, hC1⟩ := q9
  subst e9
  by_cases hneg : (wrF (zA Z) x y z).1 < 0
  · refine go_cVi1 (DX5_write.at 8 rfl) nX5_70 vX5_finish (by omega) (c_finishNo hC1 RepS.rc hneg (by omega)) hC1.1 rfl (Nat.le_of_ble_eq_true rfl) (fun x12 h12 q12 => ?_)
    exact go_iret (DX5_write.at 9 rfl) rfl rfl (RI.mk ⟨by rw [chZ_1, q12.1], CZ.no q12.2 hN hT hk hs hneg⟩)
  · refine go_cVi1 (DX5_write.at 8 rfl) nX5_70 vX5_finish (by omega) (c_finishYes hC1 RepS.rc (Int32.not_lt.mp hneg) (by omega)) hC1.1 rfl (Nat.le_of_ble_eq_true rfl) (fun x12 h12 q12 => ?_)
    exact go_iret (DX5_write.at 9 rfl) rfl rfl (RI.mk ⟨by rw [chZ_1, q12.1], CZ.yes q12.2 hN hT hk hs hneg⟩)

theorem z_lose {x y : Int32} (hZ : CZ G Z h b) (hd : 6 ≤ d) : Calls E mX5_lose d 0 0 [.ref b, .int x, .int y] h (RI (fun r h' => r = (chZ Z (loF (zA Z) x y)).1 ∧ CZ G (chZ Z (loF (zA Z) x y)).2 h' b)) := by
  refine Calls.of (ls := [some (.ref b), some (.int x), some (.int y)]) (by decide +kernel) rfl (Nat.le_of_ble_eq_true rfl) (cat_ok rfl) ?_
  obtain ⟨B, S, o, X, hC, hN, hT, hk, hs⟩ := hZ
  refine go_aload_0 (DX5_lose.at 0 rfl) ?_
  refine go_cVv0 (DX5_lose.at 1 rfl) nX5_59 vX5_begin (by omega) (c_begin hC RepS.rc (by omega)) hC.1 rfl (Nat.le_of_ble_eq_true rfl) (fun h1 q1 => ?_)
  refine go_aload_0 (DX5_lose.at 2 rfl) ?_
  refine go_aload_0 (DX5_lose.at 3 rfl) ?_
  refine go_iload_1 (DX5_lose.at 4 rfl) ?_
  refine go_iload_2 (DX5_lose.at 5 rfl) ?_
  refine go_cVi2 (DX5_lose.at 6 rfl) nX5_81 vX5_loseCell (by omega) (c_loseCell q1 (by omega)) q1.1 rfl (Nat.le_of_ble_eq_true rfl) (fun x8 h8 q8 => ?_)
  obtain ⟨e8, hC1⟩ := q8
  subst e8
  by_cases hneg : (loF (zA Z) x y).1 < 0
  · refine go_cVi1 (DX5_lose.at 7 rfl) nX5_70 vX5_finish (by omega) (c_finishNo hC1 RepS.rc hneg (by omega)) hC1.1 rfl (Nat.le_of_ble_eq_true rfl) (fun x11 h11 q11 => ?_)
    exact go_iret (DX5_lose.at 8 rfl) rfl rfl (RI.mk ⟨by rw [chZ_1, q11.1], CZ.no q11.2 hN hT hk hs hneg⟩)
  · refine go_cVi1 (DX5_lose.at 7 rfl) nX5_70 vX5_finish (by omega) (c_finishYes hC1 RepS.rc (Int32.not_lt.mp hneg) (by omega)) hC1.1 rfl (Nat.le_of_ble_eq_true rfl) (fun x11 h11 q11 => ?_)
    exact go_iret (DX5_lose.at 8 rfl) rfl rfl (RI.mk ⟨by rw [chZ_1, q11.1], CZ.yes q11.2 hN hT hk hs hneg⟩)

theorem z_loseNode {x : Int32} (hZ : CZ G Z h b) (hd : 6 ≤ d) : Calls E mX5_loseNode d 0 0 [.ref b, .int x] h (RI (fun r h' => r = (chZ Z (lsF (zA Z) x)).1 ∧ CZ G (chZ Z (lsF (zA Z) x)).2 h' b)) := by
  refine Calls.of (ls := [some (.ref b), some (.int x)]) (by decide +kernel) rfl (Nat.le_of_ble_eq_true rfl) (cat_ok rfl) ?_
  obtain ⟨B, S, o, X, hC, hN, hT, hk, hs⟩ := hZ
  refine go_aload_0 (DX5_loseNode.at 0 rfl) ?_
  refine go_cVv0 (DX5_loseNode.at 1 rfl) nX5_59 vX5_begin (by omega) (c_begin hC RepS.rc (by omega)) hC.1 rfl (Nat.le_of_ble_eq_true rfl) (fun h1 q1 => ?_)
  refine go_aload_0 (DX5_loseNode.at 2 rfl) ?_
  refine go_aload_0 (DX5_loseNode.at 3 rfl) ?_
  refine go_iload_1 (DX5_loseNode.at 4 rfl) ?_
  refine go_cVi1 (DX5_loseNode.at 5 rfl) nX5_85 vX5_loseCellsOn (by omega) (c_loseCellsOn q1 (by omega)) q1.1 rfl (Nat.le_of_ble_eq_true rfl) (fun x7 h7 q7 => ?_)
  obtain ⟨e7, hC1⟩ := q7
  subst e7
  by_cases hneg : (lsF (zA Z) x).1 < 0
  · refine go_cVi1 (DX5_loseNode.at 6 rfl) nX5_70 vX5_finish (by omega) (c_finishNo hC1 RepS.rc hneg (by omega)) hC1.1 rfl (Nat.le_of_ble_eq_true rfl) (fun x10 h10 q10 => ?_)
    exact go_iret (DX5_loseNode.at 7 rfl) rfl rfl (RI.mk ⟨by rw [chZ_1, q10.1], CZ.no q10.2 hN hT hk hs hneg⟩)
  · refine go_cVi1 (DX5_loseNode.at 6 rfl) nX5_70 vX5_finish (by omega) (c_finishYes hC1 RepS.rc (Int32.not_lt.mp hneg) (by omega)) hC1.1 rfl (Nat.le_of_ble_eq_true rfl) (fun x10 h10 q10 => ?_)
    exact go_iret (DX5_loseNode.at 7 rfl) rfl rfl (RI.mk ⟨by rw [chZ_1, q10.1], CZ.yes q10.2 hN hT hk hs hneg⟩)

theorem z_mend {x y : Int32} (hZ : CZ G Z h b) (hd : 7 ≤ d) : Calls E mX5_mend d 0 0 [.ref b, .int x, .int y] h (RI (fun r h' => r = (chZ Z (mdF (zA Z) x y)).1 ∧ CZ G (chZ Z (mdF (zA Z) x y)).2 h' b)) := by
  refine Calls.of (ls := [some (.ref b), some (.int x), some (.int y)]) (by decide +kernel) rfl (Nat.le_of_ble_eq_true rfl) (cat_ok rfl) ?_
  obtain ⟨B, S, o, X, hC, hN, hT, hk, hs⟩ := hZ
  refine go_aload_0 (DX5_mend.at 0 rfl) ?_
  refine go_cVv0 (DX5_mend.at 1 rfl) nX5_59 vX5_begin (by omega) (c_begin hC RepS.rc (by omega)) hC.1 rfl (Nat.le_of_ble_eq_true rfl) (fun h1 q1 => ?_)
  refine go_aload_0 (DX5_mend.at 2 rfl) ?_
  refine go_aload_0 (DX5_mend.at 3 rfl) ?_
  refine go_iload_1 (DX5_mend.at 4 rfl) ?_
  refine go_iload_2 (DX5_mend.at 5 rfl) ?_
  refine go_cVi2 (DX5_mend.at 6 rfl) nX5_88 vX5_mendCell (by omega) (c_mendCell q1 (by omega)) q1.1 rfl (Nat.le_of_ble_eq_true rfl) (fun x8 h8 q8 => ?_)
  obtain ⟨e8, hC1⟩ := q8
  subst e8
  by_cases hneg : (mdF (zA Z) x y).1 < 0
  · refine go_cVi1 (DX5_mend.at 7 rfl) nX5_70 vX5_finish (by omega) (c_finishNo hC1 RepS.rc hneg (by omega)) hC1.1 rfl (Nat.le_of_ble_eq_true rfl) (fun x11 h11 q11 => ?_)
    exact go_iret (DX5_mend.at 8 rfl) rfl rfl (RI.mk ⟨by rw [chZ_1, q11.1], CZ.no q11.2 hN hT hk hs hneg⟩)
  · refine go_cVi1 (DX5_mend.at 7 rfl) nX5_70 vX5_finish (by omega) (c_finishYes hC1 RepS.rc (Int32.not_lt.mp hneg) (by omega)) hC1.1 rfl (Nat.le_of_ble_eq_true rfl) (fun x11 h11 q11 => ?_)
    exact go_iret (DX5_mend.at 8 rfl) rfl rfl (RI.mk ⟨by rw [chZ_1, q11.1], CZ.yes q11.2 hN hT hk hs hneg⟩)

theorem z_mendNode {x : Int32} (hZ : CZ G Z h b) (hd : 8 ≤ d) : Calls E mX5_mendNode d 0 0 [.ref b, .int x] h (RI (fun r h' => r = (chZ Z (mnF (zA Z) x)).1 ∧ CZ G (chZ Z (mnF (zA Z) x)).2 h' b)) := by
  refine Calls.of (ls := [some (.ref b), some (.int x)]) (by decide +kernel) rfl (Nat.le_of_ble_eq_true rfl) (cat_ok rfl) ?_
  obtain ⟨B, S, o, X, hC, hN, hT, hk, hs⟩ := hZ
  refine go_aload_0 (DX5_mendNode.at 0 rfl) ?_
  refine go_cVv0 (DX5_mendNode.at 1 rfl) nX5_59 vX5_begin (by omega) (c_begin hC RepS.rc (by omega)) hC.1 rfl (Nat.le_of_ble_eq_true rfl) (fun h1 q1 => ?_)
  refine go_aload_0 (DX5_mendNode.at 2 rfl) ?_
  refine go_aload_0 (DX5_mendNode.at 3 rfl) ?_
  refine go_iload_1 (DX5_mendNode.at 4 rfl) ?_
  refine go_cVi1 (DX5_mendNode.at 5 rfl) nX5_91 vX5_mendCellsOn (by omega) (c_mendCellsOn q1 (by omega)) q1.1 rfl (Nat.le_of_ble_eq_true rfl) (fun x7 h7 q7 => ?_)
  obtain ⟨e7, N1, hC1, hN1⟩ := q7
  subst e7
  by_cases hneg : (mnF (zA Z) x).1 < 0
  · refine go_cVi1 (DX5_mendNode.at 6 rfl) nX5_70 vX5_finish (by omega) (c_finishNo hC1 RepS.rc hneg (by omega)) hC1.1 rfl (Nat.le_of_ble_eq_true rfl) (fun x10 h10 q10 => ?_)
    exact go_iret (DX5_mendNode.at 7 rfl) rfl rfl (RI.mk ⟨by rw [chZ_1, q10.1], CZ.no q10.2 hN hT hk hs hneg⟩)
  · rw [hN1 (Int32.not_lt.mp hneg)] at hC1
    refine go_cVi1 (DX5_mendNode.at 6 rfl) nX5_70 vX5_finish (by omega) (c_finishYes hC1 RepS.rc (Int32.not_lt.mp hneg) (by omega)) hC1.1 rfl (Nat.le_of_ble_eq_true rfl) (fun x10 h10 q10 => ?_)
    exact go_iret (DX5_mendNode.at 7 rfl) rfl rfl (RI.mk ⟨by rw [chZ_1, q10.1], CZ.yes q10.2 hN hT hk hs hneg⟩)

theorem z_work {x : Int32} (hZ : CZ G Z h b) (hd : 8 ≤ d) : Calls E mX5_work d 0 0 [.ref b, .int x] h (RI (fun r h' => r = (chZ Z (wkF (zA Z) x)).1 ∧ CZ G (chZ Z (wkF (zA Z) x)).2 h' b)) := by
  refine Calls.of (ls := [some (.ref b), some (.int x)]) (by decide +kernel) rfl (Nat.le_of_ble_eq_true rfl) (cat_ok rfl) ?_
  obtain ⟨B, S, o, X, hC, hN, hT, hk, hs⟩ := hZ
  refine go_aload_0 (DX5_work.at 0 rfl) ?_
  refine go_cVv0 (DX5_work.at 1 rfl) nX5_59 vX5_begin (by omega) (c_begin hC RepS.rc (by omega)) hC.1 rfl (Nat.le_of_ble_eq_true rfl) (fun h1 q1 => ?_)
  refine go_aload_0 (DX5_work.at 2 rfl) ?_
  refine go_aload_0 (DX5_work.at 3 rfl) ?_
  refine go_iload_1 (DX5_work.at 4 rfl) ?_
  refine go_cVi1 (DX5_work.at 5 rfl) nX5_94 vX5_workOnQueue (by omega) (c_workOnQueue q1 (by omega)) q1.1 rfl (Nat.le_of_ble_eq_true rfl) (fun x7 h7 q7 => ?_)
  obtain ⟨e7, hC1⟩ := q7
  subst e7
  by_cases hneg : (wkF (zA Z) x).1 < 0
  · refine go_cVi1 (DX5_work.at 6 rfl) nX5_70 vX5_finish (by omega) (c_finishNo hC1 RepS.rc hneg (by omega)) hC1.1 rfl (Nat.le_of_ble_eq_true rfl) (fun x10 h10 q10 => ?_)
    exact go_iret (DX5_work.at 7 rfl) rfl rfl (RI.mk ⟨by rw [chZ_1, q10.1], CZ.no q10.2 hN hT hk hs hneg⟩)
  · refine go_cVi1 (DX5_work.at 6 rfl) nX5_70 vX5_finish (by omega) (c_finishYes hC1 RepS.rc (Int32.not_lt.mp hneg) (by omega)) hC1.1 rfl (Nat.le_of_ble_eq_true rfl) (fun x10 h10 q10 => ?_)
    exact go_iret (DX5_work.at 7 rfl) rfl rfl (RI.mk ⟨by rw [chZ_1, q10.1], CZ.yes q10.2 hN hT hk hs hneg⟩)

theorem z_busiest (hZ : CZ G Z h b) (hd : 2 ≤ d) : Calls E mX5_busiest d 0 0 [.ref b] h (RI (fun r h' => r = bzF (zA Z) ∧ CZ G Z h' b)) := by
  refine Calls.of (ls := [some (.ref b), none, none, none]) (by decide +kernel) rfl (Nat.le_of_ble_eq_true rfl) (cat_ok rfl) ?_
  have key : Go E mX5_busiest d 0 0 0 [some (.ref b), none, none, none] [] h (RX (bzF (zA Z)) h) := by
    obtain ⟨B, S, o, X, hC, -⟩ := hZ
    generalize zA Z = A at hC ⊢
    obtain ⟨σ, hS, hR⟩ := hC.2.2.1
    have hL := hR.2.1
    have hLd := hR.2.2.2.2.2.2.2.1
    have hn20 := hR.1.1.nc
    have loop : ∀ (m j : Nat), j + m = nc (aG A) (aS A) → Go E mX5_busiest d 0 0 7 [some (.ref b), some (.int (bzG (aL A) j).1), some (.int (bzG (aL A) j).2), some (.int (nI j))] [] h (RX (bzF A) h) := by
      intro m
      induction m with
      | zero =>
        intro j hj
        obtain rfl : j = nc (aG A) (aS A) := by omega
        refine go_iload_3 (DX5_busiest.at 6 rfl) ?_
        refine go_aload_0 (DX5_busiest.at 7 rfl) ?_
        refine go_getfield (DX5_busiest.at 8 rfl) fX5_10 hC.1 rfl ?_
        refine go_cVx0 (DX5_busiest.at 9 rfl) nX5_66 vX4_cellCount (by omega) (c_cellCount hS hL) hS.1 rfl (Nat.le_of_ble_eq_true rfl) ?_
        refine go_icmp_ge 53 (DX5_busiest.at 10 rfl) (by decide) (fun c15 => ?_) (fun c15 => absurd (Int32.le_refl _) c15)
        refine go_iload_1 (DX5_busiest.at 28 rfl) ?_
        exact go_iret (DX5_busiest.at 29 rfl) rfl rfl (RX.mk rfl rfl)
      | succ m ih =>
        intro j hj
        refine go_iload_3 (DX5_busiest.at 6 rfl) ?_
        refine go_aload_0 (DX5_busiest.at 7 rfl) ?_
        refine go_getfield (DX5_busiest.at 8 rfl) fX5_10 hC.1 rfl ?_
        refine go_cVx0 (DX5_busiest.at 9 rfl) nX5_66 vX4_cellCount (by omega) (c_cellCount hS hL) hS.1 rfl (Nat.le_of_ble_eq_true rfl) ?_
        refine go_icmp_ge 53 (DX5_busiest.at 10 rfl) (by decide) (fun c15 => absurd ((nI_leI (by omega) (by omega)).mp c15) (by omega)) (fun c15 => ?_)
        refine go_aload_0 (DX5_busiest.at 11 rfl) ?_
        refine go_getfield (DX5_busiest.at 12 rfl) fX5_10 hC.1 rfl ?_
        refine go_getfield (DX5_busiest.at 13 rfl) fX5_151 hS.1 rfl ?_
        refine go_iload_3 (DX5_busiest.at 14 rfl) ?_
        refine go_cSx2 (DX5_busiest.at 15 rfl) nX5_155 vX5_at (by omega) (c_at (Or.inl hS.2.2.2.2.1) (show j < 20 by omega) (by decide)) (Nat.le_of_ble_eq_true rfl) ?_
        rw [hLd j (by omega)]
        refine go_iload_2 (DX5_busiest.at 16 rfl) ?_
        refine go_icmp_le 47 (DX5_busiest.at 17 rfl) (by decide) (fun c30 => ?_) (fun c30 => ?_)
        · refine go_iincN_3 (DX5_busiest.at 26 rfl) ?_
          refine go_goto 7 (DX5_busiest.at 27 rfl) (by decide) ?_
          have K := ih (j + 1) (by omega)
          first | (rw [show bzG (aL A) (j + 1) = (nI j, aL A j) from if_pos (Int32.not_le.mp c30)] at K; exact K) | (rw [show bzG (aL A) (j + 1) = bzG (aL A) j from if_neg (Int32.not_lt.mpr c30)] at K; exact K)
        · refine go_aload_0 (DX5_busiest.at 18 rfl) ?_
          refine go_getfield (DX5_busiest.at 19 rfl) fX5_10 hC.1 rfl ?_
          refine go_getfield (DX5_busiest.at 20 rfl) fX5_151 hS.1 rfl ?_
          refine go_iload_3 (DX5_busiest.at 21 rfl) ?_
          refine go_cSx2 (DX5_busiest.at 22 rfl) nX5_155 vX5_at (by omega) (c_at (Or.inl hS.2.2.2.2.1) (show j < 20 by omega) (by decide)) (Nat.le_of_ble_eq_true rfl) ?_
          rw [hLd j (by omega)]
          refine go_istore_2 (DX5_busiest.at 23 rfl) ?_
          refine go_iload_3 (DX5_busiest.at 24 rfl) ?_
          refine go_istore_1 (DX5_busiest.at 25 rfl) ?_
          refine go_iincN_3 (DX5_busiest.at 26 rfl) ?_
          refine go_goto 7 (DX5_busiest.at 27 rfl) (by decide) ?_
          have K := ih (j + 1) (by omega)
          first | (rw [show bzG (aL A) (j + 1) = (nI j, aL A j) from if_pos (Int32.not_le.mp c30)] at K; exact K) | (rw [show bzG (aL A) (j + 1) = bzG (aL A) j from if_neg (Int32.not_lt.mpr c30)] at K; exact K)
    refine go_bipush (v := (-5)) (DX5_busiest.at 0 rfl) (by decide) ?_
    refine go_istore_1 (DX5_busiest.at 1 rfl) ?_
    refine go_iconst (v := nI 0) (DX5_busiest.at 2 rfl) (by decide) ?_
    refine go_istore_2 (DX5_busiest.at 3 rfl) ?_
    refine go_iconst (v := nI 0) (DX5_busiest.at 4 rfl) (by decide) ?_
    refine go_istore_3 (DX5_busiest.at 5 rfl) ?_
    exact loop _ 0 (Nat.zero_add _)
  refine key.weaken ?_
  rintro r h1 ⟨rfl, rfl⟩
  exact RI.mk ⟨rfl, hZ⟩

end CL
section CQ
variable {E : AEnv} {d : Nat} {h h' : List va_E} {b : Nat} {Z : Zt} {G : Nat → Option va_E} {x y z w : Int32}
theorem RepS.hM {A : Ab} {σ : Rows} (hR : RepS A σ) : ∀ t, t < aT A → σ 3 t = nI (aM A t) ∧ aM A t < 2 ^ 20 := fun t ht => ⟨hR.2.2.2.1 t ht, hR.1.m20 ht⟩
theorem RepS.hV {A : Ab} {σ : Rows} (hR : RepS A σ) : ∀ t, t < aT A → ∀ c, c < nc (aG A) (aS A) → ¬ bit (aM A t) c → σ 2 (t * 20 + c) = nI (aV A t c) ∧ aV A t c < 16 := fun t ht c hc hb => ⟨hR.2.2.2.2.1 t ht c hc hb, hR.1.2.2.1 t c⟩
theorem RepS.hV0 {A : Ab} {σ : Rows} (hR : RepS A σ) : ∀ t, t < aT A → aM A t = 0 → ∀ c, c < nc (aG A) (aS A) → σ 2 (t * 20 + c) = nI (aV A t c) ∧ aV A t c < 16 := fun t ht h0 c hc => hR.hV t ht c hc (by rw [h0]; exact nbit0 c)
theorem z_value (hZ : CZ G Z h b) (hd : 3 ≤ d) : Calls E mX5_value d 0 0 [.ref b, .int x, .int y] h (RI (fun r h' => r = vaF (zA Z) x y ∧ CZ G Z h' b)) := by
  have hZ2 := hZ
  obtain ⟨B, S, o, X, hC, hN, hT, hk, hs⟩ := hZ
  obtain ⟨σ, hS, hR⟩ := hC.2.2.1
  refine (c_value hC hS hR.2.1 hR.hM hd).weaken ?_
  rintro r h1 ⟨v, rfl, rfl, q⟩
  refine RI.mk ⟨?_, hZ2⟩
  rcases q with ⟨q, rfl⟩ | ⟨t, c, ht, hc, rfl, rfl, ⟨q, rfl⟩ | ⟨q, rfl⟩⟩
  · exact (ceQ_out q).symm
  · unfold vaF
    rw [ceQ_in hR.1 ht hc, cI_t q]
  · unfold vaF
    rw [ceQ_in hR.1 ht hc, cI_f q]
    exact (hR.hV t ht c hc q).1
theorem z_node (hZ : CZ G Z h b) (hd : 3 ≤ d) : Calls E mX5_node d 0 0 [.ref b, .int x, .int y] h (RI (fun r h' => r = noF (zA Z) x y ∧ CZ G Z h' b)) := by
  have hZ2 := hZ
  obtain ⟨B, S, o, X, hC, hN, hT, hk, hs⟩ := hZ
  obtain ⟨σ, hS, hR⟩ := hC.2.2.1
  refine (c_node hC hS hR.2.1 hd).weaken ?_
  rintro r h1 ⟨v, rfl, rfl, q⟩
  refine RI.mk ⟨?_, hZ2⟩
  rcases q with ⟨q, rfl⟩ | ⟨t, c, ht, hc, rfl, rfl, rfl⟩
  · exact (ceQ_out q).symm
  · unfold noF
    rw [ceQ_in hR.1 ht hc]
theorem z_load (hZ : CZ G Z h b) (hd : 3 ≤ d) : Calls E mX5_load d 0 0 [.ref b, .int x] h (RI (fun r h' => r = ldF (zA Z) x ∧ CZ G Z h' b)) := by
  have hZ2 := hZ
  obtain ⟨B, S, o, X, hC, hN, hT, hk, hs⟩ := hZ
  obtain ⟨σ, hS, hR⟩ := hC.2.2.1
  refine (c_load hC hS hR.2.1 hd).weaken ?_
  rintro r h1 ⟨v, rfl, rfl, q⟩
  refine RI.mk ⟨?_, hZ2⟩
  rcases q with ⟨q, rfl⟩ | ⟨c, hc, rfl, rfl⟩
  · exact (ndQ_out q).symm
  · unfold ldF
    rw [ndQ_in hR.1 hc]
    exact hR.2.2.2.2.2.2.2.1 c (Nat.lt_of_lt_of_le hc hR.1.1.nc.2)
theorem z_lost (hZ : CZ G Z h b) (hd : 3 ≤ d) : Calls E mX5_lost d 0 0 [.ref b, .int x] h (RI (fun r h' => r = ltF (zA Z) x ∧ CZ G Z h' b)) := by
  have hZ2 := hZ
  obtain ⟨B, S, o, X, hC, hN, hT, hk, hs⟩ := hZ
  obtain ⟨σ, hS, hR⟩ := hC.2.2.1
  refine (c_lost hC hS hR.2.1 hd).weaken ?_
  rintro r h1 ⟨v, rfl, rfl, q⟩
  refine RI.mk ⟨?_, hZ2⟩
  rcases q with ⟨q, rfl⟩ | ⟨t, ht, rfl, rfl⟩
  · exact (stQ_out q).symm
  · unfold ltF
    rw [stQ_in hR.1 ht]
    exact (hR.hM t ht).1
theorem z_waiting (hZ : CZ G Z h b) (hd : 1 ≤ d) : Calls E mX5_waiting d 0 0 [.ref b, .int x] h (RI (fun r h' => r = waF (zA Z) x ∧ CZ G Z h' b)) := by
  have hZ2 := hZ
  obtain ⟨B, S, o, X, hC, hN, hT, hk, hs⟩ := hZ
  obtain ⟨σ, hS, hR⟩ := hC.2.2.1
  refine (c_waiting hC hS hR.2.2.2.2.2.1 hR.1.q160 hd).weaken ?_
  rintro r h1 ⟨v, rfl, rfl, q⟩
  refine RI.mk ⟨?_, hZ2⟩
  have h160 := hR.1.q160
  unfold waF
  rcases q with ⟨q, rfl⟩ | ⟨j, hj, rfl, rfl⟩ | ⟨q, q2, rfl⟩
  · exact (cI_t q).symm
  · rw [cI_f (nI_pos (by omega)), nI_cl (by omega), List.getElem?_eq_getElem hj]
    exact hR.2.2.2.2.2.2.1 j _ (List.getElem?_eq_getElem hj)
  · rw [cI_f (Int32.not_lt.mpr q)]
    obtain ⟨k, hk, rfl⟩ := nI_of (Int32.not_lt.mpr q)
    rw [inR_nI hk (by omega)] at q2
    rw [nI_cl hk, List.getElem?_eq_none (Nat.le_of_not_lt q2)]
theorem z_failing (hZ : CZ G Z h b) (hd : 4 ≤ d) : Calls E mX5_failing d 0 0 [.ref b, .int x] h (RI (fun r h' => r = faF (zA Z) x ∧ CZ G Z h' b)) := by
  have hZ2 := hZ
  obtain ⟨B, S, o, X, hC, hN, hT, hk, hs⟩ := hZ
  obtain ⟨σ, hS, hR⟩ := hC.2.2.1
  refine (c_failing hC hS hR.2.1 hR.2.2.1 hR.hM hR.hV0 hd).weaken ?_
  rintro r h1 ⟨v, rfl, rfl, q⟩
  refine RI.mk ⟨?_, hZ2⟩
  rcases q with ⟨q, rfl⟩ | ⟨t, ht, rfl, ⟨q, rfl⟩ | ⟨q, rfl⟩⟩
  · exact (stQ_out q).symm
  · unfold faF
    rw [stQ_in hR.1 ht, cI_f q]
  · unfold faF
    rw [stQ_in hR.1 ht, cI_t q]
    rfl
theorem Asked.as {A : Ab} (hA : AOK A) {f : Nat → Nat → Nat → Int32} {u r : Int32} (q : Asked (colv (aG A) (aS A)) (aV A) (aM A) (aG A) (aS A) (aT A) x y f u r) : r = asF A x y f u := by
  unfold asF
  rcases q with ⟨q, rfl⟩ | ⟨t, c, ht, hc, rfl, rfl, ⟨q, rfl⟩ | ⟨q, ⟨w, sc, X, hW, rfl⟩ | ⟨hW, rfl⟩⟩⟩
  · exact (ceQ_out q).symm
  · rw [ceQ_in hA ht hc, cI_f q]
  · rw [ceQ_in hA ht hc, cI_t q, wyF_s hW]
  · rw [ceQ_in hA ht hc, cI_t q, wyF_n hW]
theorem z_way (hZ : CZ G Z h b) (hd : 5 ≤ d) : Calls E mX5_way d 0 0 [.ref b, .int x, .int y] h (RI (fun r h' => r = asF (zA Z) x y (fun w _ _ => nI w) 0 ∧ CZ G Z h' b)) := by
  obtain ⟨B, S, o, X, hC, hN, hT, hk, hs⟩ := hZ
  obtain ⟨σ, hS, hR⟩ := hC.2.2.1
  refine (c_way hC hS hR.2.1 hR.2.2.1 hR.hM hR.hV hd).weaken ?_
  rintro r h1 ⟨v, rfl, hC2, q⟩
  exact RI.mk ⟨Asked.as hR.1 q, B, S, o, X, hC2, hN, hT, hk, hs⟩
theorem z_reads (hZ : CZ G Z h b) (hd : 5 ≤ d) : Calls E mX5_reads d 0 0 [.ref b, .int x, .int y] h (RI (fun r h' => r = asF (zA Z) x y (fun _ s _ => nI (pcn s 20)) (-4) ∧ CZ G Z h' b)) := by
  obtain ⟨B, S, o, X, hC, hN, hT, hk, hs⟩ := hZ
  obtain ⟨σ, hS, hR⟩ := hC.2.2.1
  refine (c_reads hC hS hR.2.1 hR.2.2.1 hR.hM hR.hV hd).weaken ?_
  rintro r h1 ⟨v, rfl, hC2, q⟩
  exact RI.mk ⟨Asked.as hR.1 q, B, S, o, X, hC2, hN, hT, hk, hs⟩
theorem z_mended (hZ : CZ G Z h b) (hd : 5 ≤ d) : Calls E mX5_mended d 0 0 [.ref b, .int x, .int y] h (RI (fun r h' => r = asF (zA Z) x y (fun _ _ v => nI v) (-4) ∧ CZ G Z h' b)) := by
  obtain ⟨B, S, o, X, hC, hN, hT, hk, hs⟩ := hZ
  obtain ⟨σ, hS, hR⟩ := hC.2.2.1
  refine (c_mended hC hS hR.2.1 hR.2.2.1 hR.hM hR.hV hd).weaken ?_
  rintro r h1 ⟨v, rfl, hC2, q⟩
  exact RI.mk ⟨Asked.as hR.1 q, B, S, o, X, hC2, hN, hT, hk, hs⟩
theorem z_culprit (hZ : CZ G Z h b) (hd : 4 ≤ d) : Calls E mX5_culprit d 0 0 [.ref b, .int x] h (RI (fun r h' => r = cuF (zA Z) x ∧ CZ G Z h' b)) := by
  have hZ2 := hZ
  obtain ⟨B, S, o, X, hC, hN, hT, hk, hs⟩ := hZ
  obtain ⟨σ, hS, hR⟩ := hC.2.2.1
  refine (c_culprit hC hS hR.2.1 hR.2.2.1 hR.hM hR.hV0 hd).weaken ?_
  rintro r h1 ⟨v, rfl, rfl, q⟩
  refine RI.mk ⟨?_, hZ2⟩
  rcases q with ⟨q, rfl⟩ | ⟨t, ht, rfl, ⟨q, rfl⟩ | ⟨q, ⟨c, hc, rfl, hcu, hcm⟩ | ⟨rfl, hno⟩⟩⟩
  · exact (stQ_out q).symm
  · unfold cuF
    rw [stQ_in hR.1 ht, cI_f q]
  · unfold cuF
    rw [stQ_in hR.1 ht, cI_t q, cpF_s hc hcu hcm]
  · unfold cuF cpF
    rw [stQ_in hR.1 ht, cI_t q, cpG_n _ hno]
theorem z_survives (hZ : CZ G Z h b) (hd : 4 ≤ d) : Calls E mX5_survives d 0 0 [.ref b, .int x] h (RI (fun r h' => r = svF (zA Z) x ∧ CZ G Z h' b)) := by
  have hZ2 := hZ
  obtain ⟨B, S, o, X, hC, hN, hT, hk, hs⟩ := hZ
  obtain ⟨σ, hS, hR⟩ := hC.2.2.1
  refine (c_survives hC hS hR.2.1 hR.2.2.1 hd).weaken ?_
  rintro r h1 ⟨v, rfl, q⟩
  have hp := p20 hR.1.1.nc.2
  rcases q with ⟨q, rfl, rfl⟩ | ⟨M, hM, rfl, rfl, hC2⟩
  · exact RI.mk ⟨(cI_f q).symm, hZ2⟩
  · refine RI.mk ⟨?_, B, S, o, X, hC2, hN, hT, hk, hs⟩
    unfold svF
    rw [cI_t ((inR_nI (by omega) (by omega)).mpr hM), nI_cl (by omega)]
theorem z_total (hZ : CZ G Z h b) (hd : 2 ≤ d) : Calls E mX5_total d 0 0 [.ref b, .int x] h (RI (fun r h' => r = toF Z x ∧ CZ G Z h' b)) := by
  have hZ2 := hZ
  obtain ⟨B, S, o, X, hC, hN, hT, hk, hs⟩ := hZ
  obtain ⟨σ, hS, hR⟩ := hC.2.2.1
  by_cases q : inR x 12
  · obtain ⟨j, hj, rfl⟩ := inR_ex (by decide) q
    refine (c_total hj hC hS hR.2.1 hd).weaken ?_
    rintro r h1 ⟨rfl, rfl⟩
    refine RI.mk ⟨?_, hZ2⟩
    unfold toF
    rw [cI_t q, nI_cl (by omega)]
    obtain ⟨hA, hL, hX, hM, hV, hql, hQ, hLd, hK⟩ := hR
    rcases (show j = 0 ∨ j = 1 ∨ j = 2 ∨ j = 3 ∨ j = 4 ∨ j = 5 ∨ j = 6 ∨ j = 7 ∨ j = 8 ∨ j = 9 ∨ j = 10 ∨ j = 11 by omega) with rfl | rfl | rfl | rfl | rfl | rfl | rfl | rfl | rfl | rfl | rfl | rfl
    · exact hL.1
    · exact hL.2.1
    · exact hL.2.2.1
    · exact hL.2.2.2.1
    · rfl
    · exact hql
    · exact hK 0 (by decide)
    · exact hK 1 (by decide)
    · exact hK 2 (by decide)
    · exact hK 3 (by decide)
    · rfl
    · exact hN
  · refine (c_totalOut q).weaken ?_
    rintro r h1 ⟨rfl, rfl⟩
    exact RI.mk ⟨(cI_f q).symm, hZ2⟩
theorem z_setLayout (hZ : CZ G Z h b) (hd : 6 ≤ d) : Calls E mX5_setLayout d 0 0 [.ref b, .int x, .int y, .int z, .int w] h (RI (fun r h' => r = (chZ Z (slF (zA Z) x y z w)).1 ∧ CZ G (chZ Z (slF (zA Z) x y z w)).2 h' b)) := by
  have hZ2 := hZ
  obtain ⟨B, S, o, X, hC, hN, hT, hk, hs⟩ := hZ
  refine (c_setLayout hC RepS.rc hd).weaken ?_
  rintro r h1 ⟨v, rfl, ⟨q, rfl, rfl⟩ | ⟨g, s, T, sh, rfl, rfl, rfl, rfl, hL, rfl, hC2⟩⟩
  · have e : slF (zA Z) x y z w = (-2, zA Z) := slF_out (fun ⟨g, s, T, sh, e1, e2, e3, e4, l1, l2, l3, l4, l5, l6, l7, l8⟩ => q (by
      rw [e1, e2, e3, e4]
      refine ⟨⟨nI_le l1 (by omega), nI_le l2 (by omega)⟩, ⟨nI_le l3 (by omega), nI_le l4 (by omega)⟩, ?_, ⟨nI_le l6 (by omega), nI_le l7 (by omega)⟩, nI_le (Nat.zero_le _) (by omega), nI_le l8 (by omega)⟩
      rw [pk_mul, nI_ltI (by omega) (by omega)]
      omega))
    rw [e, chZ_no (R := (-2, zA Z)) (show (-2 : Int32) < 0 by decide)]
    exact RI.mk ⟨rfl, hZ2⟩
  · have hn := hL.nc
    rw [slF_in hL]
    obtain ⟨q0, qn, ⟨σ, s1, w1⟩, q2⟩ := hC2
    exact RI.mk ⟨by rw [chZ_1], CZ.yes (R := (nI (nc g s), aNew (zA Z) g s T sh)) ⟨q0, qn, ⟨σ, s1, w1.rep⟩, q2⟩ hN hT hk hs (nI_pos (by omega))⟩
theorem z_undo (hZ : CZ G Z h b) (hd : 3 ≤ d) : Calls E mX5_undo d 0 0 [.ref b] h (RI (fun r h' => r = (unZ Z).1 ∧ CZ G (unZ Z).2 h' b)) := by
  have hZ2 := hZ
  obtain ⟨B, S, o, X, hC, hN, hT, hk, hs⟩ := hZ
  unfold unZ
  by_cases q : zn Z = 0
  · rw [if_pos q]
    rw [q] at hC
    refine (c_undoNone hC).weaken ?_
    rintro r h1 ⟨rfl, rfl⟩
    exact RI.mk ⟨rfl, hZ2⟩
  · rw [if_neg q]
    obtain ⟨n, hn⟩ : ∃ n, zn Z = n + 1 := ⟨zn Z - 1, by omega⟩
    rw [hn] at hC ⊢
    refine (c_undo hC RepS.rc hd).weaken ?_
    rintro r h1 ⟨v, rfl, rfl, hC2⟩
    exact RI.mk ⟨rfl, B, S, o, X, hC2, hN, hT, hk, hs⟩
end CQ
