/-! THE MODEL: what there is, in the store's words -/
section M6
variable {E : AEnv} {d : Nat} {h h' : List va_E} {b : Nat} {G : Nat → Option va_E} {Z : Zt}
theorem y_value {x y : Int32} (hZ : MZ G Z h b) (hd : 3 ≤ d) : Calls E mX6_value d 0 0 [.ref b, .int x, .int y] h (RI (fun r h' => r = vaF (zA Z) x y ∧ MZ G Z h' b)) := by
  refine Calls.of (ls := [some (.ref b), some (.int x), some (.int y)]) (by decide +kernel) rfl (Nat.le_of_ble_eq_true rfl) (cat_ok rfl) ?_
  have hZ2 := hZ
  obtain ⟨i, ρ, hX, hZr⟩ := hZ
  have hM := hX.1
  have hTb := hX.2.1
  have hR := hX.2.2
  have hA := hR.1
  have hn := hA.1.nc
  have hT8 : aT (zA Z) ≤ 8 := hA.1.2.2.2.2.2.2.1
  have hg4 : aG (zA Z) ≤ 4 := hA.1.2.1
  have hs6 : aS (zA Z) ≤ 6 := hA.1.2.2.2.1
  have hs2 : 2 ≤ aS (zA Z) := hA.1.2.2.1
  have hg1 : 1 ≤ aG (zA Z) := hA.1.1
  have hgs : aG (zA Z) * aS (zA Z) ≤ 15 := hA.1.2.2.2.2.1
  have hH5 : aH (zA Z) ≤ 5 := hA.1.2.2.2.2.2.2.2
  have en : nc (aG (zA Z)) (aS (zA Z)) = aG (zA Z) * aS (zA Z) + aG (zA Z) + 2 := rfl
  refine go_aload_0 (DX6_value.at 0 rfl) ?_
  refine go_iload_1 (DX6_value.at 1 rfl) ?_
  refine go_iload_2 (DX6_value.at 2 rfl) ?_
  refine go_cVx2 (DX6_value.at 3 rfl) nX6_126 vX6_isCell (by omega) (m_isCell hX (by omega)) hM.1 rfl (Nat.le_of_ble_eq_true rfl) ?_
  refine go_if_ne 11 (DX6_value.at 4 rfl) (by decide) (fun c6 => ?_) (fun c6 => ?_)
  · rw [bP_eq0, Classical.not_not] at c6
    obtain ⟨⟨t, ht, rfl⟩, ⟨c, hc, rfl⟩⟩ := And.intro (inR_ex (by omega) c6.1) (inR_ex (by omega) c6.2)
    have hv16 := hA.2.2.1 t c
    refine go_aload_0 (DX6_value.at 7 rfl) ?_
    refine go_iload_1 (DX6_value.at 8 rfl) ?_
    refine go_iload_2 (DX6_value.at 9 rfl) ?_
    refine go_cVx2 (DX6_value.at 10 rfl) nX6_65 vX6_isLost (by omega) (m_isLost ht hc hX (by omega)) hM.1 rfl (Nat.le_of_ble_eq_true rfl) ?_
    refine go_if_eq 25 (DX6_value.at 11 rfl) (by decide) (fun c17 => ?_) (fun c17 => ?_)
    · rw [bP_eq0] at c17
      have e0 : vaF (zA Z) (nI t) (nI c) = nI (aV (zA Z) t c) := by
        unfold vaF
        rw [ceQ_in hA ht hc, cI_f c17]
      refine go_aload_0 (DX6_value.at 14 rfl) ?_
      refine go_iload_1 (DX6_value.at 15 rfl) ?_
      refine go_iload_2 (DX6_value.at 16 rfl) ?_
      refine go_cVx2 (DX6_value.at 17 rfl) nX6_62 vX6_cellValue (by omega) (m_cellValue hM (show t < 8 by omega) (show c < 20 by omega)) hM.1 rfl (Nat.le_of_ble_eq_true rfl) ?_
      rw [hR.2.2.2.2.2.2.1 t ht c hc c17]
      exact go_iret (DX6_value.at 18 rfl) rfl rfl (RI.mk ⟨e0.symm, hZ2⟩)
    · rw [bP_eq0, Classical.not_not] at c17
      have e0 : vaF (zA Z) (nI t) (nI c) = -5 := by
        unfold vaF
        rw [ceQ_in hA ht hc, cI_t c17]
      refine go_bipush (v := (-5)) (DX6_value.at 12 rfl) (by decide) ?_
      refine go_goto 31 (DX6_value.at 13 rfl) (by decide) ?_
      exact go_iret (DX6_value.at 18 rfl) rfl rfl (RI.mk ⟨e0.symm, hZ2⟩)
  · rw [bP_eq0] at c6
    refine go_iconst (v := (-1)) (DX6_value.at 5 rfl) (by decide) ?_
    exact go_iret (DX6_value.at 6 rfl) rfl rfl (RI.mk ⟨(ceQ_out c6).symm, hZ2⟩)

theorem y_node {x y : Int32} (hZ : MZ G Z h b) (hd : 3 ≤ d) : Calls E mX6_node d 0 0 [.ref b, .int x, .int y] h (RI (fun r h' => r = noF (zA Z) x y ∧ MZ G Z h' b)) := by
  refine Calls.of (ls := [some (.ref b), some (.int x), some (.int y)]) (by decide +kernel) rfl (Nat.le_of_ble_eq_true rfl) (cat_ok rfl) ?_
  have hZ2 := hZ
  obtain ⟨i, ρ, hX, hZr⟩ := hZ
  have hM := hX.1
  have hTb := hX.2.1
  have hR := hX.2.2
  have hA := hR.1
  have hn := hA.1.nc
  have hT8 : aT (zA Z) ≤ 8 := hA.1.2.2.2.2.2.2.1
  have hg4 : aG (zA Z) ≤ 4 := hA.1.2.1
  have hs6 : aS (zA Z) ≤ 6 := hA.1.2.2.2.1
  have hs2 : 2 ≤ aS (zA Z) := hA.1.2.2.1
  have hg1 : 1 ≤ aG (zA Z) := hA.1.1
  have hgs : aG (zA Z) * aS (zA Z) ≤ 15 := hA.1.2.2.2.2.1
  have hH5 : aH (zA Z) ≤ 5 := hA.1.2.2.2.2.2.2.2
  have en : nc (aG (zA Z)) (aS (zA Z)) = aG (zA Z) * aS (zA Z) + aG (zA Z) + 2 := rfl
  refine go_aload_0 (DX6_node.at 0 rfl) ?_
  refine go_iload_1 (DX6_node.at 1 rfl) ?_
  refine go_iload_2 (DX6_node.at 2 rfl) ?_
  refine go_cVx2 (DX6_node.at 3 rfl) nX6_126 vX6_isCell (by omega) (m_isCell hX (by omega)) hM.1 rfl (Nat.le_of_ble_eq_true rfl) ?_
  refine go_if_eq 18 (DX6_node.at 4 rfl) (by decide) (fun c6 => ?_) (fun c6 => ?_)
  · rw [bP_eq0] at c6
    have e0 : noF (zA Z) x y = -1 := ceQ_out c6
    refine go_iconst (v := (-1)) (DX6_node.at 10 rfl) (by decide) ?_
    exact go_iret (DX6_node.at 11 rfl) rfl rfl (RI.mk ⟨e0.symm, hZ2⟩)
  · rw [bP_eq0, Classical.not_not] at c6
    obtain ⟨⟨t, ht, rfl⟩, ⟨c, hc, rfl⟩⟩ := And.intro (inR_ex (by omega) c6.1) (inR_ex (by omega) c6.2)
    have hv16 := hA.2.2.1 t c
    have e0 : noF (zA Z) (nI t) (nI c) = _ := ceQ_in hA ht hc
    refine go_aload_0 (DX6_node.at 5 rfl) ?_
    refine go_iload_1 (DX6_node.at 6 rfl) ?_
    refine go_iload_2 (DX6_node.at 7 rfl) ?_
    refine go_cVx2 (DX6_node.at 8 rfl) nX6_135 vX6_nodeOf (by omega) (m_nodeOf (show t < 8 by omega) (show c < 20 by omega) hX (by omega)) hM.1 rfl (Nat.le_of_ble_eq_true rfl) ?_
    refine go_goto 19 (DX6_node.at 9 rfl) (by decide) ?_
    exact go_iret (DX6_node.at 11 rfl) rfl rfl (RI.mk ⟨e0.symm, hZ2⟩)

theorem y_load {x : Int32} (hZ : MZ G Z h b) (hd : 3 ≤ d) : Calls E mX6_load d 0 0 [.ref b, .int x] h (RI (fun r h' => r = ldF (zA Z) x ∧ MZ G Z h' b)) := by
  refine Calls.of (ls := [some (.ref b), some (.int x)]) (by decide +kernel) rfl (Nat.le_of_ble_eq_true rfl) (cat_ok rfl) ?_
  have hZ2 := hZ
  obtain ⟨i, ρ, hX, hZr⟩ := hZ
  have hM := hX.1
  have hTb := hX.2.1
  have hR := hX.2.2
  have hA := hR.1
  have hn := hA.1.nc
  have hT8 : aT (zA Z) ≤ 8 := hA.1.2.2.2.2.2.2.1
  have hg4 : aG (zA Z) ≤ 4 := hA.1.2.1
  have hs6 : aS (zA Z) ≤ 6 := hA.1.2.2.2.1
  have hs2 : 2 ≤ aS (zA Z) := hA.1.2.2.1
  have hg1 : 1 ≤ aG (zA Z) := hA.1.1
  have hgs : aG (zA Z) * aS (zA Z) ≤ 15 := hA.1.2.2.2.2.1
  have hH5 : aH (zA Z) ≤ 5 := hA.1.2.2.2.2.2.2.2
  have en : nc (aG (zA Z)) (aS (zA Z)) = aG (zA Z) * aS (zA Z) + aG (zA Z) + 2 := rfl
  refine go_aload_0 (DX6_load.at 0 rfl) ?_
  refine go_iload_1 (DX6_load.at 1 rfl) ?_
  refine go_cVx1 (DX6_load.at 2 rfl) nX6_146 vX6_isNode (by omega) (m_isNode hX (by omega)) hM.1 rfl (Nat.le_of_ble_eq_true rfl) ?_
  refine go_if_eq 20 (DX6_load.at 3 rfl) (by decide) (fun c5 => ?_) (fun c5 => ?_)
  · rw [bP_eq0] at c5
    have e0 : ldF (zA Z) x = -1 := ndQ_out c5
    refine go_iconst (v := (-1)) (DX6_load.at 11 rfl) (by decide) ?_
    exact go_iret (DX6_load.at 12 rfl) rfl rfl (RI.mk ⟨e0.symm, hZ2⟩)
  · rw [bP_eq0, Classical.not_not] at c5
    obtain ⟨c, hc, rfl⟩ := inR_ex (by omega) c5
    have e0 : ldF (zA Z) (nI c) = _ := ndQ_in hA hc
    refine go_aload_0 (DX6_load.at 4 rfl) ?_
    refine go_getfield (DX6_load.at 5 rfl) fX6_7 hM.1 rfl ?_
    refine go_bipush (v := nI 9) (DX6_load.at 6 rfl) (by decide) ?_
    refine go_iload_1 (DX6_load.at 7 rfl) ?_
    refine go_iadd (DX6_load.at 8 rfl) ?_
    rw [nI_add]
    refine go_ialdM (DX6_load.at 9 rfl) (hM.2.1 1 (by decide)) (show 9 + c < 349 by omega) (by decide) ?_
    rw [hR.2.2.2.2.1 c (by omega)]
    refine go_goto 21 (DX6_load.at 10 rfl) (by decide) ?_
    exact go_iret (DX6_load.at 12 rfl) rfl rfl (RI.mk ⟨e0.symm, hZ2⟩)

theorem y_lost {x : Int32} (hZ : MZ G Z h b) (hd : 3 ≤ d) : Calls E mX6_lost d 0 0 [.ref b, .int x] h (RI (fun r h' => r = ltF (zA Z) x ∧ MZ G Z h' b)) := by
  refine Calls.of (ls := [some (.ref b), some (.int x)]) (by decide +kernel) rfl (Nat.le_of_ble_eq_true rfl) (cat_ok rfl) ?_
  have hZ2 := hZ
  obtain ⟨i, ρ, hX, hZr⟩ := hZ
  have hM := hX.1
  have hTb := hX.2.1
  have hR := hX.2.2
  have hA := hR.1
  have hn := hA.1.nc
  have hT8 : aT (zA Z) ≤ 8 := hA.1.2.2.2.2.2.2.1
  have hg4 : aG (zA Z) ≤ 4 := hA.1.2.1
  have hs6 : aS (zA Z) ≤ 6 := hA.1.2.2.2.1
  have hs2 : 2 ≤ aS (zA Z) := hA.1.2.2.1
  have hg1 : 1 ≤ aG (zA Z) := hA.1.1
  have hgs : aG (zA Z) * aS (zA Z) ≤ 15 := hA.1.2.2.2.2.1
  have hH5 : aH (zA Z) ≤ 5 := hA.1.2.2.2.2.2.2.2
  have en : nc (aG (zA Z)) (aS (zA Z)) = aG (zA Z) * aS (zA Z) + aG (zA Z) + 2 := rfl
  refine go_aload_0 (DX6_lost.at 0 rfl) ?_
  refine go_iload_1 (DX6_lost.at 1 rfl) ?_
  refine go_cVx1 (DX6_lost.at 2 rfl) nX6_55 vX6_isStripe (by omega) (m_isStripe hX (by omega)) hM.1 rfl (Nat.le_of_ble_eq_true rfl) ?_
  refine go_if_eq 16 (DX6_lost.at 3 rfl) (by decide) (fun c5 => ?_) (fun c5 => ?_)
  · rw [bP_eq0] at c5
    have e0 : ltF (zA Z) x = -1 := stQ_out c5
    refine go_iconst (v := (-1)) (DX6_lost.at 8 rfl) (by decide) ?_
    exact go_iret (DX6_lost.at 9 rfl) rfl rfl (RI.mk ⟨e0.symm, hZ2⟩)
  · rw [bP_eq0, Classical.not_not] at c5
    obtain ⟨t, ht, rfl⟩ := inR_ex (by omega) c5
    have hm20 := hA.m20 ht
    have e0 : ltF (zA Z) (nI t) = _ := stQ_in hA ht
    refine go_aload_0 (DX6_lost.at 4 rfl) ?_
    refine go_iload_1 (DX6_lost.at 5 rfl) ?_
    refine go_cVx1 (DX6_lost.at 6 rfl) nX6_114 vX6_lostCells (by omega) (m_lostCells ht hX (by omega)) hM.1 rfl (Nat.le_of_ble_eq_true rfl) ?_
    refine go_goto 17 (DX6_lost.at 7 rfl) (by decide) ?_
    exact go_iret (DX6_lost.at 9 rfl) rfl rfl (RI.mk ⟨e0.symm, hZ2⟩)

theorem y_waiting {x : Int32} (hZ : MZ G Z h b) (hd : 1 ≤ d) : Calls E mX6_waiting d 0 0 [.ref b, .int x] h (RI (fun r h' => r = waF (zA Z) x ∧ MZ G Z h' b)) := by
  refine Calls.of (ls := [some (.ref b), some (.int x), none]) (by decide +kernel) rfl (Nat.le_of_ble_eq_true rfl) (cat_ok rfl) ?_
  have hZ2 := hZ
  obtain ⟨i, ρ, hX, hZr⟩ := hZ
  have hM := hX.1
  have hTb := hX.2.1
  have hR := hX.2.2
  have hA := hR.1
  have hn := hA.1.nc
  have hT8 : aT (zA Z) ≤ 8 := hA.1.2.2.2.2.2.2.1
  have hg4 : aG (zA Z) ≤ 4 := hA.1.2.1
  have hs6 : aS (zA Z) ≤ 6 := hA.1.2.2.2.1
  have hs2 : 2 ≤ aS (zA Z) := hA.1.2.2.1
  have hg1 : 1 ≤ aG (zA Z) := hA.1.1
  have hgs : aG (zA Z) * aS (zA Z) ≤ 15 := hA.1.2.2.2.2.1
  have hH5 : aH (zA Z) ≤ 5 := hA.1.2.2.2.2.2.2.2
  have en : nc (aG (zA Z)) (aS (zA Z)) = aG (zA Z) * aS (zA Z) + aG (zA Z) + 2 := rfl
  have hq160 := hA.q160
  refine go_iload_1 (DX6_waiting.at 0 rfl) ?_
  refine go_if_ge 7 (DX6_waiting.at 1 rfl) (by decide) (fun c1 => ?_) (fun c1 => ?_)
  · have hx0 : ¬ x < 0 := Int32.not_lt.mpr c1
    obtain ⟨j, hj31, rfl⟩ := nI_of hx0
    refine go_iload_1 (DX6_waiting.at 4 rfl) ?_
    refine go_aload_0 (DX6_waiting.at 5 rfl) ?_
    refine go_getfield (DX6_waiting.at 6 rfl) fX6_7 hM.1 rfl ?_
    refine go_bipush (v := nI 8) (DX6_waiting.at 7 rfl) (by decide) ?_
    refine go_ialdM (DX6_waiting.at 8 rfl) (hM.2.1 1 (by decide)) (show 8 < 349 by decide) (by decide) ?_
    rw [hR.2.2.2.1]
    refine go_icmp_lt 21 (DX6_waiting.at 9 rfl) (by decide) (fun c15 => ?_) (fun c15 => ?_)
    · rw [nI_ltI hj31 (by omega)] at c15
      have hj2 : (aQ (zA Z))[j]? = some (aQ (zA Z))[j] := List.getElem?_eq_getElem c15
      have hj3 := hA.lt160 (List.mem_of_getElem? hj2)
      generalize (aQ (zA Z))[j] = y at hj2 hj3
      refine go_aload_0 (DX6_waiting.at 12 rfl) ?_
      refine go_getfield (DX6_waiting.at 13 rfl) fX6_7 hM.1 rfl ?_
      refine go_sipush (v := nI 189) (DX6_waiting.at 14 rfl) (by decide) ?_
      refine go_iload_1 (DX6_waiting.at 15 rfl) ?_
      refine go_iadd (DX6_waiting.at 16 rfl) ?_
      rw [nI_add]
      refine go_ialdM (DX6_waiting.at 17 rfl) (hM.2.1 1 (by decide)) (show 189 + j < 349 by omega) (by decide) ?_
      rw [hR.2.2.2.2.2.2.2 j _ hj2]
      refine go_istore_2 (DX6_waiting.at 18 rfl) ?_
      refine go_bipush (v := nI 100) (DX6_waiting.at 19 rfl) (by decide) ?_
      refine go_iload_2 (DX6_waiting.at 20 rfl) ?_
      refine go_bipush (v := nI 20) (DX6_waiting.at 21 rfl) (by decide) ?_
      refine go_idiv (DX6_waiting.at 22 rfl) (by decide) ?_
      rw [pk_div (by omega) (by decide) (by decide)]
      refine go_imul (DX6_waiting.at 23 rfl) ?_
      rw [pk_mul]
      refine go_iload_2 (DX6_waiting.at 24 rfl) ?_
      refine go_bipush (v := nI 20) (DX6_waiting.at 25 rfl) (by decide) ?_
      refine go_irem (DX6_waiting.at 26 rfl) (by decide) ?_
      rw [pk_rem (by omega) (by decide) (by decide)]
      refine go_iadd (DX6_waiting.at 27 rfl) ?_
      rw [nI_add]
      exact go_iret (DX6_waiting.at 28 rfl) rfl rfl (RI.mk ⟨by unfold waF; rw [cI_f hx0, nI_cl hj31, hj2], hZ2⟩)
    · rw [nI_ltI hj31 (by omega)] at c15
      refine go_bipush (v := (-5)) (DX6_waiting.at 10 rfl) (by decide) ?_
      exact go_iret (DX6_waiting.at 11 rfl) rfl rfl (RI.mk ⟨by unfold waF; rw [cI_f hx0, nI_cl hj31, List.getElem?_eq_none (Nat.le_of_not_lt c15)], hZ2⟩)
  · refine go_bipush (v := (-2)) (DX6_waiting.at 2 rfl) (by decide) ?_
    exact go_iret (DX6_waiting.at 3 rfl) rfl rfl (RI.mk ⟨(cI_t (Int32.not_le.mp c1)).symm, hZ2⟩)

theorem y_failing {x : Int32} (hZ : MZ G Z h b) (hd : 3 ≤ d) : Calls E mX6_failing d 0 0 [.ref b, .int x] h (RI (fun r h' => r = faF (zA Z) x ∧ MZ G Z h' b)) := by
  refine Calls.of (ls := [some (.ref b), some (.int x)]) (by decide +kernel) rfl (Nat.le_of_ble_eq_true rfl) (cat_ok rfl) ?_
  have hZ2 := hZ
  obtain ⟨i, ρ, hX, hZr⟩ := hZ
  have hM := hX.1
  have hTb := hX.2.1
  have hR := hX.2.2
  have hA := hR.1
  have hn := hA.1.nc
  have hT8 : aT (zA Z) ≤ 8 := hA.1.2.2.2.2.2.2.1
  have hg4 : aG (zA Z) ≤ 4 := hA.1.2.1
  have hs6 : aS (zA Z) ≤ 6 := hA.1.2.2.2.1
  have hs2 : 2 ≤ aS (zA Z) := hA.1.2.2.1
  have hg1 : 1 ≤ aG (zA Z) := hA.1.1
  have hgs : aG (zA Z) * aS (zA Z) ≤ 15 := hA.1.2.2.2.2.1
  have hH5 : aH (zA Z) ≤ 5 := hA.1.2.2.2.2.2.2.2
  have en : nc (aG (zA Z)) (aS (zA Z)) = aG (zA Z) * aS (zA Z) + aG (zA Z) + 2 := rfl
  refine go_aload_0 (DX6_failing.at 0 rfl) ?_
  refine go_iload_1 (DX6_failing.at 1 rfl) ?_
  refine go_cVx1 (DX6_failing.at 2 rfl) nX6_55 vX6_isStripe (by omega) (m_isStripe hX (by omega)) hM.1 rfl (Nat.le_of_ble_eq_true rfl) ?_
  refine go_if_ne 10 (DX6_failing.at 3 rfl) (by decide) (fun c5 => ?_) (fun c5 => ?_)
  · rw [bP_eq0, Classical.not_not] at c5
    obtain ⟨t, ht, rfl⟩ := inR_ex (by omega) c5
    have hm20 := hA.m20 ht
    refine go_aload_0 (DX6_failing.at 6 rfl) ?_
    refine go_iload_1 (DX6_failing.at 7 rfl) ?_
    refine go_cVx1 (DX6_failing.at 8 rfl) nX6_114 vX6_lostCells (by omega) (m_lostCells ht hX (by omega)) hM.1 rfl (Nat.le_of_ble_eq_true rfl) ?_
    refine go_if_ne 26 (DX6_failing.at 9 rfl) (by decide) (fun c15 => ?_) (fun c15 => ?_)
    · rw [nI_eq0 (by omega)] at c15
      have e0 : faF (zA Z) (nI t) = -4 := by
        unfold faF
        rw [stQ_in hA ht, cI_f c15]
      refine go_bipush (v := (-4)) (DX6_failing.at 14 rfl) (by decide) ?_
      exact go_iret (DX6_failing.at 15 rfl) rfl rfl (RI.mk ⟨e0.symm, hZ2⟩)
    · rw [nI_eq0 (by omega)] at c15
      have e0 : faF (zA Z) (nI t) = nI (flg (aSum (zA Z) t) 6) := by
        unfold faF
        rw [stQ_in hA ht, cI_t c15]
      refine go_aload_0 (DX6_failing.at 10 rfl) ?_
      refine go_iload_1 (DX6_failing.at 11 rfl) ?_
      refine go_cVx1 (DX6_failing.at 12 rfl) nX6_173 vX6_failingChecks (by omega) (m_failingChecks ht c15 hX (by omega)) hM.1 rfl (Nat.le_of_ble_eq_true rfl) ?_
      refine go_goto 28 (DX6_failing.at 13 rfl) (by decide) ?_
      exact go_iret (DX6_failing.at 15 rfl) rfl rfl (RI.mk ⟨e0.symm, hZ2⟩)
  · rw [bP_eq0] at c5
    refine go_iconst (v := (-1)) (DX6_failing.at 4 rfl) (by decide) ?_
    exact go_iret (DX6_failing.at 5 rfl) rfl rfl (RI.mk ⟨(stQ_out c5).symm, hZ2⟩)

theorem y_total {x : Int32} (hZ : MZ G Z h b) (hd : 3 ≤ d) : Calls E mX6_total d 0 0 [.ref b, .int x] h (RI (fun r h' => r = toF Z x ∧ MZ G Z h' b)) := by
  refine Calls.of (ls := [some (.ref b), some (.int x)]) (by decide +kernel) rfl (Nat.le_of_ble_eq_true rfl) (cat_ok rfl) ?_
  have hZ2 := hZ
  obtain ⟨i, ρ, hX, hZr⟩ := hZ
  have hM := hX.1
  have hTb := hX.2.1
  have hR := hX.2.2
  have hA := hR.1
  have hn := hA.1.nc
  have hT8 : aT (zA Z) ≤ 8 := hA.1.2.2.2.2.2.2.1
  have hg4 : aG (zA Z) ≤ 4 := hA.1.2.1
  have hs6 : aS (zA Z) ≤ 6 := hA.1.2.2.2.1
  have hs2 : 2 ≤ aS (zA Z) := hA.1.2.2.1
  have hg1 : 1 ≤ aG (zA Z) := hA.1.1
  have hgs : aG (zA Z) * aS (zA Z) ≤ 15 := hA.1.2.2.2.2.1
  have hH5 : aH (zA Z) ≤ 5 := hA.1.2.2.2.2.2.2.2
  have en : nc (aG (zA Z)) (aS (zA Z)) = aG (zA Z) * aS (zA Z) + aG (zA Z) + 2 := rfl
  by_cases q : inR x 12
  · obtain ⟨j, hj, rfl⟩ := inR_ex (by decide) q
    have e0 : toF Z (nI j) = totZ Z j := by
      unfold toF
      rw [cI_t q, nI_cl (by omega)]
    rcases (show j = 0 ∨ j = 1 ∨ j = 2 ∨ j = 3 ∨ j = 4 ∨ j = 5 ∨ j = 6 ∨ j = 7 ∨ j = 8 ∨ j = 9 ∨ j = 10 ∨ j = 11 by omega) with rfl | rfl | rfl | rfl | rfl | rfl | rfl | rfl | rfl | rfl | rfl | rfl
    · refine go_iload_1 (DX6_total.at 0 rfl) ?_
      refine go_tableIn (off := 63) 64 (DX6_total.at 1 rfl) (by decide) (by decide) rfl (by decide) ?_
      refine go_aload_0 (DX6_total.at 2 rfl) ?_
      refine go_getfield (DX6_total.at 3 rfl) fX6_7 hM.1 rfl ?_
      refine go_iload_1 (DX6_total.at 4 rfl) ?_
      refine go_ialdM (DX6_total.at 5 rfl) (hM.2.1 1 (by decide)) (show 0 < 349 by decide) (by decide) ?_
      rw [show ρ 1 0 = totZ Z 0 from hR.2.1.1]
      exact go_iret (DX6_total.at 6 rfl) rfl rfl (RI.mk ⟨e0.symm, hZ2⟩)
    · refine go_iload_1 (DX6_total.at 0 rfl) ?_
      refine go_tableIn (off := 63) 64 (DX6_total.at 1 rfl) (by decide) (by decide) rfl (by decide) ?_
      refine go_aload_0 (DX6_total.at 2 rfl) ?_
      refine go_getfield (DX6_total.at 3 rfl) fX6_7 hM.1 rfl ?_
      refine go_iload_1 (DX6_total.at 4 rfl) ?_
      refine go_ialdM (DX6_total.at 5 rfl) (hM.2.1 1 (by decide)) (show 1 < 349 by decide) (by decide) ?_
      rw [show ρ 1 1 = totZ Z 1 from hR.2.1.2.1]
      exact go_iret (DX6_total.at 6 rfl) rfl rfl (RI.mk ⟨e0.symm, hZ2⟩)
    · refine go_iload_1 (DX6_total.at 0 rfl) ?_
      refine go_tableIn (off := 63) 64 (DX6_total.at 1 rfl) (by decide) (by decide) rfl (by decide) ?_
      refine go_aload_0 (DX6_total.at 2 rfl) ?_
      refine go_getfield (DX6_total.at 3 rfl) fX6_7 hM.1 rfl ?_
      refine go_iload_1 (DX6_total.at 4 rfl) ?_
      refine go_ialdM (DX6_total.at 5 rfl) (hM.2.1 1 (by decide)) (show 2 < 349 by decide) (by decide) ?_
      rw [show ρ 1 2 = totZ Z 2 from hR.2.1.2.2.1]
      exact go_iret (DX6_total.at 6 rfl) rfl rfl (RI.mk ⟨e0.symm, hZ2⟩)
    · refine go_iload_1 (DX6_total.at 0 rfl) ?_
      refine go_tableIn (off := 63) 64 (DX6_total.at 1 rfl) (by decide) (by decide) rfl (by decide) ?_
      refine go_aload_0 (DX6_total.at 2 rfl) ?_
      refine go_getfield (DX6_total.at 3 rfl) fX6_7 hM.1 rfl ?_
      refine go_iload_1 (DX6_total.at 4 rfl) ?_
      refine go_ialdM (DX6_total.at 5 rfl) (hM.2.1 1 (by decide)) (show 3 < 349 by decide) (by decide) ?_
      rw [show ρ 1 3 = totZ Z 3 from hR.2.1.2.2.2]
      exact go_iret (DX6_total.at 6 rfl) rfl rfl (RI.mk ⟨e0.symm, hZ2⟩)
    · refine go_iload_1 (DX6_total.at 0 rfl) ?_
      refine go_tableIn (off := 70) 71 (DX6_total.at 1 rfl) (by decide) (by decide) rfl (by decide) ?_
      refine go_aload_0 (DX6_total.at 7 rfl) ?_
      refine go_cVx0 (DX6_total.at 8 rfl) nX6_59 vX6_cells (by omega) (m_cells hX (by omega)) hM.1 rfl (Nat.le_of_ble_eq_true rfl) ?_
      exact go_iret (DX6_total.at 9 rfl) rfl rfl (RI.mk ⟨e0.symm, hZ2⟩)
    · refine go_iload_1 (DX6_total.at 0 rfl) ?_
      refine go_tableIn (off := 75) 76 (DX6_total.at 1 rfl) (by decide) (by decide) rfl (by decide) ?_
      refine go_aload_0 (DX6_total.at 10 rfl) ?_
      refine go_getfield (DX6_total.at 11 rfl) fX6_7 hM.1 rfl ?_
      refine go_bipush (v := nI 8) (DX6_total.at 12 rfl) (by decide) ?_
      refine go_ialdM (DX6_total.at 13 rfl) (hM.2.1 1 (by decide)) (show 8 < 349 by decide) (by decide) ?_
      rw [show ρ 1 8 = totZ Z 5 from hR.2.2.2.1]
      exact go_iret (DX6_total.at 14 rfl) rfl rfl (RI.mk ⟨e0.symm, hZ2⟩)
    · refine go_iload_1 (DX6_total.at 0 rfl) ?_
      refine go_tableIn (off := 83) 84 (DX6_total.at 1 rfl) (by decide) (by decide) rfl (by decide) ?_
      refine go_aload_0 (DX6_total.at 15 rfl) ?_
      refine go_getfield (DX6_total.at 16 rfl) fX6_7 hM.1 rfl ?_
      refine go_iload_1 (DX6_total.at 17 rfl) ?_
      refine go_iconst (v := nI 2) (DX6_total.at 18 rfl) (by decide) ?_
      refine go_isub (DX6_total.at 19 rfl) ?_
      rw [show nI 6 - nI 2 = nI 4 from by decide]
      refine go_ialdM (j := 4) (DX6_total.at 20 rfl) (hM.2.1 1 (by decide)) (show 4 < 349 by decide) (by decide) ?_
      rw [show ρ 1 4 = totZ Z 6 from hR.2.2.1 0 (by decide)]
      exact go_iret (DX6_total.at 21 rfl) rfl rfl (RI.mk ⟨e0.symm, hZ2⟩)
    · refine go_iload_1 (DX6_total.at 0 rfl) ?_
      refine go_tableIn (off := 83) 84 (DX6_total.at 1 rfl) (by decide) (by decide) rfl (by decide) ?_
      refine go_aload_0 (DX6_total.at 15 rfl) ?_
      refine go_getfield (DX6_total.at 16 rfl) fX6_7 hM.1 rfl ?_
      refine go_iload_1 (DX6_total.at 17 rfl) ?_
      refine go_iconst (v := nI 2) (DX6_total.at 18 rfl) (by decide) ?_
      refine go_isub (DX6_total.at 19 rfl) ?_
      rw [show nI 7 - nI 2 = nI 5 from by decide]
      refine go_ialdM (j := 5) (DX6_total.at 20 rfl) (hM.2.1 1 (by decide)) (show 5 < 349 by decide) (by decide) ?_
      rw [show ρ 1 5 = totZ Z 7 from hR.2.2.1 1 (by decide)]
      exact go_iret (DX6_total.at 21 rfl) rfl rfl (RI.mk ⟨e0.symm, hZ2⟩)
    · refine go_iload_1 (DX6_total.at 0 rfl) ?_
      refine go_tableIn (off := 83) 84 (DX6_total.at 1 rfl) (by decide) (by decide) rfl (by decide) ?_
      refine go_aload_0 (DX6_total.at 15 rfl) ?_
      refine go_getfield (DX6_total.at 16 rfl) fX6_7 hM.1 rfl ?_
      refine go_iload_1 (DX6_total.at 17 rfl) ?_
      refine go_iconst (v := nI 2) (DX6_total.at 18 rfl) (by decide) ?_
      refine go_isub (DX6_total.at 19 rfl) ?_
      rw [show nI 8 - nI 2 = nI 6 from by decide]
      refine go_ialdM (j := 6) (DX6_total.at 20 rfl) (hM.2.1 1 (by decide)) (show 6 < 349 by decide) (by decide) ?_
      rw [show ρ 1 6 = totZ Z 8 from hR.2.2.1 2 (by decide)]
      exact go_iret (DX6_total.at 21 rfl) rfl rfl (RI.mk ⟨e0.symm, hZ2⟩)
    · refine go_iload_1 (DX6_total.at 0 rfl) ?_
      refine go_tableIn (off := 83) 84 (DX6_total.at 1 rfl) (by decide) (by decide) rfl (by decide) ?_
      refine go_aload_0 (DX6_total.at 15 rfl) ?_
      refine go_getfield (DX6_total.at 16 rfl) fX6_7 hM.1 rfl ?_
      refine go_iload_1 (DX6_total.at 17 rfl) ?_
      refine go_iconst (v := nI 2) (DX6_total.at 18 rfl) (by decide) ?_
      refine go_isub (DX6_total.at 19 rfl) ?_
      rw [show nI 9 - nI 2 = nI 7 from by decide]
      refine go_ialdM (j := 7) (DX6_total.at 20 rfl) (hM.2.1 1 (by decide)) (show 7 < 349 by decide) (by decide) ?_
      rw [show ρ 1 7 = totZ Z 9 from hR.2.2.1 3 (by decide)]
      exact go_iret (DX6_total.at 21 rfl) rfl rfl (RI.mk ⟨e0.symm, hZ2⟩)
    · refine go_iload_1 (DX6_total.at 0 rfl) ?_
      refine go_tableIn (off := 92) 93 (DX6_total.at 1 rfl) (by decide) (by decide) rfl (by decide) ?_
      refine go_aload_0 (DX6_total.at 22 rfl) ?_
      refine go_getfield (DX6_total.at 23 rfl) fX6_69 hM.1 rfl ?_
      rw [show i 0 = totZ Z 10 from hZr.1]
      exact go_iret (DX6_total.at 24 rfl) rfl rfl (RI.mk ⟨e0.symm, hZ2⟩)
    · refine go_iload_1 (DX6_total.at 0 rfl) ?_
      refine go_tableIn (off := 97) 98 (DX6_total.at 1 rfl) (by decide) (by decide) rfl (by decide) ?_
      refine go_aload_0 (DX6_total.at 25 rfl) ?_
      refine go_getfield (DX6_total.at 26 rfl) fX6_182 hM.1 rfl ?_
      rw [show i 2 = totZ Z 11 from hZr.2.2.2.2.2.2.1]
      exact go_iret (DX6_total.at 27 rfl) rfl rfl (RI.mk ⟨e0.symm, hZ2⟩)
  · have e0 : toF Z x = -2 := cI_f q
    refine go_iload_1 (DX6_total.at 0 rfl) ?_
    refine go_tableOut 103 (DX6_total.at 1 rfl) ?_ (by decide) ?_
    · rcases pk_ix x (show 12 < 2 ^ 31 by decide) with w | w | ⟨j, hj, rfl⟩
      · left
        have := Int32.lt_iff_toInt_lt.mp w
        simpa using this
      · right
        have := Int32.le_iff_toInt_le.mp w
        rw [nI_toInt (by decide)] at this
        omega
      · exact absurd ((inR_nI (by omega) (by decide)).mpr hj) q
    refine go_bipush (v := (-2)) (DX6_total.at 28 rfl) (by decide) ?_
    exact go_iret (DX6_total.at 29 rfl) rfl rfl (RI.mk ⟨e0.symm, hZ2⟩)

theorem m_way {i : Nat → Int32} {ρ : Nat → Nat → Int32} {A : Ab} {x y : Int32} (hX : MX G h b i ρ A) (hd : 7 ≤ d) : Calls E mX6_way d 0 0 [.ref b, .int x, .int y] h (RI (fun r h' => (∃ f, MX G h' b i (rset ρ 10 f) A) ∧ ((¬ (inR x (aT A) ∧ inR y (nc (aG A) (aS A))) ∧ r = -1) ∨ ∃ t c, t < aT A ∧ c < nc (aG A) (aS A) ∧ x = nI t ∧ y = nI c ∧ ((¬ bit (aM A t) c ∧ r = -5) ∨ (bit (aM A t) c ∧ ((∃ w src X, WyX A t c w src X ∧ r = nI w) ∨ (NoX A t c ∧ r = 0))))))) := by
  refine Calls.of (ls := [some (.ref b), some (.int x), some (.int y)]) (by decide +kernel) rfl (Nat.le_of_ble_eq_true rfl) (cat_ok rfl) ?_
  have hM := hX.1
  have hTb := hX.2.1
  have hR := hX.2.2
  have hA := hR.1
  have hn := hA.1.nc
  have hT8 : aT A ≤ 8 := hA.1.2.2.2.2.2.2.1
  have hg4 : aG A ≤ 4 := hA.1.2.1
  have hs6 : aS A ≤ 6 := hA.1.2.2.2.1
  have hs2 : 2 ≤ aS A := hA.1.2.2.1
  have hg1 : 1 ≤ aG A := hA.1.1
  have hgs : aG A * aS A ≤ 15 := hA.1.2.2.2.2.1
  have hH5 : aH A ≤ 5 := hA.1.2.2.2.2.2.2.2
  have en : nc (aG A) (aS A) = aG A * aS A + aG A + 2 := rfl
  refine go_aload_0 (DX6_way.at 0 rfl) ?_
  refine go_iload_1 (DX6_way.at 1 rfl) ?_
  refine go_iload_2 (DX6_way.at 2 rfl) ?_
  refine go_cVx2 (DX6_way.at 3 rfl) nX6_126 vX6_isCell (by omega) (m_isCell hX (by omega)) hM.1 rfl (Nat.le_of_ble_eq_true rfl) ?_
  refine go_if_ne 11 (DX6_way.at 4 rfl) (by decide) (fun c6 => ?_) (fun c6 => ?_)
  · rw [bP_eq0, Classical.not_not] at c6
    obtain ⟨⟨t, ht, rfl⟩, ⟨c, hc, rfl⟩⟩ := And.intro (inR_ex (by omega) c6.1) (inR_ex (by omega) c6.2)
    refine go_aload_0 (DX6_way.at 7 rfl) ?_
    refine go_iload_1 (DX6_way.at 8 rfl) ?_
    refine go_iload_2 (DX6_way.at 9 rfl) ?_
    refine go_cVx2 (DX6_way.at 10 rfl) nX6_65 vX6_isLost (by omega) (m_isLost ht hc hX (by omega)) hM.1 rfl (Nat.le_of_ble_eq_true rfl) ?_
    refine go_if_eq 29 (DX6_way.at 11 rfl) (by decide) (fun c17 => ?_) (fun c17 => ?_)
    · rw [bP_eq0] at c17
      refine go_bipush (v := (-5)) (DX6_way.at 17 rfl) (by decide) ?_
      exact go_iret (DX6_way.at 18 rfl) rfl rfl (RI.mk (by first | exact ⟨⟨ρ 10, by rw [rset_self]; exact hX⟩, Or.inr ⟨t, c, ht, hc, rfl, rfl, Or.inl ⟨c17, rfl⟩⟩⟩ | exact ⟨⟨f, hX.row10 q23⟩, Or.inr ⟨t, c, ht, hc, rfl, rfl, Or.inr ⟨c17, g23⟩⟩⟩))
    · rw [bP_eq0, Classical.not_not] at c17
      refine go_aload_0 (DX6_way.at 12 rfl) ?_
      refine go_iload_1 (DX6_way.at 13 rfl) ?_
      refine go_iload_2 (DX6_way.at 14 rfl) ?_
      refine go_cVi2 (DX6_way.at 15 rfl) nX6_129 vX6_wayNow (by omega) (m_wayNow ht hc c17 hX (by omega)) hM.1 rfl (Nat.le_of_ble_eq_true rfl) (fun x23 h23 q23 => ?_)
      obtain ⟨f, q23, g23⟩ := q23
      refine go_goto 31 (DX6_way.at 16 rfl) (by decide) ?_
      exact go_iret (DX6_way.at 18 rfl) rfl rfl (RI.mk (by first | exact ⟨⟨ρ 10, by rw [rset_self]; exact hX⟩, Or.inr ⟨t, c, ht, hc, rfl, rfl, Or.inl ⟨c17, rfl⟩⟩⟩ | exact ⟨⟨f, hX.row10 q23⟩, Or.inr ⟨t, c, ht, hc, rfl, rfl, Or.inr ⟨c17, g23⟩⟩⟩))
  · rw [bP_eq0] at c6
    refine go_iconst (v := (-1)) (DX6_way.at 5 rfl) (by decide) ?_
    exact go_iret (DX6_way.at 6 rfl) rfl rfl (RI.mk ⟨⟨ρ 10, by rw [rset_self]; exact hX⟩, Or.inl ⟨c6, rfl⟩⟩)
theorem y_way {x y : Int32} (hZ : MZ G Z h b) (hd : 7 ≤ d) : Calls E mX6_way d 0 0 [.ref b, .int x, .int y] h (RI (fun r h' => r = asF (zA Z) x y (fun w _ _ => nI w) 0 ∧ MZ G Z h' b)) := by
  obtain ⟨i, ρ, hX, hZr⟩ := hZ
  have hA := hX.2.2.1
  refine (m_way hX hd).weaken ?_
  rintro r h1 ⟨v, rfl, ⟨f, hX2⟩, q⟩
  refine RI.mk ⟨?_, i, _, hX2, hZr.mu MU.r10⟩
  unfold asF
  rcases q with ⟨q, rfl⟩ | ⟨t, c, ht, hc, rfl, rfl, ⟨q, rfl⟩ | ⟨q, ⟨w, sc, X, hW, rfl⟩ | ⟨hW, rfl⟩⟩⟩
  · exact (ceQ_out q).symm
  · rw [ceQ_in hA ht hc, cI_f q]
  · rw [ceQ_in hA ht hc, cI_t q, wyF_s hW]
  · rw [ceQ_in hA ht hc, cI_t q, wyF_n hW]
theorem y_reads {x y : Int32} (hZ : MZ G Z h b) (hd : 8 ≤ d) : Calls E mX6_reads d 0 0 [.ref b, .int x, .int y] h (RI (fun r h' => r = asF (zA Z) x y (fun _ s _ => nI (pcn s 20)) (-4) ∧ MZ G Z h' b)) := by
  refine Calls.of (ls := [some (.ref b), some (.int x), some (.int y), none]) (by decide +kernel) rfl (Nat.le_of_ble_eq_true rfl) (cat_ok rfl) ?_
  obtain ⟨i, ρ, hX, hZr⟩ := hZ
  have hM := hX.1
  have hA := hX.2.2.1
  refine go_aload_0 (DX6_reads.at 0 rfl) ?_
  refine go_iload_1 (DX6_reads.at 1 rfl) ?_
  refine go_iload_2 (DX6_reads.at 2 rfl) ?_
  refine go_cVi2 (DX6_reads.at 3 rfl) nX6_216 vX6_way (by omega) (m_way hX (by omega)) hM.1 rfl (Nat.le_of_ble_eq_true rfl) (fun x3 h3 q3 => ?_)
  obtain ⟨⟨f, hX2⟩, q⟩ := q3
  rcases q with ⟨q, rfl⟩ | ⟨t, c, ht, hc, rfl, rfl, ⟨q, rfl⟩ | ⟨q, ⟨w, sc, X, hW, rfl⟩ | ⟨hW, rfl⟩⟩⟩
  · refine go_istore_3 (DX6_reads.at 4 rfl) ?_
    refine go_iload_3 (DX6_reads.at 5 rfl) ?_
    refine go_if_ge 15 (DX6_reads.at 6 rfl) (by decide) (fun c8 => absurd c8 (by decide)) (fun c8 => ?_)
    refine go_iload_3 (DX6_reads.at 7 rfl) ?_
    refine go_goto 31 (DX6_reads.at 8 rfl) (by decide) ?_
    exact go_iret (DX6_reads.at 18 rfl) rfl rfl (RI.mk ⟨(ceQ_out q).symm, i, _, hX2, hZr.mu MU.r10⟩)
  · refine go_istore_3 (DX6_reads.at 4 rfl) ?_
    refine go_iload_3 (DX6_reads.at 5 rfl) ?_
    refine go_if_ge 15 (DX6_reads.at 6 rfl) (by decide) (fun c8 => absurd c8 (by decide)) (fun c8 => ?_)
    refine go_iload_3 (DX6_reads.at 7 rfl) ?_
    refine go_goto 31 (DX6_reads.at 8 rfl) (by decide) ?_
    exact go_iret (DX6_reads.at 18 rfl) rfl rfl (RI.mk ⟨by unfold asF; rw [ceQ_in hA ht hc, cI_f q], i, _, hX2, hZr.mu MU.r10⟩)
  · have hw3 := hW.w
    refine go_istore_3 (DX6_reads.at 4 rfl) ?_
    refine go_iload_3 (DX6_reads.at 5 rfl) ?_
    refine go_if_ge 15 (DX6_reads.at 6 rfl) (by decide) (fun c8 => ?_) (fun c8 => absurd (nI_0le (by omega)) c8)
    refine go_iload_3 (DX6_reads.at 9 rfl) ?_
    refine go_if_ne 24 (DX6_reads.at 10 rfl) (by decide) (fun c16 => ?_) (fun c16 => absurd ((nI_eq0 (by omega)).mp c16) (by omega))
    refine go_aload_0 (DX6_reads.at 13 rfl) ?_
    refine go_iload_1 (DX6_reads.at 14 rfl) ?_
    refine go_iload_2 (DX6_reads.at 15 rfl) ?_
    refine go_iload_3 (DX6_reads.at 16 rfl) ?_
    refine go_cVx3 (DX6_reads.at 17 rfl) nX6_219 vX6_readMany (by omega) (m_readMany ht hc hW hX2 (by omega)) hX2.1.1 rfl (Nat.le_of_ble_eq_true rfl) ?_
    exact go_iret (DX6_reads.at 18 rfl) rfl rfl (RI.mk ⟨by unfold asF; rw [ceQ_in hA ht hc, cI_t q, wyF_s hW], i, _, hX2, hZr.mu MU.r10⟩)
  · refine go_istore_3 (DX6_reads.at 4 rfl) ?_
    refine go_iload_3 (DX6_reads.at 5 rfl) ?_
    refine go_if_ge 15 (DX6_reads.at 6 rfl) (by decide) (fun c8 => ?_) (fun c8 => absurd (by decide) c8)
    refine go_iload_3 (DX6_reads.at 9 rfl) ?_
    refine go_if_ne 24 (DX6_reads.at 10 rfl) (by decide) (fun c16 => absurd rfl c16) (fun c16 => ?_)
    refine go_bipush (v := (-4)) (DX6_reads.at 11 rfl) (by decide) ?_
    refine go_goto 31 (DX6_reads.at 12 rfl) (by decide) ?_
    exact go_iret (DX6_reads.at 18 rfl) rfl rfl (RI.mk ⟨by unfold asF; rw [ceQ_in hA ht hc, cI_t q, wyF_n hW], i, _, hX2, hZr.mu MU.r10⟩)
  

theorem y_mended {x y : Int32} (hZ : MZ G Z h b) (hd : 8 ≤ d) : Calls E mX6_mended d 0 0 [.ref b, .int x, .int y] h (RI (fun r h' => r = asF (zA Z) x y (fun _ _ v => nI v) (-4) ∧ MZ G Z h' b)) := by
  refine Calls.of (ls := [some (.ref b), some (.int x), some (.int y), none]) (by decide +kernel) rfl (Nat.le_of_ble_eq_true rfl) (cat_ok rfl) ?_
  obtain ⟨i, ρ, hX, hZr⟩ := hZ
  have hM := hX.1
  have hA := hX.2.2.1
  refine go_aload_0 (DX6_mended.at 0 rfl) ?_
  refine go_iload_1 (DX6_mended.at 1 rfl) ?_
  refine go_iload_2 (DX6_mended.at 2 rfl) ?_
  refine go_cVi2 (DX6_mended.at 3 rfl) nX6_216 vX6_way (by omega) (m_way hX (by omega)) hM.1 rfl (Nat.le_of_ble_eq_true rfl) (fun x3 h3 q3 => ?_)
  obtain ⟨⟨f, hX2⟩, q⟩ := q3
  rcases q with ⟨q, rfl⟩ | ⟨t, c, ht, hc, rfl, rfl, ⟨q, rfl⟩ | ⟨q, ⟨w, sc, X, hW, rfl⟩ | ⟨hW, rfl⟩⟩⟩
  · refine go_istore_3 (DX6_mended.at 4 rfl) ?_
    refine go_iload_3 (DX6_mended.at 5 rfl) ?_
    refine go_if_ge 15 (DX6_mended.at 6 rfl) (by decide) (fun c8 => absurd c8 (by decide)) (fun c8 => ?_)
    refine go_iload_3 (DX6_mended.at 7 rfl) ?_
    refine go_goto 31 (DX6_mended.at 8 rfl) (by decide) ?_
    exact go_iret (DX6_mended.at 18 rfl) rfl rfl (RI.mk ⟨(ceQ_out q).symm, i, _, hX2, hZr.mu MU.r10⟩)
  · refine go_istore_3 (DX6_mended.at 4 rfl) ?_
    refine go_iload_3 (DX6_mended.at 5 rfl) ?_
    refine go_if_ge 15 (DX6_mended.at 6 rfl) (by decide) (fun c8 => absurd c8 (by decide)) (fun c8 => ?_)
    refine go_iload_3 (DX6_mended.at 7 rfl) ?_
    refine go_goto 31 (DX6_mended.at 8 rfl) (by decide) ?_
    exact go_iret (DX6_mended.at 18 rfl) rfl rfl (RI.mk ⟨by unfold asF; rw [ceQ_in hA ht hc, cI_f q], i, _, hX2, hZr.mu MU.r10⟩)
  · have hw3 := hW.w
    refine go_istore_3 (DX6_mended.at 4 rfl) ?_
    refine go_iload_3 (DX6_mended.at 5 rfl) ?_
    refine go_if_ge 15 (DX6_mended.at 6 rfl) (by decide) (fun c8 => ?_) (fun c8 => absurd (nI_0le (by omega)) c8)
    refine go_iload_3 (DX6_mended.at 9 rfl) ?_
    refine go_if_ne 24 (DX6_mended.at 10 rfl) (by decide) (fun c16 => ?_) (fun c16 => absurd ((nI_eq0 (by omega)).mp c16) (by omega))
    refine go_aload_0 (DX6_mended.at 13 rfl) ?_
    refine go_iload_1 (DX6_mended.at 14 rfl) ?_
    refine go_iload_2 (DX6_mended.at 15 rfl) ?_
    refine go_iload_3 (DX6_mended.at 16 rfl) ?_
    refine go_cVi3 (DX6_mended.at 17 rfl) nX6_132 vX6_mendedValue (by omega) (m_mendedValue ht hc q hW hX2 (by omega)) hX2.1.1 rfl (Nat.le_of_ble_eq_true rfl) (fun x28 h28 q28 => ?_)
    obtain ⟨f3, q28, rfl⟩ := q28
    exact go_iret (DX6_mended.at 18 rfl) rfl rfl (RI.mk ⟨by unfold asF; rw [ceQ_in hA ht hc, cI_t q, wyF_s hW], i, _, ((hX2.row10 q28) : MX G h28 b i (rset (rset ρ 10 f) 10 f3) (zA Z)), hZr.mu (MU.r10.trans MU.r10)⟩)
  · refine go_istore_3 (DX6_mended.at 4 rfl) ?_
    refine go_iload_3 (DX6_mended.at 5 rfl) ?_
    refine go_if_ge 15 (DX6_mended.at 6 rfl) (by decide) (fun c8 => ?_) (fun c8 => absurd (by decide) c8)
    refine go_iload_3 (DX6_mended.at 9 rfl) ?_
    refine go_if_ne 24 (DX6_mended.at 10 rfl) (by decide) (fun c16 => absurd rfl c16) (fun c16 => ?_)
    refine go_bipush (v := (-4)) (DX6_mended.at 11 rfl) (by decide) ?_
    refine go_goto 31 (DX6_mended.at 12 rfl) (by decide) ?_
    exact go_iret (DX6_mended.at 18 rfl) rfl rfl (RI.mk ⟨by unfold asF; rw [ceQ_in hA ht hc, cI_t q, wyF_n hW], i, _, hX2, hZr.mu MU.r10⟩)
  

theorem y_culprit {x : Int32} (hZ : MZ G Z h b) (hd : 5 ≤ d) : Calls E mX6_culprit d 0 0 [.ref b, .int x] h (RI (fun r h' => r = cuF (zA Z) x ∧ MZ G Z h' b)) := by
  refine Calls.of (ls := [some (.ref b), some (.int x)]) (by decide +kernel) rfl (Nat.le_of_ble_eq_true rfl) (cat_ok rfl) ?_
  have hZ2 := hZ
  obtain ⟨i, ρ, hX, hZr⟩ := hZ
  have hM := hX.1
  have hTb := hX.2.1
  have hR := hX.2.2
  have hA := hR.1
  have hn := hA.1.nc
  have hT8 : aT (zA Z) ≤ 8 := hA.1.2.2.2.2.2.2.1
  have hg4 : aG (zA Z) ≤ 4 := hA.1.2.1
  have hs6 : aS (zA Z) ≤ 6 := hA.1.2.2.2.1
  have hs2 : 2 ≤ aS (zA Z) := hA.1.2.2.1
  have hg1 : 1 ≤ aG (zA Z) := hA.1.1
  have hgs : aG (zA Z) * aS (zA Z) ≤ 15 := hA.1.2.2.2.2.1
  have hH5 : aH (zA Z) ≤ 5 := hA.1.2.2.2.2.2.2.2
  have en : nc (aG (zA Z)) (aS (zA Z)) = aG (zA Z) * aS (zA Z) + aG (zA Z) + 2 := rfl
  refine go_aload_0 (DX6_culprit.at 0 rfl) ?_
  refine go_iload_1 (DX6_culprit.at 1 rfl) ?_
  refine go_cVx1 (DX6_culprit.at 2 rfl) nX6_55 vX6_isStripe (by omega) (m_isStripe hX (by omega)) hM.1 rfl (Nat.le_of_ble_eq_true rfl) ?_
  refine go_if_ne 10 (DX6_culprit.at 3 rfl) (by decide) (fun c5 => ?_) (fun c5 => ?_)
  · rw [bP_eq0, Classical.not_not] at c5
    obtain ⟨t, ht, rfl⟩ := inR_ex (by omega) c5
    have hm20 := hA.m20 ht
    refine go_aload_0 (DX6_culprit.at 6 rfl) ?_
    refine go_iload_1 (DX6_culprit.at 7 rfl) ?_
    refine go_cVx1 (DX6_culprit.at 8 rfl) nX6_114 vX6_lostCells (by omega) (m_lostCells ht hX (by omega)) hM.1 rfl (Nat.le_of_ble_eq_true rfl) ?_
    refine go_if_ne 26 (DX6_culprit.at 9 rfl) (by decide) (fun c15 => ?_) (fun c15 => ?_)
    · rw [nI_eq0 (by omega)] at c15
      have e4 : cuF (zA Z) (nI t) = -4 := by
        unfold cuF
        rw [stQ_in hA ht, cI_f c15]
      refine go_bipush (v := (-4)) (DX6_culprit.at 14 rfl) (by decide) ?_
      exact go_iret (DX6_culprit.at 15 rfl) rfl rfl (RI.mk (by first | exact ⟨e4.symm, hZ2⟩ | exact ⟨e0.symm, i2, ρ, ⟨q20, hX.2⟩, hZr.keep (fun s hs => gi s (by omega)) rfl rfl rfl⟩))
    · rw [nI_eq0 (by omega)] at c15
      refine go_aload_0 (DX6_culprit.at 10 rfl) ?_
      refine go_iload_1 (DX6_culprit.at 11 rfl) ?_
      refine go_cVi1 (DX6_culprit.at 12 rfl) nX6_179 vX6_findCulprit (by omega) (m_findCulprit ht c15 hX (by omega)) hM.1 rfl (Nat.le_of_ble_eq_true rfl) (fun x20 h20 q20 => ?_)
      obtain ⟨i2, q20, gi, e20, -⟩ := q20
      subst e20
      have e0 : cuF (zA Z) (nI t) = (match cpF (zA Z) t with | none => -5 | some c => nI c) := by
        unfold cuF
        rw [stQ_in hA ht, cI_t c15]
        rfl
      refine go_goto 28 (DX6_culprit.at 13 rfl) (by decide) ?_
      exact go_iret (DX6_culprit.at 15 rfl) rfl rfl (RI.mk (by first | exact ⟨e4.symm, hZ2⟩ | exact ⟨e0.symm, i2, ρ, ⟨q20, hX.2⟩, hZr.keep (fun s hs => gi s (by omega)) rfl rfl rfl⟩))
  · rw [bP_eq0] at c5
    refine go_iconst (v := (-1)) (DX6_culprit.at 4 rfl) (by decide) ?_
    exact go_iret (DX6_culprit.at 5 rfl) rfl rfl (RI.mk ⟨(stQ_out c5).symm, hZ2⟩)

theorem y_busiest (hZ : MZ G Z h b) (hd : 2 ≤ d) : Calls E mX6_busiest d 0 0 [.ref b] h (RI (fun r h' => r = bzF (zA Z) ∧ MZ G Z h' b)) := by
  refine Calls.of (ls := [some (.ref b), none, none, none]) (by decide +kernel) rfl (Nat.le_of_ble_eq_true rfl) (cat_ok rfl) ?_
  have hZ2 := hZ
  obtain ⟨i, ρ, hX, hZr⟩ := hZ
  have hM := hX.1
  have hTb := hX.2.1
  have hR := hX.2.2
  have hA := hR.1
  have hn := hA.1.nc
  have hT8 : aT (zA Z) ≤ 8 := hA.1.2.2.2.2.2.2.1
  have hg4 : aG (zA Z) ≤ 4 := hA.1.2.1
  have hs6 : aS (zA Z) ≤ 6 := hA.1.2.2.2.1
  have hs2 : 2 ≤ aS (zA Z) := hA.1.2.2.1
  have hg1 : 1 ≤ aG (zA Z) := hA.1.1
  have hgs : aG (zA Z) * aS (zA Z) ≤ 15 := hA.1.2.2.2.2.1
  have hH5 : aH (zA Z) ≤ 5 := hA.1.2.2.2.2.2.2.2
  have en : nc (aG (zA Z)) (aS (zA Z)) = aG (zA Z) * aS (zA Z) + aG (zA Z) + 2 := rfl
  have loop : ∀ (m j : Nat), j + m = nc (aG (zA Z)) (aS (zA Z)) → Go E mX6_busiest d 0 0 7 [some (.ref b), some (.int ((bzG (aL (zA Z)) j).1)), some (.int ((bzG (aL (zA Z)) j).2)), some (.int (nI j))] [] h (RI (fun r h' => r = bzF (zA Z) ∧ MZ G Z h' b)) := by
    intro m
    induction m with
    | zero =>
      intro j hj
      have ej : nc (aG (zA Z)) (aS (zA Z)) = j := by omega
      subst ej
      refine go_iload_3 (DX6_busiest.at 6 rfl) ?_
      refine go_aload_0 (DX6_busiest.at 7 rfl) ?_
      refine go_cVx0 (DX6_busiest.at 8 rfl) nX6_59 vX6_cells (by omega) (m_cells hX (by omega)) hM.1 rfl (Nat.le_of_ble_eq_true rfl) ?_
      refine go_icmp_ge 67 (DX6_busiest.at 9 rfl) (by decide) (fun c12 => ?_) (fun c12 => absurd (Int32.le_refl _) c12)
      refine go_iload_1 (DX6_busiest.at 41 rfl) ?_
      exact go_iret (DX6_busiest.at 42 rfl) rfl rfl (RI.mk ⟨rfl, hZ2⟩)
    | succ m ih =>
      intro j hj
      refine go_iload_3 (DX6_busiest.at 6 rfl) ?_
      refine go_aload_0 (DX6_busiest.at 7 rfl) ?_
      refine go_cVx0 (DX6_busiest.at 8 rfl) nX6_59 vX6_cells (by omega) (m_cells hX (by omega)) hM.1 rfl (Nat.le_of_ble_eq_true rfl) ?_
      refine go_icmp_ge 67 (DX6_busiest.at 9 rfl) (by decide) (fun c12 => absurd c12 (nI_ge (by omega) (by omega))) (fun c12 => ?_)
      refine go_aload_0 (DX6_busiest.at 10 rfl) ?_
      refine go_getfield (DX6_busiest.at 11 rfl) fX6_7 hM.1 rfl ?_
      refine go_bipush (v := nI 9) (DX6_busiest.at 12 rfl) (by decide) ?_
      refine go_iload_3 (DX6_busiest.at 13 rfl) ?_
      refine go_iadd (DX6_busiest.at 14 rfl) ?_
      rw [nI_add]
      refine go_ialdM (DX6_busiest.at 15 rfl) (hM.2.1 1 (by decide)) (show 9 + j < 349 by omega) (by decide) ?_
      rw [hR.2.2.2.2.1 j (by omega)]
      refine go_iload_2 (DX6_busiest.at 16 rfl) ?_
      refine go_icmp_le 32 (DX6_busiest.at 17 rfl) (by decide) (fun c25 => ?_) (fun c25 => ?_)
      · refine go_iload_1 (DX6_busiest.at 20 rfl) ?_
        refine go_istore_1 (DX6_busiest.at 21 rfl) ?_
        refine go_aload_0 (DX6_busiest.at 22 rfl) ?_
        refine go_getfield (DX6_busiest.at 23 rfl) fX6_7 hM.1 rfl ?_
        refine go_bipush (v := nI 9) (DX6_busiest.at 24 rfl) (by decide) ?_
        refine go_iload_3 (DX6_busiest.at 25 rfl) ?_
        refine go_iadd (DX6_busiest.at 26 rfl) ?_
        rw [nI_add]
        refine go_ialdM (DX6_busiest.at 27 rfl) (hM.2.1 1 (by decide)) (show 9 + j < 349 by omega) (by decide) ?_
        rw [hR.2.2.2.2.1 j (by omega)]
        refine go_iload_2 (DX6_busiest.at 28 rfl) ?_
        refine go_icmp_le 59 (DX6_busiest.at 29 rfl) (by decide) (fun c44 => ?_) (fun c44 => ?_)
        · refine go_iload_2 (DX6_busiest.at 37 rfl) ?_
          refine go_istore_2 (DX6_busiest.at 38 rfl) ?_
          refine go_iincN_3 (DX6_busiest.at 39 rfl) ?_
          refine go_goto 7 (DX6_busiest.at 40 rfl) (by decide) ?_
          have K := ih (j + 1) (by omega)
          first
            | exact absurd c25 c44
            | exact absurd c44 c25
            | (rw [show bzG (aL (zA Z)) (j + 1) = (nI j, aL (zA Z) j) from if_pos (Int32.not_le.mp c25)] at K; exact K)
            | (rw [show bzG (aL (zA Z)) (j + 1) = bzG (aL (zA Z)) j from if_neg (Int32.not_lt.mpr c25)] at K; exact K)
        · refine go_aload_0 (DX6_busiest.at 30 rfl) ?_
          refine go_getfield (DX6_busiest.at 31 rfl) fX6_7 hM.1 rfl ?_
          refine go_bipush (v := nI 9) (DX6_busiest.at 32 rfl) (by decide) ?_
          refine go_iload_3 (DX6_busiest.at 33 rfl) ?_
          refine go_iadd (DX6_busiest.at 34 rfl) ?_
          rw [nI_add]
          refine go_ialdM (DX6_busiest.at 35 rfl) (hM.2.1 1 (by decide)) (show 9 + j < 349 by omega) (by decide) ?_
          rw [hR.2.2.2.2.1 j (by omega)]
          refine go_goto 60 (DX6_busiest.at 36 rfl) (by decide) ?_
          refine go_istore_2 (DX6_busiest.at 38 rfl) ?_
          refine go_iincN_3 (DX6_busiest.at 39 rfl) ?_
          refine go_goto 7 (DX6_busiest.at 40 rfl) (by decide) ?_
          have K := ih (j + 1) (by omega)
          first
            | exact absurd c25 c44
            | exact absurd c44 c25
            | (rw [show bzG (aL (zA Z)) (j + 1) = (nI j, aL (zA Z) j) from if_pos (Int32.not_le.mp c25)] at K; exact K)
            | (rw [show bzG (aL (zA Z)) (j + 1) = bzG (aL (zA Z)) j from if_neg (Int32.not_lt.mpr c25)] at K; exact K)
      · refine go_iload_3 (DX6_busiest.at 18 rfl) ?_
        refine go_goto 33 (DX6_busiest.at 19 rfl) (by decide) ?_
        refine go_istore_1 (DX6_busiest.at 21 rfl) ?_
        refine go_aload_0 (DX6_busiest.at 22 rfl) ?_
        refine go_getfield (DX6_busiest.at 23 rfl) fX6_7 hM.1 rfl ?_
        refine go_bipush (v := nI 9) (DX6_busiest.at 24 rfl) (by decide) ?_
        refine go_iload_3 (DX6_busiest.at 25 rfl) ?_
        refine go_iadd (DX6_busiest.at 26 rfl) ?_
        rw [nI_add]
        refine go_ialdM (DX6_busiest.at 27 rfl) (hM.2.1 1 (by decide)) (show 9 + j < 349 by omega) (by decide) ?_
        rw [hR.2.2.2.2.1 j (by omega)]
        refine go_iload_2 (DX6_busiest.at 28 rfl) ?_
        refine go_icmp_le 59 (DX6_busiest.at 29 rfl) (by decide) (fun c44 => ?_) (fun c44 => ?_)
        · refine go_iload_2 (DX6_busiest.at 37 rfl) ?_
          refine go_istore_2 (DX6_busiest.at 38 rfl) ?_
          refine go_iincN_3 (DX6_busiest.at 39 rfl) ?_
          refine go_goto 7 (DX6_busiest.at 40 rfl) (by decide) ?_
          have K := ih (j + 1) (by omega)
          first
            | exact absurd c25 c44
            | exact absurd c44 c25
            | (rw [show bzG (aL (zA Z)) (j + 1) = (nI j, aL (zA Z) j) from if_pos (Int32.not_le.mp c25)] at K; exact K)
            | (rw [show bzG (aL (zA Z)) (j + 1) = bzG (aL (zA Z)) j from if_neg (Int32.not_lt.mpr c25)] at K; exact K)
        · refine go_aload_0 (DX6_busiest.at 30 rfl) ?_
          refine go_getfield (DX6_busiest.at 31 rfl) fX6_7 hM.1 rfl ?_
          refine go_bipush (v := nI 9) (DX6_busiest.at 32 rfl) (by decide) ?_
          refine go_iload_3 (DX6_busiest.at 33 rfl) ?_
          refine go_iadd (DX6_busiest.at 34 rfl) ?_
          rw [nI_add]
          refine go_ialdM (DX6_busiest.at 35 rfl) (hM.2.1 1 (by decide)) (show 9 + j < 349 by omega) (by decide) ?_
          rw [hR.2.2.2.2.1 j (by omega)]
          refine go_goto 60 (DX6_busiest.at 36 rfl) (by decide) ?_
          refine go_istore_2 (DX6_busiest.at 38 rfl) ?_
          refine go_iincN_3 (DX6_busiest.at 39 rfl) ?_
          refine go_goto 7 (DX6_busiest.at 40 rfl) (by decide) ?_
          have K := ih (j + 1) (by omega)
          first
            | exact absurd c25 c44
            | exact absurd c44 c25
            | (rw [show bzG (aL (zA Z)) (j + 1) = (nI j, aL (zA Z) j) from if_pos (Int32.not_le.mp c25)] at K; exact K)
            | (rw [show bzG (aL (zA Z)) (j + 1) = bzG (aL (zA Z)) j from if_neg (Int32.not_lt.mpr c25)] at K; exact K)
  refine go_bipush (v := (-5)) (DX6_busiest.at 0 rfl) (by decide) ?_
  refine go_istore_1 (DX6_busiest.at 1 rfl) ?_
  refine go_iconst (v := nI 0) (DX6_busiest.at 2 rfl) (by decide) ?_
  refine go_istore_2 (DX6_busiest.at 3 rfl) ?_
  refine go_iconst (v := nI 0) (DX6_busiest.at 4 rfl) (by decide) ?_
  refine go_istore_3 (DX6_busiest.at 5 rfl) ?_
  exact loop _ 0 (Nat.zero_add _)

theorem y_undo (hZ : MZ G Z h b) : Calls E mX6_undo d 0 0 [.ref b] h (RI (fun r h' => r = (unZ Z).1 ∧ MZ G (unZ Z).2 h' b)) := by
  refine Calls.of (ls := [some (.ref b), none]) (by decide +kernel) rfl (Nat.le_of_ble_eq_true rfl) (cat_ok rfl) ?_
  have hZ2 := hZ
  obtain ⟨i, ρ, hX, hZr⟩ := hZ
  have hM := hX.1
  have hn4 := hZr.2.1
  refine go_aload_0 (DX6_undo.at 0 rfl) ?_
  refine go_getfield (DX6_undo.at 1 rfl) fX6_69 hM.1 rfl ?_
  rw [hZr.1]
  refine go_if_ne 10 (DX6_undo.at 2 rfl) (by decide) (fun c4 => ?_) (fun c4 => ?_)
  · rw [nI_eq0 (by omega)] at c4
    obtain ⟨n, hn⟩ : ∃ n, zn Z = n + 1 := ⟨zn Z - 1, by omega⟩
    have e0 : unZ Z = (nI n, (zH Z n, (n, zH Z), Z.2.2)) := by
      unfold unZ
      rw [if_neg c4, show zn Z - 1 = n by omega]
    rw [e0]
    refine go_aload_0 (DX6_undo.at 5 rfl) ?_
    refine go_dup (DX6_undo.at 6 rfl) rfl ?_
    refine go_getfield (DX6_undo.at 7 rfl) fX6_69 hM.1 rfl ?_
    rw [hZr.1]
    refine go_iconst (v := nI 1) (DX6_undo.at 8 rfl) (by decide) ?_
    refine go_isub (DX6_undo.at 9 rfl) ?_
    rw [pk_sub (by omega), show zn Z - 1 = n by omega]
    refine go_putM6 (kf := 3) (s := 0) (DX6_undo.at 10 rfl) fX6_69 (by decide) hM (fun h17 q17 => ?_)
    refine go_iconst (v := nI 0) (DX6_undo.at 11 rfl) (by decide) ?_
    refine go_istore_1 (DX6_undo.at 12 rfl) ?_
    have loop : ∀ (m j : Nat) (h : List va_E) (f : Nat → Int32), j + m = 349 → MdAt G h b (upd i 0 (nI n)) (rset ρ 1 f) → (∀ k, k < j → f k = ρ 3 (349 * n + k)) → Go E mX6_undo d 0 0 22 [some (.ref b), some (.int (nI j))] [] h (RI (fun r h' => r = nI n ∧ MZ G (zH Z n, (n, zH Z), Z.2.2) h' b)) := by
      intro m
      induction m with
      | zero =>
        intro j h f hj q hf
        have ej : 349 = j := by omega
        subst ej
        refine go_iload_1 (DX6_undo.at 13 rfl) ?_
        refine go_sipush (v := nI 349) (DX6_undo.at 14 rfl) (by decide) ?_
        refine go_icmp_ge 56 (DX6_undo.at 15 rfl) (by decide) (fun c26 => ?_) (fun c26 => absurd (Int32.le_refl _) c26)
        refine go_aload_0 (DX6_undo.at 31 rfl) ?_
        refine go_getfield (DX6_undo.at 32 rfl) fX6_69 q.1 rfl ?_
        rw [pk_us]
        exact go_iret (DX6_undo.at 33 rfl) rfl rfl (RI.mk ⟨rfl, upd i 0 (nI n), rset ρ 1 f, ⟨q, hX.2.1, by rw [rset_s]; exact (hZr.2.2.1 n (by omega)).congr (fun k hk => hf k hk)⟩, by
          obtain ⟨a, b', c, d', e, f', g, k⟩ := hZr
          exact ⟨pk_us, (by show n ≤ 4; omega), fun j hj => c j (by have : j < n := hj; omega), (pk_un (by decide)).trans d', e, f', (pk_un (by decide)).trans g, k⟩⟩)
      | succ m ih =>
        intro j h f hj q hf
        refine go_iload_1 (DX6_undo.at 13 rfl) ?_
        refine go_sipush (v := nI 349) (DX6_undo.at 14 rfl) (by decide) ?_
        refine go_icmp_ge 56 (DX6_undo.at 15 rfl) (by decide) (fun c26 => absurd ((nI_leI (by omega) (by omega)).mp c26) (by omega)) (fun c26 => ?_)
        refine go_aload_0 (DX6_undo.at 16 rfl) ?_
        refine go_getfield (DX6_undo.at 17 rfl) fX6_7 q.1 rfl ?_
        refine go_iload_1 (DX6_undo.at 18 rfl) ?_
        refine go_aload_0 (DX6_undo.at 19 rfl) ?_
        refine go_getfield (DX6_undo.at 20 rfl) fX6_16 q.1 rfl ?_
        refine go_aload_0 (DX6_undo.at 21 rfl) ?_
        refine go_getfield (DX6_undo.at 22 rfl) fX6_69 q.1 rfl ?_
        rw [pk_us]
        refine go_sipush (v := nI 349) (DX6_undo.at 23 rfl) (by decide) ?_
        refine go_imul (DX6_undo.at 24 rfl) ?_
        rw [pk_mul, Nat.mul_comm]
        refine go_iload_1 (DX6_undo.at 25 rfl) ?_
        refine go_iadd (DX6_undo.at 26 rfl) ?_
        rw [nI_add]
        refine go_ialdM (DX6_undo.at 27 rfl) (q.2.1 3 (by decide)) (show 349 * n + j < 1396 by omega) (by decide) ?_
        rw [rset_n (by decide)]
        refine go_iastM (DX6_undo.at 28 rfl) q (a := 1) (by decide) (show j < 349 by omega) (fun h49 q49 => ?_)
        rw [rset_rset, rset_s] at q49
        refine go_iincN_1 (DX6_undo.at 29 rfl) ?_
        refine go_goto 22 (DX6_undo.at 30 rfl) (by decide) ?_
        exact ih (j + 1) _ _ (by omega) q49 (fun k hk => by
          by_cases e : k = j
          · rw [e, pk_us]
          · rw [pk_un e]
            exact hf k (by omega))
    exact loop 349 0 h17 (ρ 1) (Nat.zero_add _) (by rw [rset_self]; exact q17) (fun k hk => absurd hk (Nat.not_lt_zero k))
  · rw [nI_eq0 (by omega)] at c4
    have e0 : unZ Z = (-5, Z) := if_pos c4
    refine go_bipush (v := (-5)) (DX6_undo.at 3 rfl) (by decide) ?_
    exact go_iret (DX6_undo.at 4 rfl) rfl rfl (RI.mk (by rw [e0]; exact ⟨rfl, hZ2⟩))
theorem y_keep (hZ : MZ G Z h b) : Calls E mX6_keep d 0 0 [.ref b] h (RI (fun r h' => r = (keZ Z).1 ∧ MZ G (keZ Z).2 h' b)) := by
  refine Calls.of (ls := [some (.ref b), none]) (by decide +kernel) rfl (Nat.le_of_ble_eq_true rfl) (cat_ok rfl) ?_
  obtain ⟨i, ρ, hX, hZr⟩ := hZ
  have hM := hX.1
  have loop : ∀ (m j : Nat) (h : List va_E) (f : Nat → Int32), j + m = 349 → MdAt G h b i (rset ρ 4 f) → (∀ k, k < j → f k = ρ 1 k) → Go E mX6_keep d 0 0 2 [some (.ref b), some (.int (nI j))] [] h (RI (fun r h' => r = (keZ Z).1 ∧ MZ G (keZ Z).2 h' b)) := by
    intro m
    induction m with
    | zero =>
      intro j h f hj q hf
      have ej : 349 = j := by omega
      subst ej
      have q29 := q
      refine go_iload_1 (DX6_keep.at 2 rfl) ?_
      refine go_sipush (v := nI 349) (DX6_keep.at 3 rfl) (by decide) ?_
      refine go_icmp_ge 27 (DX6_keep.at 4 rfl) (by decide) (fun c6 => ?_) (fun c6 => absurd (Int32.le_refl _) c6)
      refine go_aload_0 (DX6_keep.at 15 rfl) ?_
      refine go_iconst (v := nI 1) (DX6_keep.at 16 rfl) (by decide) ?_
      refine go_putfield (DX6_keep.at 17 rfl) fX6_73 rfl rfl q.1 (Nat.le_of_ble_eq_true rfl) (fun w hw => by subst hw; exact ⟨rfl, rfl⟩) ?_
      replace q29 : MdAt G (h.set b (mdO b (upd i 1 (nI 1)))) b (upd i 1 (nI 1)) (rset ρ 4 f) := q.obj _
      refine go_aload_0 (DX6_keep.at 18 rfl) ?_
      refine go_getfield (DX6_keep.at 19 rfl) fX6_7 q29.1 rfl ?_
      refine go_bipush (v := nI 8) (DX6_keep.at 20 rfl) (by decide) ?_
      refine go_ialdM (DX6_keep.at 21 rfl) (q29.2.1 1 (by decide)) (show 8 < 349 by decide) (by decide) ?_
      rw [rset_n (by decide), show ρ 1 8 = (keZ Z).1 from hX.2.2.2.2.2.1]
      exact go_iret (DX6_keep.at 22 rfl) rfl rfl (RI.mk ⟨rfl, upd i 1 (nI 1), rset ρ 4 f, ⟨q29, hX.2.1, hX.2.2⟩, by
        obtain ⟨a, b', c, d', e, f', g, k⟩ := hZr
        exact ⟨(pk_un (by decide)).trans a, b', c, pk_us, Nat.le_refl 1, fun _ => by rw [rset_s]; exact hX.2.2.congr (fun k hk => hf k hk), (pk_un (by decide)).trans g, k⟩⟩)
    | succ m ih =>
      intro j h f hj q hf
      refine go_iload_1 (DX6_keep.at 2 rfl) ?_
      refine go_sipush (v := nI 349) (DX6_keep.at 3 rfl) (by decide) ?_
      refine go_icmp_ge 27 (DX6_keep.at 4 rfl) (by decide) (fun c6 => absurd ((nI_leI (by omega) (by omega)).mp c6) (by omega)) (fun c6 => ?_)
      refine go_aload_0 (DX6_keep.at 5 rfl) ?_
      refine go_getfield (DX6_keep.at 6 rfl) fX6_19 q.1 rfl ?_
      refine go_iload_1 (DX6_keep.at 7 rfl) ?_
      refine go_aload_0 (DX6_keep.at 8 rfl) ?_
      refine go_getfield (DX6_keep.at 9 rfl) fX6_7 q.1 rfl ?_
      refine go_iload_1 (DX6_keep.at 10 rfl) ?_
      refine go_ialdM (DX6_keep.at 11 rfl) (q.2.1 1 (by decide)) (show j < 349 by omega) (by decide) ?_
      rw [rset_n (by decide)]
      refine go_iastM (DX6_keep.at 12 rfl) q (a := 4) (by decide) (show j < 349 by omega) (fun h20 q20 => ?_)
      rw [rset_rset, rset_s] at q20
      refine go_iincN_1 (DX6_keep.at 13 rfl) ?_
      refine go_goto 2 (DX6_keep.at 14 rfl) (by decide) ?_
      exact ih (j + 1) _ _ (by omega) q20 (fun k hk => by
        by_cases e : k = j
        · rw [e, pk_us]
        · rw [pk_un e]
          exact hf k (by omega))
  refine go_iconst (v := nI 0) (DX6_keep.at 0 rfl) (by decide) ?_
  refine go_istore_1 (DX6_keep.at 1 rfl) ?_
  exact loop 349 0 h (ρ 4) (Nat.zero_add _) (by rw [rset_self]; exact hM) (fun k hk => absurd hk (Nat.not_lt_zero k))
theorem y_restore (hZ : MZ G Z h b) (hd : 3 ≤ d) : Calls E mX6_restore d 0 0 [.ref b] h (RI (fun r h' => r = (reZ Z).1 ∧ MZ G (reZ Z).2 h' b)) := by
  refine Calls.of (ls := [some (.ref b), none]) (by decide +kernel) rfl (Nat.le_of_ble_eq_true rfl) (cat_ok rfl) ?_
  have hZ2 := hZ
  obtain ⟨i, ρ, hX, hZr⟩ := hZ
  have hM := hX.1
  have hTb := hX.2.1
  have hR := hX.2.2
  have hk1 := hZr.2.2.2.2.1
  refine go_aload_0 (DX6_restore.at 0 rfl) ?_
  refine go_getfield (DX6_restore.at 1 rfl) fX6_73 hM.1 rfl ?_
  rw [hZr.2.2.2.1]
  refine go_if_ne 10 (DX6_restore.at 2 rfl) (by decide) (fun c4 => ?_) (fun c4 => ?_)
  · rw [nI_eq0 (by omega)] at c4
    have e0 : reZ Z = (nI (aQ (zS Z)).length, (zS Z, (recN (zn Z), recA (zn Z) (zH Z) (zA Z)), Z.2.2)) := if_neg c4
    rw [e0]
    have hS := hZr.2.2.2.2.2.1 (by omega)
    clear hZ2
    refine go_aload_0 (DX6_restore.at 5 rfl) ?_
    refine go_cVv0 (DX6_restore.at 6 rfl) nX6_77 vX6_remember (by omega) (m_remember hM) hM.1 rfl (Nat.le_of_ble_eq_true rfl) (fun h11 q11 => ?_)
    obtain ⟨f2, g2, q11⟩ := q11
    have hB2 : RepM (zA Z) (rset ρ 2 f2 2) := by
      rw [rset_s]
      exact hR.congr g2
    have hZ2 : MRest Z i (rset ρ 2 f2) := hZr.keep (fun _ _ => rfl) (rset_n (by decide)) (rset_n (by decide)) (rset_n (by decide))
    have hT2 : MTb (rset ρ 2 f2) := hTb
    have hS2 : RepM (zS Z) (rset ρ 2 f2 4) := hS
    clear hM hX hTb hR hZr g2 hS
    generalize rset ρ 2 f2 = ρ2 at q11 hB2 hZ2 hT2 hS2
    refine go_iconst (v := nI 0) (DX6_restore.at 7 rfl) (by decide) ?_
    refine go_istore_1 (DX6_restore.at 8 rfl) ?_
    have loop : ∀ (m j : Nat) (h : List va_E) (f : Nat → Int32), j + m = 349 → MdAt G h b i (rset ρ2 1 f) → (∀ k, k < j → f k = ρ2 4 k) → Go E mX6_restore d 0 0 16 [some (.ref b), some (.int (nI j))] [] h (RI (fun r h' => r = nI (aQ (zS Z)).length ∧ MZ G (zS Z, (recN (zn Z), recA (zn Z) (zH Z) (zA Z)), Z.2.2) h' b)) := by
      intro m
      induction m with
      | zero =>
        intro j h f hj q hf
        have ej : 349 = j := by omega
        subst ej
        have hRs : RepM (zS Z) (rset ρ2 1 f 1) := by
          rw [rset_s]
          exact hS2.congr (fun k hk => hf k hk)
        have hsl := hRs.1.q160
        refine go_iload_1 (DX6_restore.at 9 rfl) ?_
        refine go_sipush (v := nI 349) (DX6_restore.at 10 rfl) (by decide) ?_
        refine go_icmp_ge 41 (DX6_restore.at 11 rfl) (by decide) (fun c20 => ?_) (fun c20 => absurd (Int32.le_refl _) c20)
        refine go_aload_0 (DX6_restore.at 22 rfl) ?_
        refine go_aload_0 (DX6_restore.at 23 rfl) ?_
        refine go_getfield (DX6_restore.at 24 rfl) fX6_7 q.1 rfl ?_
        refine go_bipush (v := nI 8) (DX6_restore.at 25 rfl) (by decide) ?_
        refine go_ialdM (DX6_restore.at 26 rfl) (q.2.1 1 (by decide)) (show 8 < 349 by decide) (by decide) ?_
        rw [show rset ρ2 1 f 1 8 = nI (aQ (zS Z)).length from hRs.2.2.2.1]
        refine go_cVi1 (DX6_restore.at 27 rfl) nX6_80 vX6_changed (by omega) (m_changedZ (R := (nI (aQ (zS Z)).length, zS Z)) q hT2 (by rw [rset_n (by decide)]; exact hB2) (hZ2.mu MU.r1) hRs (NG.pos (by omega))) q.1 rfl (Nat.le_of_ble_eq_true rfl) (fun x49 h49 q49 => ?_)
        exact go_iret (DX6_restore.at 28 rfl) rfl rfl (RI.mk (by rw [chZ_yes (R := (nI (aQ (zS Z)).length, zS Z)) (nI_pos (by omega))] at q49; exact q49))
      | succ m ih =>
        intro j h f hj q hf
        refine go_iload_1 (DX6_restore.at 9 rfl) ?_
        refine go_sipush (v := nI 349) (DX6_restore.at 10 rfl) (by decide) ?_
        refine go_icmp_ge 41 (DX6_restore.at 11 rfl) (by decide) (fun c20 => absurd ((nI_leI (by omega) (by omega)).mp c20) (by omega)) (fun c20 => ?_)
        refine go_aload_0 (DX6_restore.at 12 rfl) ?_
        refine go_getfield (DX6_restore.at 13 rfl) fX6_7 q.1 rfl ?_
        refine go_iload_1 (DX6_restore.at 14 rfl) ?_
        refine go_aload_0 (DX6_restore.at 15 rfl) ?_
        refine go_getfield (DX6_restore.at 16 rfl) fX6_19 q.1 rfl ?_
        refine go_iload_1 (DX6_restore.at 17 rfl) ?_
        refine go_ialdM (DX6_restore.at 18 rfl) (q.2.1 4 (by decide)) (show j < 349 by omega) (by decide) ?_
        rw [rset_n (by decide)]
        refine go_iastM (DX6_restore.at 19 rfl) q (a := 1) (by decide) (show j < 349 by omega) (fun h34 q34 => ?_)
        rw [rset_rset, rset_s] at q34
        refine go_iincN_1 (DX6_restore.at 20 rfl) ?_
        refine go_goto 16 (DX6_restore.at 21 rfl) (by decide) ?_
        exact ih (j + 1) _ _ (by omega) q34 (fun k hk => by
          by_cases e : k = j
          · rw [e, pk_us]
          · rw [pk_un e]
            exact hf k (by omega))
    exact loop 349 0 h11 (ρ2 1) (Nat.zero_add _) (by rw [rset_self]; exact q11) (fun k hk => absurd hk (Nat.not_lt_zero k))
  · rw [nI_eq0 (by omega)] at c4
    have e0 : reZ Z = (-5, Z) := if_pos c4
    refine go_bipush (v := (-5)) (DX6_restore.at 3 rfl) (by decide) ?_
    exact go_iret (DX6_restore.at 4 rfl) rfl rfl (RI.mk (by rw [e0]; exact ⟨rfl, hZ2⟩))
theorem y_type {v : Nat} (hv : v < 65536) (hZ : MZ G Z h b) : Calls E mX6_type d 0 0 [.ref b, .int (nI v)] h (RI (fun r h' => r = (tyZ Z v).1 ∧ MZ G (tyZ Z v).2 h' b)) := by
  refine Calls.of (ls := [some (.ref b), some (.int (nI v))]) (by decide +kernel) rfl (Nat.le_of_ble_eq_true rfl) (cat_ok rfl) ?_
  have hZ2 := hZ
  obtain ⟨i, ρ, hX, hZr⟩ := hZ
  have hM := hX.1
  have hN60 := hZr.2.2.2.2.2.2.2.1
  have hl := hZr.2.2.2.2.2.2.1
  refine go_aload_0 (DX6_type.at 0 rfl) ?_
  refine go_getfield (DX6_type.at 1 rfl) fX6_182 hM.1 rfl ?_
  rw [hl]
  refine go_bipush (v := nI 60) (DX6_type.at 2 rfl) (by decide) ?_
  refine go_icmp_ne 12 (DX6_type.at 3 rfl) (by decide) (fun c6 => ?_) (fun c6 => ?_)
  · rw [nI_eq (by omega) (by decide)] at c6
    have e0 : tyZ Z v = (nI (zN Z + 1), (zA Z, Z.2.1, Z.2.2.1, (zN Z + 1, fun j => if j = zN Z then v else zY Z j))) := if_pos (by omega)
    refine go_aload_0 (DX6_type.at 6 rfl) ?_
    refine go_getfield (DX6_type.at 7 rfl) fX6_22 hM.1 rfl ?_
    refine go_aload_0 (DX6_type.at 8 rfl) ?_
    refine go_getfield (DX6_type.at 9 rfl) fX6_182 hM.1 rfl ?_
    rw [hl]
    refine go_iload_1 (DX6_type.at 10 rfl) ?_
    refine go_iastM (DX6_type.at 11 rfl) hM (a := 5) (by decide) (show zN Z < 60 by omega) (fun h21 q21 => ?_)
    refine go_aload_0 (DX6_type.at 12 rfl) ?_
    refine go_dup (DX6_type.at 13 rfl) rfl ?_
    refine go_getfield (DX6_type.at 14 rfl) fX6_182 q21.1 rfl ?_
    rw [hl]
    refine go_iconst (v := nI 1) (DX6_type.at 15 rfl) (by decide) ?_
    refine go_iadd (DX6_type.at 16 rfl) ?_
    rw [nI_add]
    refine go_putM6 (kf := 7) (s := 2) (DX6_type.at 17 rfl) fX6_182 (by decide) q21 (fun h29 q29 => ?_)
    refine go_aload_0 (DX6_type.at 18 rfl) ?_
    refine go_getfield (DX6_type.at 19 rfl) fX6_182 q29.1 rfl ?_
    rw [pk_us]
    exact go_iret (DX6_type.at 20 rfl) rfl rfl (RI.mk (by
      rw [e0]
      refine ⟨rfl, _, _, ⟨q29, hX.2.1, hX.2.2⟩, ?_⟩
      obtain ⟨a, b', c, d', e, f', g, k1, k2⟩ := hZr
      refine ⟨(pk_un (by decide)).trans a, b', c, (pk_un (by decide)).trans d', e, f', pk_us, (show zN Z + 1 ≤ 60 by omega), fun j hj => ?_⟩
      have hj2 : j < zN Z + 1 := hj
      rw [rset_s]
      show upd (ρ 5) (zN Z) (nI v) j = nI (if j = zN Z then v else zY Z j) ∧ (if j = zN Z then v else zY Z j) < 65536
      by_cases ej : j = zN Z
      · rw [if_pos ej, ej, pk_us]
        exact ⟨rfl, hv⟩
      · rw [if_neg ej, pk_un ej]
        exact k2 j (by omega)))
  · rw [nI_eq (by omega) (by decide)] at c6
    have e0 : tyZ Z v = (-3, Z) := if_neg (by omega)
    refine go_bipush (v := (-3)) (DX6_type.at 4 rfl) (by decide) ?_
    exact go_iret (DX6_type.at 5 rfl) rfl rfl (RI.mk (by rw [e0]; exact ⟨rfl, hZ2⟩))
theorem y_clearText (hZ : MZ G Z h b) : Calls E mX6_clearText d 0 0 [.ref b] h (RI (fun r h' => r = (clZ Z).1 ∧ MZ G (clZ Z).2 h' b)) := by
  refine Calls.of (ls := [some (.ref b), none]) (by decide +kernel) rfl (Nat.le_of_ble_eq_true rfl) (cat_ok rfl) ?_
  obtain ⟨i, ρ, hX, hZr⟩ := hZ
  have hM := hX.1
  have hl := hZr.2.2.2.2.2.2.1
  refine go_aload_0 (DX6_clearText.at 0 rfl) ?_
  refine go_getfield (DX6_clearText.at 1 rfl) fX6_182 hM.1 rfl ?_
  rw [hl]
  refine go_istore_1 (DX6_clearText.at 2 rfl) ?_
  refine go_aload_0 (DX6_clearText.at 3 rfl) ?_
  refine go_iconst (v := nI 0) (DX6_clearText.at 4 rfl) (by decide) ?_
  refine go_putM6 (kf := 7) (s := 2) (DX6_clearText.at 5 rfl) fX6_182 (by decide) hM (fun h7 q7 => ?_)
  refine go_iload_1 (DX6_clearText.at 6 rfl) ?_
  exact go_iret (DX6_clearText.at 7 rfl) rfl rfl (RI.mk ⟨rfl, _, ρ, ⟨q7, hX.2⟩, by
    obtain ⟨a, b', c, d', e, f', g, k1, k2⟩ := hZr
    exact ⟨(pk_un (by decide)).trans a, b', c, (pk_un (by decide)).trans d', e, f', pk_us, Nat.zero_le _, fun j hj => absurd hj (Nat.not_lt_zero j)⟩⟩)
end M6
