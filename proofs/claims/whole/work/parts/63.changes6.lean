/-! THE MODEL: changes, in the store's words -/
theorem chZ_m {Z : Zt} {A : Ab} {v : Int32} (h : v < 0) : chZ Z (v, A) = (v, Z) := cI_t h
theorem mnF_ng {A : Ab} {x : Int32} (hA : AOK A) (h : (mnF A x).1 ≠ -4) : NG (mnF A x) A := by
  have h8 : aT A ≤ 8 := hA.1.2.2.2.2.2.2.1
  unfold mnF at h ⊢
  by_cases q : inR x (nc (aG A) (aS A))
  · rw [cI_t q] at h ⊢
    cases e : mnG x.toNatClampNeg (aT A) 0 A with
    | none =>
      rw [e] at h
      exact absurd rfl h
    | some r =>
      have q2 := mnG_0r (aT A) 0 A r hA (Nat.zero_add _) e
      exact NG.cn (by omega) q2.2
  · rw [cI_f q]
    exact NG.same
theorem RepM.new {A : Ab} {m' : Nat → Int32} {g s T sh : Nat} (hL : LayOK g s T sh) (h0 : m' 0 = nI g) (h1 : m' 1 = nI s) (h2 : m' 2 = nI T) (h3 : m' 3 = nI sh) (hK : ∀ k, k < 4 → m' (4 + k) = aK A k) (h8 : m' 8 = nI 0) (hz : ∀ k, 9 ≤ k → k < 349 → m' k = nI 0) : RepM (aNew A g s T sh) m' := by
  have hn := hL.nc
  have hT8 : T ≤ 8 := hL.2.2.2.2.2.2.1
  exact ⟨zero_ok hL, ⟨h0, h1, h2, h3⟩, hK, h8, fun j hj => hz _ (by omega) (by omega), fun t ht c hc hb => absurd hb (nbit0 c), fun t ht c hc _ => hz _ (by omega) (by have : t < T := ht; have : c < nc g s := hc; omega), fun k x hx => by cases hx⟩
section M6
variable {E : AEnv} {d : Nat} {h h' : List va_E} {b : Nat} {G : Nat → Option va_E} {Z : Zt}
theorem y_write {x y z : Int32} (hZ : MZ G Z h b) (hd : 6 ≤ d) : Calls E mX6_write d 0 0 [.ref b, .int x, .int y, .int z] h (RI (fun r h' => r = (chZ Z (wrF (zA Z) x y z)).1 ∧ MZ G (chZ Z (wrF (zA Z) x y z)).2 h' b)) := by
  refine Calls.of (ls := [some (.ref b), some (.int x), some (.int y), some (.int z)]) (by decide +kernel) rfl (Nat.le_of_ble_eq_true rfl) (cat_ok rfl) ?_
  obtain ⟨i, ρ, hX, hZr⟩ := hZ
  have hM := hX.1
  have hTb := hX.2.1
  have hR := hX.2.2
  have hA := hR.1
  have hn := hA.1.nc
  have hT8 : aT (zA Z) ≤ 8 := hA.1.2.2.2.2.2.2.1
  have hg4 : aG (zA Z) ≤ 4 := hA.1.2.1
  have hs6 : aS (zA Z) ≤ 6 := hA.1.2.2.2.1
  have hs2 : 2 ≤ aS (zA Z) := hA.1.2.2.1
  have hg1 : 1 ≤ aG (zA Z) := hA.1.1
  have hgs : aG (zA Z) * aS (zA Z) ≤ 15 := hA.1.2.2.2.2.1
  have hH5 : aH (zA Z) ≤ 5 := hA.1.2.2.2.2.2.2.2
  have en : nc (aG (zA Z)) (aS (zA Z)) = aG (zA Z) * aS (zA Z) + aG (zA Z) + 2 := rfl
  refine go_aload_0 (DX6_write.at 0 rfl) ?_
  refine go_cVv0 (DX6_write.at 1 rfl) nX6_77 vX6_remember (by omega) (m_remember hM) hM.1 rfl (Nat.le_of_ble_eq_true rfl) (fun h1 q1 => ?_)
  obtain ⟨f2, g2, q1⟩ := q1
  have hX2 : MX G h1 b i (rset ρ 2 f2) (zA Z) := ⟨q1, hTb, hR⟩
  have hB2 : RepM (zA Z) (rset ρ 2 f2 2) := by
    rw [rset_s]
    exact hR.congr g2
  have hZ2 : MRest Z i (rset ρ 2 f2) := hZr.keep (fun _ _ => rfl) (rset_n (by decide)) (rset_n (by decide)) (rset_n (by decide))
  have hT2 := hX2.2.1
  clear hM hX hTb hR hZr g2
  generalize rset ρ 2 f2 = ρ2 at q1 hX2 hB2 hZ2 hT2
  refine go_aload_0 (DX6_write.at 2 rfl) ?_
  refine go_aload_0 (DX6_write.at 3 rfl) ?_
  refine go_iload_1 (DX6_write.at 4 rfl) ?_
  refine go_iload_2 (DX6_write.at 5 rfl) ?_
  refine go_iload_3 (DX6_write.at 6 rfl) ?_
  refine go_cVi3 (DX6_write.at 7 rfl) nX6_155 vX6_writeCell (by omega) (m_writeCell hX2 (by omega)) q1.1 rfl (Nat.le_of_ble_eq_true rfl) (fun x9 h9 q9 => ?_)
  obtain ⟨ρ3, q9, u9, e9, r9⟩ := q9
  subst e9
  refine go_cVi1 (DX6_write.at 8 rfl) nX6_80 vX6_changed (by omega) (m_changedZ q9 (u9.tb hT2) (by rw [u9 2 (by decide) (by decide)]; exact hB2) (hZ2.mu u9) r9 (wrF_ng hA)) q9.1 rfl (Nat.le_of_ble_eq_true rfl) (fun x12 h12 q12 => ?_)
  exact go_iret (DX6_write.at 9 rfl) rfl rfl (RI.mk q12)

theorem y_lose {x y : Int32} (hZ : MZ G Z h b) (hd : 6 ≤ d) : Calls E mX6_lose d 0 0 [.ref b, .int x, .int y] h (RI (fun r h' => r = (chZ Z (loF (zA Z) x y)).1 ∧ MZ G (chZ Z (loF (zA Z) x y)).2 h' b)) := by
  refine Calls.of (ls := [some (.ref b), some (.int x), some (.int y)]) (by decide +kernel) rfl (Nat.le_of_ble_eq_true rfl) (cat_ok rfl) ?_
  obtain ⟨i, ρ, hX, hZr⟩ := hZ
  have hM := hX.1
  have hTb := hX.2.1
  have hR := hX.2.2
  have hA := hR.1
  have hn := hA.1.nc
  have hT8 : aT (zA Z) ≤ 8 := hA.1.2.2.2.2.2.2.1
  have hg4 : aG (zA Z) ≤ 4 := hA.1.2.1
  have hs6 : aS (zA Z) ≤ 6 := hA.1.2.2.2.1
  have hs2 : 2 ≤ aS (zA Z) := hA.1.2.2.1
  have hg1 : 1 ≤ aG (zA Z) := hA.1.1
  have hgs : aG (zA Z) * aS (zA Z) ≤ 15 := hA.1.2.2.2.2.1
  have hH5 : aH (zA Z) ≤ 5 := hA.1.2.2.2.2.2.2.2
  have en : nc (aG (zA Z)) (aS (zA Z)) = aG (zA Z) * aS (zA Z) + aG (zA Z) + 2 := rfl
  refine go_aload_0 (DX6_lose.at 0 rfl) ?_
  refine go_cVv0 (DX6_lose.at 1 rfl) nX6_77 vX6_remember (by omega) (m_remember hM) hM.1 rfl (Nat.le_of_ble_eq_true rfl) (fun h1 q1 => ?_)
  obtain ⟨f2, g2, q1⟩ := q1
  have hX2 : MX G h1 b i (rset ρ 2 f2) (zA Z) := ⟨q1, hTb, hR⟩
  have hB2 : RepM (zA Z) (rset ρ 2 f2 2) := by
    rw [rset_s]
    exact hR.congr g2
  have hZ2 : MRest Z i (rset ρ 2 f2) := hZr.keep (fun _ _ => rfl) (rset_n (by decide)) (rset_n (by decide)) (rset_n (by decide))
  have hT2 := hX2.2.1
  clear hM hX hTb hR hZr g2
  generalize rset ρ 2 f2 = ρ2 at q1 hX2 hB2 hZ2 hT2
  refine go_aload_0 (DX6_lose.at 2 rfl) ?_
  refine go_aload_0 (DX6_lose.at 3 rfl) ?_
  refine go_iload_1 (DX6_lose.at 4 rfl) ?_
  refine go_iload_2 (DX6_lose.at 5 rfl) ?_
  refine go_cVi2 (DX6_lose.at 6 rfl) nX6_161 vX6_loseCell (by omega) (m_loseCell hX2 (by omega)) q1.1 rfl (Nat.le_of_ble_eq_true rfl) (fun x8 h8 q8 => ?_)
  obtain ⟨ρ3, q8, u8, e8, r8⟩ := q8
  subst e8
  refine go_cVi1 (DX6_lose.at 7 rfl) nX6_80 vX6_changed (by omega) (m_changedZ q8 (u8.tb hT2) (by rw [u8 2 (by decide) (by decide)]; exact hB2) (hZ2.mu u8) r8 (loF_ng hA)) q8.1 rfl (Nat.le_of_ble_eq_true rfl) (fun x11 h11 q11 => ?_)
  exact go_iret (DX6_lose.at 8 rfl) rfl rfl (RI.mk q11)

theorem y_loseNode {x : Int32} (hZ : MZ G Z h b) (hd : 6 ≤ d) : Calls E mX6_loseNode d 0 0 [.ref b, .int x] h (RI (fun r h' => r = (chZ Z (lsF (zA Z) x)).1 ∧ MZ G (chZ Z (lsF (zA Z) x)).2 h' b)) := by
  refine Calls.of (ls := [some (.ref b), some (.int x)]) (by decide +kernel) rfl (Nat.le_of_ble_eq_true rfl) (cat_ok rfl) ?_
  obtain ⟨i, ρ, hX, hZr⟩ := hZ
  have hM := hX.1
  have hTb := hX.2.1
  have hR := hX.2.2
  have hA := hR.1
  have hn := hA.1.nc
  have hT8 : aT (zA Z) ≤ 8 := hA.1.2.2.2.2.2.2.1
  have hg4 : aG (zA Z) ≤ 4 := hA.1.2.1
  have hs6 : aS (zA Z) ≤ 6 := hA.1.2.2.2.1
  have hs2 : 2 ≤ aS (zA Z) := hA.1.2.2.1
  have hg1 : 1 ≤ aG (zA Z) := hA.1.1
  have hgs : aG (zA Z) * aS (zA Z) ≤ 15 := hA.1.2.2.2.2.1
  have hH5 : aH (zA Z) ≤ 5 := hA.1.2.2.2.2.2.2.2
  have en : nc (aG (zA Z)) (aS (zA Z)) = aG (zA Z) * aS (zA Z) + aG (zA Z) + 2 := rfl
  refine go_aload_0 (DX6_loseNode.at 0 rfl) ?_
  refine go_cVv0 (DX6_loseNode.at 1 rfl) nX6_77 vX6_remember (by omega) (m_remember hM) hM.1 rfl (Nat.le_of_ble_eq_true rfl) (fun h1 q1 => ?_)
  obtain ⟨f2, g2, q1⟩ := q1
  have hX2 : MX G h1 b i (rset ρ 2 f2) (zA Z) := ⟨q1, hTb, hR⟩
  have hB2 : RepM (zA Z) (rset ρ 2 f2 2) := by
    rw [rset_s]
    exact hR.congr g2
  have hZ2 : MRest Z i (rset ρ 2 f2) := hZr.keep (fun _ _ => rfl) (rset_n (by decide)) (rset_n (by decide)) (rset_n (by decide))
  have hT2 := hX2.2.1
  clear hM hX hTb hR hZr g2
  generalize rset ρ 2 f2 = ρ2 at q1 hX2 hB2 hZ2 hT2
  refine go_aload_0 (DX6_loseNode.at 2 rfl) ?_
  refine go_aload_0 (DX6_loseNode.at 3 rfl) ?_
  refine go_iload_1 (DX6_loseNode.at 4 rfl) ?_
  refine go_cVi1 (DX6_loseNode.at 5 rfl) nX6_164 vX6_loseAll (by omega) (m_loseAll hX2 (by omega)) q1.1 rfl (Nat.le_of_ble_eq_true rfl) (fun x7 h7 q7 => ?_)
  obtain ⟨ρ3, q7, u7, e7, r7⟩ := q7
  subst e7
  refine go_cVi1 (DX6_loseNode.at 6 rfl) nX6_80 vX6_changed (by omega) (m_changedZ q7 (u7.tb hT2) (by rw [u7 2 (by decide) (by decide)]; exact hB2) (hZ2.mu u7) r7 (lsF_ng hA)) q7.1 rfl (Nat.le_of_ble_eq_true rfl) (fun x10 h10 q10 => ?_)
  exact go_iret (DX6_loseNode.at 7 rfl) rfl rfl (RI.mk q10)

theorem y_mend {x y : Int32} (hZ : MZ G Z h b) (hd : 9 ≤ d) : Calls E mX6_mend d 0 0 [.ref b, .int x, .int y] h (RI (fun r h' => r = (chZ Z (mdF (zA Z) x y)).1 ∧ MZ G (chZ Z (mdF (zA Z) x y)).2 h' b)) := by
  refine Calls.of (ls := [some (.ref b), some (.int x), some (.int y)]) (by decide +kernel) rfl (Nat.le_of_ble_eq_true rfl) (cat_ok rfl) ?_
  obtain ⟨i, ρ, hX, hZr⟩ := hZ
  have hM := hX.1
  have hTb := hX.2.1
  have hR := hX.2.2
  have hA := hR.1
  have hn := hA.1.nc
  have hT8 : aT (zA Z) ≤ 8 := hA.1.2.2.2.2.2.2.1
  have hg4 : aG (zA Z) ≤ 4 := hA.1.2.1
  have hs6 : aS (zA Z) ≤ 6 := hA.1.2.2.2.1
  have hs2 : 2 ≤ aS (zA Z) := hA.1.2.2.1
  have hg1 : 1 ≤ aG (zA Z) := hA.1.1
  have hgs : aG (zA Z) * aS (zA Z) ≤ 15 := hA.1.2.2.2.2.1
  have hH5 : aH (zA Z) ≤ 5 := hA.1.2.2.2.2.2.2.2
  have en : nc (aG (zA Z)) (aS (zA Z)) = aG (zA Z) * aS (zA Z) + aG (zA Z) + 2 := rfl
  refine go_aload_0 (DX6_mend.at 0 rfl) ?_
  refine go_cVv0 (DX6_mend.at 1 rfl) nX6_77 vX6_remember (by omega) (m_remember hM) hM.1 rfl (Nat.le_of_ble_eq_true rfl) (fun h1 q1 => ?_)
  obtain ⟨f2, g2, q1⟩ := q1
  have hX2 : MX G h1 b i (rset ρ 2 f2) (zA Z) := ⟨q1, hTb, hR⟩
  have hB2 : RepM (zA Z) (rset ρ 2 f2 2) := by
    rw [rset_s]
    exact hR.congr g2
  have hZ2 : MRest Z i (rset ρ 2 f2) := hZr.keep (fun _ _ => rfl) (rset_n (by decide)) (rset_n (by decide)) (rset_n (by decide))
  have hT2 := hX2.2.1
  clear hM hX hTb hR hZr g2
  generalize rset ρ 2 f2 = ρ2 at q1 hX2 hB2 hZ2 hT2
  refine go_aload_0 (DX6_mend.at 2 rfl) ?_
  refine go_aload_0 (DX6_mend.at 3 rfl) ?_
  refine go_iload_1 (DX6_mend.at 4 rfl) ?_
  refine go_iload_2 (DX6_mend.at 5 rfl) ?_
  refine go_cVi2 (DX6_mend.at 6 rfl) nX6_152 vX6_mendCell (by omega) (m_mendCell hX2 (by omega)) q1.1 rfl (Nat.le_of_ble_eq_true rfl) (fun x8 h8 q8 => ?_)
  obtain ⟨ρ3, q8, u8, e8, r8⟩ := q8
  subst e8
  refine go_cVi1 (DX6_mend.at 7 rfl) nX6_80 vX6_changed (by omega) (m_changedZ q8 (u8.tb hT2) (by rw [u8 2 (by decide) (by decide)]; exact hB2) (hZ2.mu u8) r8 mdF_ng) q8.1 rfl (Nat.le_of_ble_eq_true rfl) (fun x11 h11 q11 => ?_)
  exact go_iret (DX6_mend.at 8 rfl) rfl rfl (RI.mk q11)

theorem y_mendNode {x : Int32} (hZ : MZ G Z h b) (hd : 10 ≤ d) : Calls E mX6_mendNode d 0 0 [.ref b, .int x] h (RI (fun r h' => r = (chZ Z (mnF (zA Z) x)).1 ∧ MZ G (chZ Z (mnF (zA Z) x)).2 h' b)) := by
  refine Calls.of (ls := [some (.ref b), some (.int x), none]) (by decide +kernel) rfl (Nat.le_of_ble_eq_true rfl) (cat_ok rfl) ?_
  obtain ⟨i, ρ, hX, hZr⟩ := hZ
  have hM := hX.1
  have hTb := hX.2.1
  have hR := hX.2.2
  have hA := hR.1
  have hn := hA.1.nc
  have hT8 : aT (zA Z) ≤ 8 := hA.1.2.2.2.2.2.2.1
  have hg4 : aG (zA Z) ≤ 4 := hA.1.2.1
  have hs6 : aS (zA Z) ≤ 6 := hA.1.2.2.2.1
  have hs2 : 2 ≤ aS (zA Z) := hA.1.2.2.1
  have hg1 : 1 ≤ aG (zA Z) := hA.1.1
  have hgs : aG (zA Z) * aS (zA Z) ≤ 15 := hA.1.2.2.2.2.1
  have hH5 : aH (zA Z) ≤ 5 := hA.1.2.2.2.2.2.2.2
  have en : nc (aG (zA Z)) (aS (zA Z)) = aG (zA Z) * aS (zA Z) + aG (zA Z) + 2 := rfl
  refine go_aload_0 (DX6_mendNode.at 0 rfl) ?_
  refine go_cVv0 (DX6_mendNode.at 1 rfl) nX6_77 vX6_remember (by omega) (m_remember hM) hM.1 rfl (Nat.le_of_ble_eq_true rfl) (fun h1 q1 => ?_)
  obtain ⟨f2, g2, q1⟩ := q1
  have hX2 : MX G h1 b i (rset ρ 2 f2) (zA Z) := ⟨q1, hTb, hR⟩
  have hB2 : RepM (zA Z) (rset ρ 2 f2 2) := by
    rw [rset_s]
    exact hR.congr g2
  have hZ2 : MRest Z i (rset ρ 2 f2) := hZr.keep (fun _ _ => rfl) (rset_n (by decide)) (rset_n (by decide)) (rset_n (by decide))
  have hT2 := hX2.2.1
  clear hM hX hTb hR hZr g2
  generalize rset ρ 2 f2 = ρ2 at q1 hX2 hB2 hZ2 hT2
  refine go_aload_0 (DX6_mendNode.at 2 rfl) ?_
  refine go_iload_1 (DX6_mendNode.at 3 rfl) ?_
  refine go_cVi1 (DX6_mendNode.at 4 rfl) nX6_167 vX6_mendAll (by omega) (m_mendAll hX2 (by omega)) q1.1 rfl (Nat.le_of_ble_eq_true rfl) (fun x6 h6 q6 => ?_)
  obtain ⟨ρ3, q6, u6, e6, r6⟩ := q6
  have hB3 : RepM (zA Z) (ρ3 2) := by rw [u6 2 (by decide) (by decide)]; exact hB2
  have hT3 := u6.tb hT2
  have hZ3 := hZ2.mu u6
  subst e6
  refine go_istore_2 (DX6_mendNode.at 5 rfl) ?_
  by_cases h4 : (mnF (zA Z) x).1 = -4
  · refine go_iload_2 (DX6_mendNode.at 6 rfl) ?_
    refine go_bipush (v := (-4)) (DX6_mendNode.at 7 rfl) (by decide) ?_
    refine go_icmp_ne 20 (DX6_mendNode.at 8 rfl) (by decide) (fun c13 => absurd h4 c13) (fun c13 => ?_)
    refine go_aload_0 (DX6_mendNode.at 9 rfl) ?_
    refine go_cVv0 (DX6_mendNode.at 10 rfl) nX6_170 vX6_takeBack (by omega) (m_takeBack q6) q6.1 rfl (Nat.le_of_ble_eq_true rfl) (fun h17 q17 => ?_)
    obtain ⟨f4, g4, q17⟩ := q17
    have e4 : chZ Z (mnF (zA Z) x) = chZ Z (-4, zA Z) := by
      rw [chZ_no (show (mnF (zA Z) x).1 < 0 by rw [h4]; decide), chZ_m (show (-4 : Int32) < 0 by decide), h4]
    rw [e4, h4]
    refine go_aload_0 (DX6_mendNode.at 11 rfl) ?_
    refine go_iload_2 (DX6_mendNode.at 12 rfl) ?_
    refine go_cVi1 (DX6_mendNode.at 13 rfl) nX6_80 vX6_changed (by omega) (m_changedZ (R := (-4, zA Z)) q17 hT3 (by rw [rset_n (by decide)]; exact hB3) (hZ3.keep (fun _ _ => rfl) (rset_n (by decide)) (rset_n (by decide)) (rset_n (by decide))) (by rw [rset_s]; exact hB3.congr g4) NG.same) q17.1 rfl (Nat.le_of_ble_eq_true rfl) (fun x22 h22 q22 => ?_)
    exact go_iret (DX6_mendNode.at 14 rfl) rfl rfl (RI.mk q22)
  · refine go_iload_2 (DX6_mendNode.at 6 rfl) ?_
    refine go_bipush (v := (-4)) (DX6_mendNode.at 7 rfl) (by decide) ?_
    refine go_icmp_ne 20 (DX6_mendNode.at 8 rfl) (by decide) (fun c13 => ?_) (fun c13 => absurd c13 h4)
    refine go_aload_0 (DX6_mendNode.at 11 rfl) ?_
    refine go_iload_2 (DX6_mendNode.at 12 rfl) ?_
    refine go_cVi1 (DX6_mendNode.at 13 rfl) nX6_80 vX6_changed (by omega) (m_changedZ q6 hT3 hB3 hZ3 (r6 h4) (mnF_ng hA h4)) q6.1 rfl (Nat.le_of_ble_eq_true rfl) (fun x22 h22 q22 => ?_)
    exact go_iret (DX6_mendNode.at 14 rfl) rfl rfl (RI.mk q22)

theorem y_alter {x y z : Int32} (hZ : MZ G Z h b) (hd : 5 ≤ d) : Calls E mX6_alter d 0 0 [.ref b, .int x, .int y, .int z] h (RI (fun r h' => r = (chZ Z (alF (zA Z) x y z)).1 ∧ MZ G (chZ Z (alF (zA Z) x y z)).2 h' b)) := by
  refine Calls.of (ls := [some (.ref b), some (.int x), some (.int y), some (.int z), none]) (by decide +kernel) rfl (Nat.le_of_ble_eq_true rfl) (cat_ok rfl) ?_
  obtain ⟨i, ρ, hX, hZr⟩ := hZ
  have hM := hX.1
  have hTb := hX.2.1
  have hR := hX.2.2
  have hA := hR.1
  have hn := hA.1.nc
  have hT8 : aT (zA Z) ≤ 8 := hA.1.2.2.2.2.2.2.1
  have hg4 : aG (zA Z) ≤ 4 := hA.1.2.1
  have hs6 : aS (zA Z) ≤ 6 := hA.1.2.2.2.1
  have hs2 : 2 ≤ aS (zA Z) := hA.1.2.2.1
  have hg1 : 1 ≤ aG (zA Z) := hA.1.1
  have hgs : aG (zA Z) * aS (zA Z) ≤ 15 := hA.1.2.2.2.2.1
  have hH5 : aH (zA Z) ≤ 5 := hA.1.2.2.2.2.2.2.2
  have en : nc (aG (zA Z)) (aS (zA Z)) = aG (zA Z) * aS (zA Z) + aG (zA Z) + 2 := rfl
  refine go_aload_0 (DX6_alter.at 0 rfl) ?_
  refine go_iload_1 (DX6_alter.at 1 rfl) ?_
  refine go_iload_2 (DX6_alter.at 2 rfl) ?_
  refine go_cVx2 (DX6_alter.at 3 rfl) nX6_126 vX6_isCell (by omega) (m_isCell hX (by omega)) hM.1 rfl (Nat.le_of_ble_eq_true rfl) ?_
  refine go_if_ne 11 (DX6_alter.at 4 rfl) (by decide) (fun c6 => ?_) (fun c6 => ?_)
  · rw [bP_eq0, Classical.not_not] at c6
    obtain ⟨⟨t, ht, rfl⟩, ⟨c, hc, rfl⟩⟩ := And.intro (inR_ex (by omega) c6.1) (inR_ex (by omega) c6.2)
    have hv16 := hA.2.2.1 t c
    refine go_iload_3 (DX6_alter.at 7 rfl) ?_
    refine go_iconst (v := nI 0) (DX6_alter.at 8 rfl) (by decide) ?_
    refine go_bipush (v := nI 15) (DX6_alter.at 9 rfl) (by decide) ?_
    refine go_cSx3 (DX6_alter.at 10 rfl) nX6_51 vX6_within (by omega) c_within (Nat.le_of_ble_eq_true rfl) ?_
    refine go_if_ne 24 (DX6_alter.at 11 rfl) (by decide) (fun c18 => ?_) (fun c18 => ?_)
    · rw [bI_eq0, Classical.not_not, wi_in (by decide)] at c18
      obtain ⟨v, hv, rfl⟩ := inR_ex (by decide) c18
      refine go_aload_0 (DX6_alter.at 14 rfl) ?_
      refine go_iload_1 (DX6_alter.at 15 rfl) ?_
      refine go_iload_2 (DX6_alter.at 16 rfl) ?_
      refine go_cVx2 (DX6_alter.at 17 rfl) nX6_62 vX6_cellValue (by omega) (m_cellValue hM (show t < 8 by omega) (show c < 20 by omega)) hM.1 rfl (Nat.le_of_ble_eq_true rfl) ?_
      refine go_istore_4 (DX6_alter.at 18 rfl) ?_
      refine go_iload_4 (DX6_alter.at 19 rfl) ?_
      refine go_iconst (v := (-1)) (DX6_alter.at 20 rfl) (by decide) ?_
      refine go_icmp_ne 41 (DX6_alter.at 21 rfl) (by decide) (fun c35 => ?_) (fun c35 => ?_)
      · have hb : ¬ bit (aM (zA Z) t) c := fun q => c35 (hR.2.2.2.2.2.1 t ht c hc q)
        rw [hR.2.2.2.2.2.2.1 t ht c hc hb]
        refine go_iload_4 (DX6_alter.at 24 rfl) ?_
        refine go_iload_3 (DX6_alter.at 25 rfl) ?_
        refine go_icmp_ne 50 (DX6_alter.at 26 rfl) (by decide) (fun c44 => ?_) (fun c44 => ?_)
        · rw [nI_eq (by omega) (by omega)] at c44
          have e0 : alF (zA Z) (nI t) (nI c) (nI v) = (nI (aV (zA Z) t c), aPut (zA Z) t c v) := by rw [alF_in hA ht hc, cI_t c18, cI_f hb, nI_cl (by omega), cI_f c44]
          refine go_aload_0 (DX6_alter.at 29 rfl) ?_
          refine go_cVv0 (DX6_alter.at 30 rfl) nX6_77 vX6_remember (by omega) (m_remember hM) hM.1 rfl (Nat.le_of_ble_eq_true rfl) (fun h51 q51 => ?_)
          obtain ⟨f2, g2, q51⟩ := q51
          have hX2 : MX G h51 b i (rset ρ 2 f2) (zA Z) := ⟨q51, hTb, hR⟩
          have hB2 : RepM (zA Z) (rset ρ 2 f2 2) := by
            rw [rset_s]
            exact hR.congr g2
          have hZ2 : MRest Z i (rset ρ 2 f2) := hZr.keep (fun _ _ => rfl) (rset_n (by decide)) (rset_n (by decide)) (rset_n (by decide))
          have hT2 := hX2.2.1
          clear hM hX hTb hR hZr g2
          generalize rset ρ 2 f2 = ρ2 at q51 hX2 hB2 hZ2 hT2
          refine go_aload_0 (DX6_alter.at 31 rfl) ?_
          refine go_iload_1 (DX6_alter.at 32 rfl) ?_
          refine go_iload_2 (DX6_alter.at 33 rfl) ?_
          refine go_iload_3 (DX6_alter.at 34 rfl) ?_
          refine go_cVv3 (DX6_alter.at 35 rfl) nX6_138 vX6_setValue (by omega) (m_setValue q51 (show t < 8 by omega) (show c < 20 by omega)) q51.1 rfl (Nat.le_of_ble_eq_true rfl) (fun h58 q58 => ?_)
          have r58 : RepM (aPut (zA Z) t c v) _ := hX2.2.2.put ht hc hb hv
          refine go_aload_0 (DX6_alter.at 36 rfl) ?_
          refine go_iload_4 (DX6_alter.at 37 rfl) ?_
          refine go_cVi1 (DX6_alter.at 38 rfl) nX6_80 vX6_changed (by omega) (m_changedZ (R := (nI (aV (zA Z) t c), aPut (zA Z) t c v)) q58 hT2 (by rw [rset_n (by decide)]; exact hB2) (hZ2.mu MU.r1) (by rw [rset_s]; exact r58) (NG.pos (by omega))) q58.1 rfl (Nat.le_of_ble_eq_true rfl) (fun x64 h64 q64 => ?_)
          exact go_iret (DX6_alter.at 39 rfl) rfl rfl (RI.mk (by rw [e0]; exact q64))
        · rw [nI_eq (by omega) (by omega)] at c44
          have e5 : alF (zA Z) (nI t) (nI c) (nI v) = (-5, zA Z) := by rw [alF_in hA ht hc, cI_t c18, cI_f hb, nI_cl (by omega), cI_t c44]
          refine go_bipush (v := (-5)) (DX6_alter.at 27 rfl) (by decide) ?_
          exact go_iret (DX6_alter.at 28 rfl) rfl rfl (RI.mk (by rw [e5, chZ_m (show (-5 : Int32) < 0 by decide)]; exact ⟨rfl, i, ρ, hX, hZr⟩))
      · have hb : bit (aM (zA Z) t) c := Classical.byContradiction fun q => by
          rw [hR.2.2.2.2.2.2.1 t ht c hc q] at c35
          exact nI_ne1 (by omega) c35
        have e4 : alF (zA Z) (nI t) (nI c) (nI v) = (-4, zA Z) := by rw [alF_in hA ht hc, cI_t c18, cI_t hb]
        refine go_bipush (v := (-4)) (DX6_alter.at 22 rfl) (by decide) ?_
        exact go_iret (DX6_alter.at 23 rfl) rfl rfl (RI.mk (by rw [e4, chZ_m (show (-4 : Int32) < 0 by decide)]; exact ⟨rfl, i, ρ, hX, hZr⟩))
    · rw [bI_eq0, wi_in (by decide)] at c18
      have e2 : alF (zA Z) (nI t) (nI c) z = (-2, zA Z) := by rw [alF_in hA ht hc, cI_f c18]
      refine go_bipush (v := (-2)) (DX6_alter.at 12 rfl) (by decide) ?_
      exact go_iret (DX6_alter.at 13 rfl) rfl rfl (RI.mk (by rw [e2, chZ_m (show (-2 : Int32) < 0 by decide)]; exact ⟨rfl, i, ρ, hX, hZr⟩))
  · rw [bP_eq0] at c6
    have e1 : alF (zA Z) x y z = (-1, zA Z) := cI_f c6
    refine go_iconst (v := (-1)) (DX6_alter.at 5 rfl) (by decide) ?_
    exact go_iret (DX6_alter.at 6 rfl) rfl rfl (RI.mk (by rw [e1, chZ_m (show (-1 : Int32) < 0 by decide)]; exact ⟨rfl, i, ρ, hX, hZr⟩))

theorem y_work {x : Int32} (hZ : MZ G Z h b) (hd : 9 ≤ d) : Calls E mX6_work d 0 0 [.ref b, .int x] h (RI (fun r h' => r = (chZ Z (wkF (zA Z) x)).1 ∧ MZ G (chZ Z (wkF (zA Z) x)).2 h' b)) := by
  refine Calls.of (ls := [some (.ref b), some (.int x), none, none, none, none]) (by decide +kernel) rfl (Nat.le_of_ble_eq_true rfl) (cat_ok rfl) ?_
  obtain ⟨i, ρ, hX, hZr⟩ := hZ
  have hM := hX.1
  have hTb := hX.2.1
  have hR := hX.2.2
  have hA := hR.1
  have hn := hA.1.nc
  have hT8 : aT (zA Z) ≤ 8 := hA.1.2.2.2.2.2.2.1
  have hg4 : aG (zA Z) ≤ 4 := hA.1.2.1
  have hs6 : aS (zA Z) ≤ 6 := hA.1.2.2.2.1
  have hs2 : 2 ≤ aS (zA Z) := hA.1.2.2.1
  have hg1 : 1 ≤ aG (zA Z) := hA.1.1
  have hgs : aG (zA Z) * aS (zA Z) ≤ 15 := hA.1.2.2.2.2.1
  have hH5 : aH (zA Z) ≤ 5 := hA.1.2.2.2.2.2.2.2
  have en : nc (aG (zA Z)) (aS (zA Z)) = aG (zA Z) * aS (zA Z) + aG (zA Z) + 2 := rfl
  refine go_iload_1 (DX6_work.at 0 rfl) ?_
  refine go_iconst (v := nI 1) (DX6_work.at 1 rfl) (by decide) ?_
  refine go_bipush (v := nI 50) (DX6_work.at 2 rfl) (by decide) ?_
  refine go_cSx3 (DX6_work.at 3 rfl) nX6_51 vX6_within (by omega) c_within (Nat.le_of_ble_eq_true rfl) ?_
  refine go_if_ne 13 (DX6_work.at 4 rfl) (by decide) (fun c7 => ?_) (fun c7 => ?_)
  · rw [bI_eq0, Classical.not_not] at c7
    refine go_aload_0 (DX6_work.at 7 rfl) ?_
    refine go_getfield (DX6_work.at 8 rfl) fX6_7 hM.1 rfl ?_
    refine go_bipush (v := nI 8) (DX6_work.at 9 rfl) (by decide) ?_
    refine go_ialdM (DX6_work.at 10 rfl) (hM.2.1 1 (by decide)) (show 8 < 349 by decide) (by decide) ?_
    rw [show ρ 1 8 = nI (aQ (zA Z)).length from hR.2.2.2.1]
    refine go_if_ne 26 (DX6_work.at 11 rfl) (by decide) (fun c20 => ?_) (fun c20 => ?_)
    · have h5 : ¬ aQ (zA Z) = [] := fun q => c20 (by rw [q]; rfl)
      refine go_aload_0 (DX6_work.at 14 rfl) ?_
      refine go_cVv0 (DX6_work.at 15 rfl) nX6_77 vX6_remember (by omega) (m_remember hM) hM.1 rfl (Nat.le_of_ble_eq_true rfl) (fun h27 q27 => ?_)
      obtain ⟨f2, g2, q27⟩ := q27
      have hX2 : MX G h27 b i (rset ρ 2 f2) (zA Z) := ⟨q27, hTb, hR⟩
      have hB2 : RepM (zA Z) (rset ρ 2 f2 2) := by
        rw [rset_s]
        exact hR.congr g2
      have hZ2 : MRest Z i (rset ρ 2 f2) := hZr.keep (fun _ _ => rfl) (rset_n (by decide)) (rset_n (by decide)) (rset_n (by decide))
      have hT2 := hX2.2.1
      clear hM hX hTb hR hZr g2
      generalize rset ρ 2 f2 = ρ2 at q27 hX2 hB2 hZ2 hT2
      refine go_iconst (v := nI 0) (DX6_work.at 16 rfl) (by decide) ?_
      refine go_istore_2 (DX6_work.at 17 rfl) ?_
      refine go_iconst (v := nI 0) (DX6_work.at 18 rfl) (by decide) ?_
      refine go_istore_3 (DX6_work.at 19 rfl) ?_
      obtain ⟨st, hst, rfl⟩ := inR_ex (n := 51) (by decide) (show inR x 51 from ⟨Int32.le_trans (by decide) c7.1, Int32.lt_of_le_of_lt c7.2 (by decide)⟩)
      have e : wkF (zA Z) (nI st) = (nI (wkG st (zA Z)).1, (wkG st (zA Z)).2) := by
        unfold wkF
        rw [cI_t c7, cI_f h5, nI_cl (by omega)]
      rw [e]
      generalize hR0 : wkG st (zA Z) = R
      have loop : ∀ (m s k : Nat) (A : Ab) (h : List va_E) (ρ1 : Nat → Nat → Int32) (x4 x5 : Option Value), s + m = st → k ≤ s → MX G h b i ρ1 A → MU ρ2 ρ1 → (k + (wkG m A).1, (wkG m A).2) = R → Go E mX6_work d 0 0 34 [some (.ref b), some (.int (nI st)), some (.int (nI k)), some (.int (nI s)), x4, x5] [] h (RI (fun r h' => r = (chZ Z (nI R.1, R.2)).1 ∧ MZ G (chZ Z (nI R.1, R.2)).2 h' b)) := by
        intro m
        induction m with
        | zero =>
          intro s k A h ρ1 x4 x5 hsm hk hX1 hu hRR
          have hM1 := hX1.1
          have hR1 := hX1.2.2
          have hA := hR1.1
          have hn := hA.1.nc
          have hT8 : aT A ≤ 8 := hA.1.2.2.2.2.2.2.1
          have hq160 := hA.q160
          have hql := hR1.2.2.2.1
          have hQ := hR1.2.2.2.2.2.2.2
          have es : st = s := by omega
          subst es
          subst hRR
          show Go E mX6_work d 0 0 34 _ [] h (RI (fun r h' => r = (chZ Z (nI k, A)).1 ∧ MZ G (chZ Z (nI k, A)).2 h' b))
          refine go_iload_3 (DX6_work.at 20 rfl) ?_
          refine go_iload_1 (DX6_work.at 21 rfl) ?_
          refine go_icmp_ge 114 (DX6_work.at 22 rfl) (by decide) (fun c36 => ?_) (fun c36 => absurd (Int32.le_refl _) c36)
          refine go_aload_0 (DX6_work.at 59 rfl) ?_
          refine go_iload_2 (DX6_work.at 60 rfl) ?_
          refine go_cVi1 (DX6_work.at 61 rfl) nX6_80 vX6_changed (by omega) (m_changedZ (R := (nI k, A)) hM1 (hu.tb hT2) (by rw [hu 2 (by decide) (by decide)]; exact hB2) (hZ2.mu hu) hR1 (NG.pos (by omega))) hM1.1 rfl (Nat.le_of_ble_eq_true rfl) (fun x116 h116 q116 => ?_)
          exact go_iret (DX6_work.at 62 rfl) rfl rfl (RI.mk q116)
        | succ m ih =>
          intro s k A h ρ1 x4 x5 hsm hk hX1 hu hRR
          have hM1 := hX1.1
          have hR1 := hX1.2.2
          have hA := hR1.1
          have hn := hA.1.nc
          have hT8 : aT A ≤ 8 := hA.1.2.2.2.2.2.2.1
          have hq160 := hA.q160
          have hql := hR1.2.2.2.1
          have hQ := hR1.2.2.2.2.2.2.2
          cases hq : aQ A with
          | nil =>
            have hlen : (aQ A).length = 0 := by rw [hq]; rfl
            refine go_iload_3 (DX6_work.at 20 rfl) ?_
            refine go_iload_1 (DX6_work.at 21 rfl) ?_
            refine go_icmp_ge 114 (DX6_work.at 22 rfl) (by decide) (fun c36 => absurd ((nI_leI (by omega) (by omega)).mp c36) (by omega)) (fun c36 => ?_)
            refine go_aload_0 (DX6_work.at 23 rfl) ?_
            refine go_getfield (DX6_work.at 24 rfl) fX6_7 hM1.1 rfl ?_
            refine go_bipush (v := nI 8) (DX6_work.at 25 rfl) (by decide) ?_
            refine go_ialdM (DX6_work.at 26 rfl) (hM1.2.1 1 (by decide)) (show 8 < 349 by decide) (by decide) ?_
            rw [hql]
            refine go_if_le 114 (DX6_work.at 27 rfl) (by decide) (fun c46 => ?_) (fun c46 => absurd (by rw [hlen]; decide) c46)
            refine go_aload_0 (DX6_work.at 59 rfl) ?_
            refine go_iload_2 (DX6_work.at 60 rfl) ?_
            refine go_cVi1 (DX6_work.at 61 rfl) nX6_80 vX6_changed (by omega) (m_changedZ (R := (nI k, A)) hM1 (hu.tb hT2) (by rw [hu 2 (by decide) (by decide)]; exact hB2) (hZ2.mu hu) hR1 (NG.pos (by omega))) hM1.1 rfl (Nat.le_of_ble_eq_true rfl) (fun x116 h116 q116 => ?_)
            exact go_iret (DX6_work.at 62 rfl) rfl rfl (RI.mk (by rw [← hRR, wkG_e hq]; exact q116))
          | cons x l =>
            have hxm : x ∈ aQ A := by rw [hq]; exact List.mem_cons_self
            have hx0 := hA.lt160 hxm
            obtain ⟨ht, hc, hb⟩ := (hA.2.2.2.2 x).mp hxm
            have hlen : (aQ A).length = l.length + 1 := by rw [hq]; rfl
            have hQ0 : ρ1 1 189 = nI x := hQ 0 x (by rw [hq]; rfl)
            refine go_iload_3 (DX6_work.at 20 rfl) ?_
            refine go_iload_1 (DX6_work.at 21 rfl) ?_
            refine go_icmp_ge 114 (DX6_work.at 22 rfl) (by decide) (fun c36 => absurd ((nI_leI (by omega) (by omega)).mp c36) (by omega)) (fun c36 => ?_)
            refine go_aload_0 (DX6_work.at 23 rfl) ?_
            refine go_getfield (DX6_work.at 24 rfl) fX6_7 hM1.1 rfl ?_
            refine go_bipush (v := nI 8) (DX6_work.at 25 rfl) (by decide) ?_
            refine go_ialdM (DX6_work.at 26 rfl) (hM1.2.1 1 (by decide)) (show 8 < 349 by decide) (by decide) ?_
            rw [hql]
            refine go_if_le 114 (DX6_work.at 27 rfl) (by decide) (fun c46 => absurd c46 (by rw [show (0 : Int32) = nI 0 from rfl, nI_leI (by omega) (by decide)]; omega)) (fun c46 => ?_)
            refine go_aload_0 (DX6_work.at 28 rfl) ?_
            refine go_getfield (DX6_work.at 29 rfl) fX6_7 hM1.1 rfl ?_
            refine go_sipush (v := nI 189) (DX6_work.at 30 rfl) (by decide) ?_
            refine go_ialdM (DX6_work.at 31 rfl) (hM1.2.1 1 (by decide)) (show 189 < 349 by decide) (by decide) ?_
            rw [hQ0]
            refine go_bipush (v := nI 20) (DX6_work.at 32 rfl) (by decide) ?_
            refine go_idiv (DX6_work.at 33 rfl) (by decide) ?_
            rw [pk_div (by omega) (by decide) (by decide)]
            refine go_istore_4 (DX6_work.at 34 rfl) ?_
            refine go_aload_0 (DX6_work.at 35 rfl) ?_
            refine go_getfield (DX6_work.at 36 rfl) fX6_7 hM1.1 rfl ?_
            refine go_sipush (v := nI 189) (DX6_work.at 37 rfl) (by decide) ?_
            refine go_ialdM (DX6_work.at 38 rfl) (hM1.2.1 1 (by decide)) (show 189 < 349 by decide) (by decide) ?_
            rw [hQ0]
            refine go_bipush (v := nI 20) (DX6_work.at 39 rfl) (by decide) ?_
            refine go_irem (DX6_work.at 40 rfl) (by decide) ?_
            rw [pk_rem (by omega) (by decide) (by decide)]
            refine go_istore_5 (DX6_work.at 41 rfl) ?_
            refine go_aload_0 (DX6_work.at 42 rfl) ?_
            refine go_iload_4 (DX6_work.at 43 rfl) ?_
            refine go_iload_5 (DX6_work.at 44 rfl) ?_
            refine go_cVi2 (DX6_work.at 45 rfl) nX6_152 vX6_mendCell (by omega) (m_mendCell hX1 (by omega)) hM1.1 rfl (Nat.le_of_ble_eq_true rfl) (fun x80 h80 q80 => ?_)
            obtain ⟨ρ3, q80, u80, e80, r80⟩ := q80
            rw [mdF_in hA ht hc, cI_t hb] at e80 r80
            rcases way_cases A (x / 20) (x % 20) with ⟨w, src, X', hW⟩ | hW
            · rw [mdA_s hW] at e80 r80
              dsimp only at e80 r80
              subst e80
              refine go_if_lt 92 (DX6_work.at 46 rfl) (by decide) (fun c83 => absurd c83 (nI_pos (by have := pcn_le src 20; omega))) (fun c83 => ?_)
              refine go_iincN_2 (DX6_work.at 47 rfl) ?_
              refine go_goto 108 (DX6_work.at 48 rfl) (by decide) ?_
              refine go_iincN_3 (DX6_work.at 57 rfl) ?_
              refine go_goto 34 (DX6_work.at 58 rfl) (by decide) ?_
              exact ih (s + 1) (k + 1) _ _ _ _ _ (by omega) (by omega) (mX hX1 q80 u80 r80) (hu.trans u80) (by rw [← hRR, wkG_s hq hW, Nat.add_assoc, Nat.add_comm 1])
            · rw [mdA_0 hW] at e80 r80
              dsimp only at e80 r80
              subst e80
              have hX3 := mX hX1 q80 u80 r80
              have hQ3 := r80.2.2.2.2.2.2.2
              have hx20 : 20 * (x / 20) + x % 20 = x := by omega
              refine go_if_lt 92 (DX6_work.at 46 rfl) (by decide) (fun c83 => ?_) (fun c83 => absurd (by decide) c83)
              refine go_aload_0 (DX6_work.at 49 rfl) ?_
              refine go_iload_4 (DX6_work.at 50 rfl) ?_
              refine go_iload_5 (DX6_work.at 51 rfl) ?_
              refine go_cVv2 (DX6_work.at 52 rfl) nX6_142 vX6_leaveQueue (by omega) (m_leaveQueue (q := aQ A) (p := 0) q80 (fun x hx => hA.lt160 hx) hq160 r80.2.2.2.1 hQ3 (by rw [hx20, hq]; rfl) (fun j hj => absurd hj (Nat.not_lt_zero j))) q80.1 rfl (Nat.le_of_ble_eq_true rfl) (fun h97 q97 => ?_)
              obtain ⟨f2, q97, g8, go, gq⟩ := q97
              rw [hx20, hq, List.erase_cons_head] at gq
              rw [hlen, Nat.add_sub_cancel] at g8
              refine go_aload_0 (DX6_work.at 53 rfl) ?_
              refine go_iload_4 (DX6_work.at 54 rfl) ?_
              refine go_iload_5 (DX6_work.at 55 rfl) ?_
              refine go_cVv2 (DX6_work.at 56 rfl) nX6_158 vX6_joinQueue (by omega) (m_joinQueue (L := l.length) q97 (by rw [rset_s]; exact g8) (by omega)) q97.1 rfl (Nat.le_of_ble_eq_true rfl) (fun h105 q105 => ?_)
              rw [rset_rset, rset_s, hx20] at q105
              have hR4 : RepM (aRot A) (rset ρ3 1 (upd (upd f2 (189 + l.length) (nI x)) 8 (nI (l.length + 1))) 1) := by
                rw [rset_s]
                refine RepM.rot r80 hq (fun k hk => ?_) (fun k y hy => ?_)
                · by_cases e : k = 8
                  · rw [e, pk_us, r80.2.2.2.1, hlen]
                  · rw [pk_un e, pk_un (by omega)]
                    exact go k hk e
                · rw [pk_un (by omega)]
                  by_cases e : k < l.length
                  · rw [pk_un (by omega)]
                    rw [List.getElem?_append_left e] at hy
                    exact gq k y hy
                  · rw [List.getElem?_append_right (by omega)] at hy
                    have h1 := (List.getElem?_eq_some_iff.mp hy).1
                    have h2 : k = l.length := by
                      simp only [List.length_cons, List.length_nil] at h1
                      omega
                    rw [h2, Nat.sub_self, List.getElem?_cons_zero] at hy
                    cases hy
                    rw [h2, pk_us]
              refine go_iincN_3 (DX6_work.at 57 rfl) ?_
              refine go_goto 34 (DX6_work.at 58 rfl) (by decide) ?_
              exact ih (s + 1) k _ _ _ _ _ (by omega) (by omega) (mX hX3 q105 MU.r1 hR4) (hu.trans (u80.trans MU.r1)) (by rw [← hRR, wkG_n hq hW])
      exact loop st 0 0 (zA Z) _ ρ2 _ _ (Nat.zero_add _) (Nat.le_refl 0) hX2 MU.rf (by rw [hR0, Nat.zero_add])
    · have h5 : aQ (zA Z) = [] := List.length_eq_zero_iff.mp ((nI_eq0 (by have := hA.q160; omega)).mp c20)
      have e5 : wkF (zA Z) x = (-5, zA Z) := by
        unfold wkF
        rw [cI_t c7, cI_t h5]
      refine go_bipush (v := (-5)) (DX6_work.at 12 rfl) (by decide) ?_
      exact go_iret (DX6_work.at 13 rfl) rfl rfl (RI.mk (by rw [e5, chZ_m (show (-5 : Int32) < 0 by decide)]; exact ⟨rfl, i, ρ, hX, hZr⟩))
  · rw [bI_eq0] at c7
    have e2 : wkF (zA Z) x = (-2, zA Z) := cI_f c7
    refine go_bipush (v := (-2)) (DX6_work.at 5 rfl) (by decide) ?_
    exact go_iret (DX6_work.at 6 rfl) rfl rfl (RI.mk (by rw [e2, chZ_m (show (-2 : Int32) < 0 by decide)]; exact ⟨rfl, i, ρ, hX, hZr⟩))

theorem y_scrub (hZ : MZ G Z h b) (hd : 6 ≤ d) : Calls E mX6_scrub d 0 0 [.ref b] h (RI (fun r h' => r = (chZ Z (scF (zA Z))).1 ∧ MZ G (chZ Z (scF (zA Z))).2 h' b)) := by
  refine Calls.of (ls := [some (.ref b), none, none, none]) (by decide +kernel) rfl (Nat.le_of_ble_eq_true rfl) (cat_ok rfl) ?_
  obtain ⟨i, ρ, hX, hZr⟩ := hZ
  have hM := hX.1
  have hTb := hX.2.1
  have hR := hX.2.2
  have hA := hR.1
  have hn := hA.1.nc
  have hT8 : aT (zA Z) ≤ 8 := hA.1.2.2.2.2.2.2.1
  have hg4 : aG (zA Z) ≤ 4 := hA.1.2.1
  have hs6 : aS (zA Z) ≤ 6 := hA.1.2.2.2.1
  have hs2 : 2 ≤ aS (zA Z) := hA.1.2.2.1
  have hg1 : 1 ≤ aG (zA Z) := hA.1.1
  have hgs : aG (zA Z) * aS (zA Z) ≤ 15 := hA.1.2.2.2.2.1
  have hH5 : aH (zA Z) ≤ 5 := hA.1.2.2.2.2.2.2.2
  have en : nc (aG (zA Z)) (aS (zA Z)) = aG (zA Z) * aS (zA Z) + aG (zA Z) + 2 := rfl
  refine go_aload_0 (DX6_scrub.at 0 rfl) ?_
  refine go_cVv0 (DX6_scrub.at 1 rfl) nX6_77 vX6_remember (by omega) (m_remember hM) hM.1 rfl (Nat.le_of_ble_eq_true rfl) (fun h1 q1 => ?_)
  obtain ⟨f2, g2, q1⟩ := q1
  have hX2 : MX G h1 b i (rset ρ 2 f2) (zA Z) := ⟨q1, hTb, hR⟩
  have hB2 : RepM (zA Z) (rset ρ 2 f2 2) := by
    rw [rset_s]
    exact hR.congr g2
  have hZ2 : MRest Z i (rset ρ 2 f2) := hZr.keep (fun _ _ => rfl) (rset_n (by decide)) (rset_n (by decide)) (rset_n (by decide))
  have hT2 := hX2.2.1
  clear hM hX hTb hR hZr g2
  generalize rset ρ 2 f2 = ρ2 at q1 hX2 hB2 hZ2 hT2
  refine go_iconst (v := nI 0) (DX6_scrub.at 2 rfl) (by decide) ?_
  refine go_istore_1 (DX6_scrub.at 3 rfl) ?_
  refine go_iconst (v := nI 0) (DX6_scrub.at 4 rfl) (by decide) ?_
  refine go_istore_2 (DX6_scrub.at 5 rfl) ?_
  unfold scF
  generalize hR0 : scG (aT (zA Z)) 0 (zA Z) = R
  have loop : ∀ (m t k : Nat) (A : Ab) (h : List va_E) (i1 : Nat → Int32) (ρ1 : Nat → Nat → Int32) (x3 : Option Value), t + m = aT A → k ≤ t → MX G h b i1 ρ1 A → MU ρ2 ρ1 → (∀ s, s < 4 → i1 s = i s) → (k = 0 → A = zA Z) → (k + (scG m t A).1, (scG m t A).2) = R → Go E mX6_scrub d 0 0 8 [some (.ref b), some (.int (nI k)), some (.int (nI t)), x3] [] h (RI (fun r h' => r = (chZ Z (cnI R.1, R.2)).1 ∧ MZ G (chZ Z (cnI R.1, R.2)).2 h' b)) := by
    intro m
    induction m with
    | zero =>
      intro t k A h i1 ρ1 x3 htm hk hX1 hu hi hk0 hRR
      have hM1 := hX1.1
      have hR1 := hX1.2.2
      have hA := hR1.1
      have hn := hA.1.nc
      have hT8 : aT A ≤ 8 := hA.1.2.2.2.2.2.2.1
      obtain rfl : t = aT A := by omega
      subst hRR
      show Go E mX6_scrub d 0 0 8 _ [] h (RI (fun r h' => r = (chZ Z (cnI k, A)).1 ∧ MZ G (chZ Z (cnI k, A)).2 h' b))
      refine go_iload_2 (DX6_scrub.at 6 rfl) ?_
      refine go_aload_0 (DX6_scrub.at 7 rfl) ?_
      refine go_getfield (DX6_scrub.at 8 rfl) fX6_7 hM1.1 rfl ?_
      refine go_iconst (v := nI 2) (DX6_scrub.at 9 rfl) (by decide) ?_
      refine go_ialdM (DX6_scrub.at 10 rfl) (hM1.2.1 1 (by decide)) (show 2 < 349 by decide) (by decide) ?_
      rw [show ρ1 1 2 = nI (aT A) from hR1.2.1.2.2.1]
      refine go_icmp_ge 62 (DX6_scrub.at 11 rfl) (by decide) (fun c15 => ?_) (fun c15 => absurd (Int32.le_refl _) c15)
      refine go_aload_0 (DX6_scrub.at 34 rfl) ?_
      refine go_iload_1 (DX6_scrub.at 35 rfl) ?_
      refine go_if_ne 72 (DX6_scrub.at 36 rfl) (by decide) (fun c64 => ?_) (fun c64 => ?_)
      · have ek : nI k = cnI k := (if_neg (fun e => c64 (by rw [e]; rfl))).symm
        rw [ek]
        refine go_iload_1 (DX6_scrub.at 39 rfl) ?_
        refine go_cVi1 (DX6_scrub.at 40 rfl) nX6_80 vX6_changed (by omega) (m_changedZ (R := (cnI k, A)) hM1 (hu.tb hT2) (by rw [hu 2 (by decide) (by decide)]; exact hB2) ((hZ2.mu hu).keep (fun s hs => hi s (by omega)) rfl rfl rfl) hR1 (NG.cn (by omega) hk0)) hM1.1 rfl (Nat.le_of_ble_eq_true rfl) (fun x73 h73 q73 => ?_)
        exact go_iret (DX6_scrub.at 41 rfl) rfl rfl (RI.mk q73)
      · have ek : (-5 : Int32) = cnI k := (if_pos ((nI_eq0 (by omega)).mp c64)).symm
        refine go_bipush (v := (-5)) (DX6_scrub.at 37 rfl) (by decide) ?_
        rw [ek]
        refine go_goto 73 (DX6_scrub.at 38 rfl) (by decide) ?_
        refine go_cVi1 (DX6_scrub.at 40 rfl) nX6_80 vX6_changed (by omega) (m_changedZ (R := (cnI k, A)) hM1 (hu.tb hT2) (by rw [hu 2 (by decide) (by decide)]; exact hB2) ((hZ2.mu hu).keep (fun s hs => hi s (by omega)) rfl rfl rfl) hR1 (NG.cn (by omega) hk0)) hM1.1 rfl (Nat.le_of_ble_eq_true rfl) (fun x73 h73 q73 => ?_)
        exact go_iret (DX6_scrub.at 41 rfl) rfl rfl (RI.mk q73)
    | succ m ih =>
      intro t k A h i1 ρ1 x3 htm hk hX1 hu hi hk0 hRR
      have hM1 := hX1.1
      have hR1 := hX1.2.2
      have hA := hR1.1
      have hn := hA.1.nc
      have hT8 : aT A ≤ 8 := hA.1.2.2.2.2.2.2.1
      refine go_iload_2 (DX6_scrub.at 6 rfl) ?_
      refine go_aload_0 (DX6_scrub.at 7 rfl) ?_
      refine go_getfield (DX6_scrub.at 8 rfl) fX6_7 hM1.1 rfl ?_
      refine go_iconst (v := nI 2) (DX6_scrub.at 9 rfl) (by decide) ?_
      refine go_ialdM (DX6_scrub.at 10 rfl) (hM1.2.1 1 (by decide)) (show 2 < 349 by decide) (by decide) ?_
      rw [show ρ1 1 2 = nI (aT A) from hR1.2.1.2.2.1]
      refine go_icmp_ge 62 (DX6_scrub.at 11 rfl) (by decide) (fun c15 => absurd ((nI_leI (by omega) (by omega)).mp c15) (by omega)) (fun c15 => ?_)
      refine go_aload_0 (DX6_scrub.at 12 rfl) ?_
      refine go_iload_2 (DX6_scrub.at 13 rfl) ?_
      refine go_cVx1 (DX6_scrub.at 14 rfl) nX6_114 vX6_lostCells (by omega) (m_lostCells (show t < aT A by omega) hX1 (by omega)) hM1.1 rfl (Nat.le_of_ble_eq_true rfl) ?_
      have hm20 := hA.m20 (show t < aT A by omega)
      by_cases h0 : aM A t = 0
      · refine go_if_ne 34 (DX6_scrub.at 15 rfl) (by decide) (fun c23 => absurd (congrArg nI h0) c23) (fun c23 => ?_)
        refine go_aload_0 (DX6_scrub.at 16 rfl) ?_
        refine go_iload_2 (DX6_scrub.at 17 rfl) ?_
        refine go_cVi1 (DX6_scrub.at 18 rfl) nX6_179 vX6_findCulprit (by omega) (m_findCulprit (show t < aT A by omega) h0 hX1 (by omega)) hM1.1 rfl (Nat.le_of_ble_eq_true rfl) (fun x28 h28 q28 => ?_)
        obtain ⟨i2, q28, gi, e28, g4⟩ := q28
        subst e28
        cases hcp : cpF A t with
        | none =>
          refine go_goto 36 (DX6_scrub.at 19 rfl) (by decide) ?_
          refine go_istore_3 (DX6_scrub.at 21 rfl) ?_
          refine go_iload_3 (DX6_scrub.at 22 rfl) ?_
          refine go_bipush (v := (-5)) (DX6_scrub.at 23 rfl) (by decide) ?_
          refine go_icmp_eq 56 (DX6_scrub.at 24 rfl) (by decide) (fun c40 => ?_) (fun c40 => absurd rfl c40)
          refine go_iincN_2 (DX6_scrub.at 32 rfl) ?_
          refine go_goto 8 (DX6_scrub.at 33 rfl) (by decide) ?_
          exact ih (t + 1) k A _ _ _ _ (by omega) (by omega) ⟨q28, hX1.2⟩ hu (fun s hs => (gi s hs).trans (hi s hs)) hk0 (by rw [← hRR, scG_n ((cI_t h0).trans hcp)])
        | some c =>
          have hcn := (cpG_le _ hcp).1
          have hsc : cI (aM A t = 0) (cpF A t) none = some c := (cI_t h0).trans hcp
          have hv16 := hA.2.2.1 t c
          have hX16 : aV A t c ^^^ aSum A t (hcv (aG A) (aS A) c) < 16 := xor_lt hv16 (aSum_lt hA _ (by have h1 := hcv_lt hA.1 hcn; have h2 : aG A ≤ 4 := hA.1.2.1; omega))
          refine go_goto 36 (DX6_scrub.at 19 rfl) (by decide) ?_
          refine go_istore_3 (DX6_scrub.at 21 rfl) ?_
          refine go_iload_3 (DX6_scrub.at 22 rfl) ?_
          refine go_bipush (v := (-5)) (DX6_scrub.at 23 rfl) (by decide) ?_
          refine go_icmp_eq 56 (DX6_scrub.at 24 rfl) (by decide) (fun c40 => absurd c40 (nI_m5 (by omega))) (fun c40 => ?_)
          refine go_aload_0 (DX6_scrub.at 25 rfl) ?_
          refine go_iload_2 (DX6_scrub.at 26 rfl) ?_
          refine go_iload_3 (DX6_scrub.at 27 rfl) ?_
          refine go_aload_0 (DX6_scrub.at 28 rfl) ?_
          refine go_getfield (DX6_scrub.at 29 rfl) fX6_176 q28.1 rfl ?_
          rw [g4 c hcp]
          refine go_cVv3 (DX6_scrub.at 30 rfl) nX6_138 vX6_setValue (by omega) (m_setValue q28 (show t < 8 by omega) (show c < 20 by omega)) q28.1 rfl (Nat.le_of_ble_eq_true rfl) (fun h50 q50 => ?_)
          refine go_iincN_1 (DX6_scrub.at 31 rfl) ?_
          refine go_iincN_2 (DX6_scrub.at 32 rfl) ?_
          refine go_goto 8 (DX6_scrub.at 33 rfl) (by decide) ?_
          exact ih (t + 1) (k + 1) (aPut A t c (aV A t c ^^^ aSum A t (hcv (aG A) (aS A) c))) _ _ _ _ (by show t + 1 + m = aT A; omega) (by omega) (mX hX1 q50 MU.r1 (by rw [rset_s]; exact hR1.put (by omega) hcn (by rw [h0]; exact nbit0 c) hX16)) (hu.trans MU.r1) (fun s hs => (gi s hs).trans (hi s hs)) (fun e => absurd e (by omega)) (by rw [← hRR, scG_s hsc, Nat.add_assoc, Nat.add_comm 1])
        
      · refine go_if_ne 34 (DX6_scrub.at 15 rfl) (by decide) (fun c23 => ?_) (fun c23 => absurd ((nI_eq0 (by omega)).mp c23) h0)
        refine go_bipush (v := (-5)) (DX6_scrub.at 20 rfl) (by decide) ?_
        refine go_istore_3 (DX6_scrub.at 21 rfl) ?_
        refine go_iload_3 (DX6_scrub.at 22 rfl) ?_
        refine go_bipush (v := (-5)) (DX6_scrub.at 23 rfl) (by decide) ?_
        refine go_icmp_eq 56 (DX6_scrub.at 24 rfl) (by decide) (fun c40 => ?_) (fun c40 => absurd rfl c40)
        refine go_iincN_2 (DX6_scrub.at 32 rfl) ?_
        refine go_goto 8 (DX6_scrub.at 33 rfl) (by decide) ?_
        exact ih (t + 1) k A _ _ _ _ (by omega) (by omega) hX1 hu hi hk0 (by rw [← hRR, scG_n (cI_f h0)])
  exact loop (aT (zA Z)) 0 0 (zA Z) _ i ρ2 _ (Nat.zero_add _) (Nat.le_refl 0) hX2 MU.rf (fun _ _ => rfl) (fun _ => rfl) (by rw [hR0, Nat.zero_add])

theorem y_setLayout {x y z w : Int32} (hZ : MZ G Z h b) (hd : 4 ≤ d) : Calls E mX6_setLayout d 0 0 [.ref b, .int x, .int y, .int z, .int w] h (RI (fun r h' => r = (chZ Z (slF (zA Z) x y z w)).1 ∧ MZ G (chZ Z (slF (zA Z) x y z w)).2 h' b)) := by
  refine Calls.of (ls := [some (.ref b), some (.int x), some (.int y), some (.int z), some (.int w), none, none]) (by decide +kernel) rfl (Nat.le_of_ble_eq_true rfl) (cat_ok rfl) ?_
  obtain ⟨i, ρ, hX, hZr⟩ := hZ
  have hM := hX.1
  have hTb := hX.2.1
  have hR := hX.2.2
  have hA := hR.1
  have hn := hA.1.nc
  have hT8 : aT (zA Z) ≤ 8 := hA.1.2.2.2.2.2.2.1
  have hg4 : aG (zA Z) ≤ 4 := hA.1.2.1
  have hs6 : aS (zA Z) ≤ 6 := hA.1.2.2.2.1
  have hs2 : 2 ≤ aS (zA Z) := hA.1.2.2.1
  have hg1 : 1 ≤ aG (zA Z) := hA.1.1
  have hgs : aG (zA Z) * aS (zA Z) ≤ 15 := hA.1.2.2.2.2.1
  have hH5 : aH (zA Z) ≤ 5 := hA.1.2.2.2.2.2.2.2
  have en : nc (aG (zA Z)) (aS (zA Z)) = aG (zA Z) * aS (zA Z) + aG (zA Z) + 2 := rfl
  refine go_iload_1 (DX6_setLayout.at 0 rfl) ?_
  refine go_iconst (v := nI 1) (DX6_setLayout.at 1 rfl) (by decide) ?_
  refine go_iconst (v := nI 4) (DX6_setLayout.at 2 rfl) (by decide) ?_
  refine go_cSx3 (DX6_setLayout.at 3 rfl) nX6_51 vX6_within (by omega) c_within (Nat.le_of_ble_eq_true rfl) ?_
  refine go_if_eq 43 (DX6_setLayout.at 4 rfl) (by decide) (fun c6 => ?_) (fun c6 => ?_)
  · rw [bI_eq0] at c6
    have e0 : slF (zA Z) x y z w = (-2, zA Z) := slF_out (fun ⟨g, s, T, sh, e1, e2, e3, e4, l1, l2, l3, l4, l5, l6, l7, l8⟩ => c6 (by rw [e1]; exact ⟨nI_le l1 (by omega), nI_le l2 (by omega)⟩))
    refine go_iconst (v := nI 0) (DX6_setLayout.at 22 rfl) (by decide) ?_
    refine go_istore_5 (DX6_setLayout.at 23 rfl) ?_
    refine go_iload_5 (DX6_setLayout.at 24 rfl) ?_
    refine go_if_eq 59 (DX6_setLayout.at 25 rfl) (by decide) (fun c48 => ?_) (fun c48 => absurd rfl c48)
    refine go_bipush (v := (-2)) (DX6_setLayout.at 31 rfl) (by decide) ?_
    exact go_iret (DX6_setLayout.at 32 rfl) rfl rfl (RI.mk (by rw [e0, chZ_m (show (-2 : Int32) < 0 by decide)]; exact ⟨rfl, i, ρ, hX, hZr⟩))
  · rw [bI_eq0, Classical.not_not] at c6
    refine go_iload_2 (DX6_setLayout.at 5 rfl) ?_
    refine go_iconst (v := nI 2) (DX6_setLayout.at 6 rfl) (by decide) ?_
    refine go_bipush (v := nI 6) (DX6_setLayout.at 7 rfl) (by decide) ?_
    refine go_cSx3 (DX6_setLayout.at 8 rfl) nX6_51 vX6_within (by omega) c_within (Nat.le_of_ble_eq_true rfl) ?_
    refine go_if_eq 43 (DX6_setLayout.at 9 rfl) (by decide) (fun c16 => ?_) (fun c16 => ?_)
    · rw [bI_eq0] at c16
      have e0 : slF (zA Z) x y z w = (-2, zA Z) := slF_out (fun ⟨g, s, T, sh, e1, e2, e3, e4, l1, l2, l3, l4, l5, l6, l7, l8⟩ => c16 (by rw [e2]; exact ⟨nI_le l3 (by omega), nI_le l4 (by omega)⟩))
      refine go_iconst (v := nI 0) (DX6_setLayout.at 22 rfl) (by decide) ?_
      refine go_istore_5 (DX6_setLayout.at 23 rfl) ?_
      refine go_iload_5 (DX6_setLayout.at 24 rfl) ?_
      refine go_if_eq 59 (DX6_setLayout.at 25 rfl) (by decide) (fun c48 => ?_) (fun c48 => absurd rfl c48)
      refine go_bipush (v := (-2)) (DX6_setLayout.at 31 rfl) (by decide) ?_
      exact go_iret (DX6_setLayout.at 32 rfl) rfl rfl (RI.mk (by rw [e0, chZ_m (show (-2 : Int32) < 0 by decide)]; exact ⟨rfl, i, ρ, hX, hZr⟩))
    · rw [bI_eq0, Classical.not_not] at c16
      refine go_iload_3 (DX6_setLayout.at 10 rfl) ?_
      refine go_iconst (v := nI 1) (DX6_setLayout.at 11 rfl) (by decide) ?_
      refine go_bipush (v := nI 8) (DX6_setLayout.at 12 rfl) (by decide) ?_
      refine go_cSx3 (DX6_setLayout.at 13 rfl) nX6_51 vX6_within (by omega) c_within (Nat.le_of_ble_eq_true rfl) ?_
      refine go_if_eq 43 (DX6_setLayout.at 14 rfl) (by decide) (fun c26 => ?_) (fun c26 => ?_)
      · rw [bI_eq0] at c26
        have e0 : slF (zA Z) x y z w = (-2, zA Z) := slF_out (fun ⟨g, s, T, sh, e1, e2, e3, e4, l1, l2, l3, l4, l5, l6, l7, l8⟩ => c26 (by rw [e3]; exact ⟨nI_le l6 (by omega), nI_le l7 (by omega)⟩))
        refine go_iconst (v := nI 0) (DX6_setLayout.at 22 rfl) (by decide) ?_
        refine go_istore_5 (DX6_setLayout.at 23 rfl) ?_
        refine go_iload_5 (DX6_setLayout.at 24 rfl) ?_
        refine go_if_eq 59 (DX6_setLayout.at 25 rfl) (by decide) (fun c48 => ?_) (fun c48 => absurd rfl c48)
        refine go_bipush (v := (-2)) (DX6_setLayout.at 31 rfl) (by decide) ?_
        exact go_iret (DX6_setLayout.at 32 rfl) rfl rfl (RI.mk (by rw [e0, chZ_m (show (-2 : Int32) < 0 by decide)]; exact ⟨rfl, i, ρ, hX, hZr⟩))
      · rw [bI_eq0, Classical.not_not] at c26
        refine go_iload_4 (DX6_setLayout.at 15 rfl) ?_
        refine go_iconst (v := nI 0) (DX6_setLayout.at 16 rfl) (by decide) ?_
        refine go_iconst (v := nI 5) (DX6_setLayout.at 17 rfl) (by decide) ?_
        refine go_cSx3 (DX6_setLayout.at 18 rfl) nX6_51 vX6_within (by omega) c_within (Nat.le_of_ble_eq_true rfl) ?_
        refine go_if_eq 43 (DX6_setLayout.at 19 rfl) (by decide) (fun c36 => ?_) (fun c36 => ?_)
        · rw [bI_eq0] at c36
          have e0 : slF (zA Z) x y z w = (-2, zA Z) := slF_out (fun ⟨g, s, T, sh, e1, e2, e3, e4, l1, l2, l3, l4, l5, l6, l7, l8⟩ => c36 (by rw [e4]; exact ⟨nI_le (Nat.zero_le _) (by omega), nI_le l8 (by omega)⟩))
          refine go_iconst (v := nI 0) (DX6_setLayout.at 22 rfl) (by decide) ?_
          refine go_istore_5 (DX6_setLayout.at 23 rfl) ?_
          refine go_iload_5 (DX6_setLayout.at 24 rfl) ?_
          refine go_if_eq 59 (DX6_setLayout.at 25 rfl) (by decide) (fun c48 => ?_) (fun c48 => absurd rfl c48)
          refine go_bipush (v := (-2)) (DX6_setLayout.at 31 rfl) (by decide) ?_
          exact go_iret (DX6_setLayout.at 32 rfl) rfl rfl (RI.mk (by rw [e0, chZ_m (show (-2 : Int32) < 0 by decide)]; exact ⟨rfl, i, ρ, hX, hZr⟩))
        · rw [bI_eq0, Classical.not_not] at c36
          obtain ⟨g, hg5, rfl⟩ := inR_ex (n := 5) (by decide) (show inR x 5 from ⟨Int32.le_trans (by decide) c6.1, Int32.lt_of_le_of_lt c6.2 (by decide)⟩)
          obtain ⟨s, hs7, rfl⟩ := inR_ex (n := 7) (by decide) (show inR y 7 from ⟨Int32.le_trans (by decide) c16.1, Int32.lt_of_le_of_lt c16.2 (by decide)⟩)
          obtain ⟨T, hT9, rfl⟩ := inR_ex (n := 9) (by decide) (show inR z 9 from ⟨Int32.le_trans (by decide) c26.1, Int32.lt_of_le_of_lt c26.2 (by decide)⟩)
          obtain ⟨sh, hsh6, rfl⟩ := inR_ex (n := 6) (by decide) (show inR w 6 from ⟨Int32.le_trans (by decide) c36.1, Int32.lt_of_le_of_lt c36.2 (by decide)⟩)
          rw [nI_leI (by decide) (by omega)] at c6 c16 c26
          have hgs24 : g * s ≤ 4 * 6 := Nat.mul_le_mul (by omega) (by omega)
          refine go_iconst (v := nI 1) (DX6_setLayout.at 20 rfl) (by decide) ?_
          refine go_goto 44 (DX6_setLayout.at 21 rfl) (by decide) ?_
          refine go_istore_5 (DX6_setLayout.at 23 rfl) ?_
          refine go_iload_5 (DX6_setLayout.at 24 rfl) ?_
          refine go_if_eq 59 (DX6_setLayout.at 25 rfl) (by decide) (fun c48 => absurd c48 (by decide)) (fun c48 => ?_)
          refine go_iload_1 (DX6_setLayout.at 26 rfl) ?_
          refine go_iload_2 (DX6_setLayout.at 27 rfl) ?_
          refine go_imul (DX6_setLayout.at 28 rfl) ?_
          refine go_bipush (v := nI 15) (DX6_setLayout.at 29 rfl) (by decide) ?_
          refine go_icmp_le 62 (DX6_setLayout.at 30 rfl) (by decide) (fun c56 => ?_) (fun c56 => ?_)
          · rw [pk_mul, nI_leI (by omega) (by decide)] at c56
            have hLO : LayOK g s T sh := ⟨c6.1, by omega, c16.1, by omega, c56, c26.1, by omega, by omega⟩
            rw [slF_in hLO]
            refine go_aload_0 (DX6_setLayout.at 33 rfl) ?_
            refine go_cVv0 (DX6_setLayout.at 34 rfl) nX6_77 vX6_remember (by omega) (m_remember hM) hM.1 rfl (Nat.le_of_ble_eq_true rfl) (fun h63 q63 => ?_)
            obtain ⟨f2, g2, q63⟩ := q63
            have hX2 : MX G h63 b i (rset ρ 2 f2) (zA Z) := ⟨q63, hTb, hR⟩
            have hB2 : RepM (zA Z) (rset ρ 2 f2 2) := by
              rw [rset_s]
              exact hR.congr g2
            have hZ2 : MRest Z i (rset ρ 2 f2) := hZr.keep (fun _ _ => rfl) (rset_n (by decide)) (rset_n (by decide)) (rset_n (by decide))
            have hT2 := hX2.2.1
            clear hM hX hTb hR hZr g2
            generalize rset ρ 2 f2 = ρ2 at q63 hX2 hB2 hZ2 hT2
            refine go_aload_0 (DX6_setLayout.at 35 rfl) ?_
            refine go_getfield (DX6_setLayout.at 36 rfl) fX6_7 q63.1 rfl ?_
            refine go_iconst (v := nI 0) (DX6_setLayout.at 37 rfl) (by decide) ?_
            refine go_iload_1 (DX6_setLayout.at 38 rfl) ?_
            refine go_iastM (DX6_setLayout.at 39 rfl) q63 (a := 1) (by decide) (show 0 < 349 by decide) (fun h72 q72 => ?_)
            refine go_aload_0 (DX6_setLayout.at 40 rfl) ?_
            refine go_getfield (DX6_setLayout.at 41 rfl) fX6_7 q72.1 rfl ?_
            refine go_iconst (v := nI 1) (DX6_setLayout.at 42 rfl) (by decide) ?_
            refine go_iload_2 (DX6_setLayout.at 43 rfl) ?_
            refine go_iastM (DX6_setLayout.at 44 rfl) q72 (a := 1) (by decide) (show 1 < 349 by decide) (fun h79 q79 => ?_)
            rw [rset_rset, rset_s] at q79
            refine go_aload_0 (DX6_setLayout.at 45 rfl) ?_
            refine go_getfield (DX6_setLayout.at 46 rfl) fX6_7 q79.1 rfl ?_
            refine go_iconst (v := nI 2) (DX6_setLayout.at 47 rfl) (by decide) ?_
            refine go_iload_3 (DX6_setLayout.at 48 rfl) ?_
            refine go_iastM (DX6_setLayout.at 49 rfl) q79 (a := 1) (by decide) (show 2 < 349 by decide) (fun h86 q86 => ?_)
            rw [rset_rset, rset_s] at q86
            refine go_aload_0 (DX6_setLayout.at 50 rfl) ?_
            refine go_getfield (DX6_setLayout.at 51 rfl) fX6_7 q86.1 rfl ?_
            refine go_iconst (v := nI 3) (DX6_setLayout.at 52 rfl) (by decide) ?_
            refine go_iload_4 (DX6_setLayout.at 53 rfl) ?_
            refine go_iastM (DX6_setLayout.at 54 rfl) q86 (a := 1) (by decide) (show 3 < 349 by decide) (fun h94 q94 => ?_)
            rw [rset_rset, rset_s] at q94
            refine go_aload_0 (DX6_setLayout.at 55 rfl) ?_
            refine go_getfield (DX6_setLayout.at 56 rfl) fX6_7 q94.1 rfl ?_
            refine go_bipush (v := nI 8) (DX6_setLayout.at 57 rfl) (by decide) ?_
            refine go_iconst (v := nI 0) (DX6_setLayout.at 58 rfl) (by decide) ?_
            refine go_iastM (DX6_setLayout.at 59 rfl) q94 (a := 1) (by decide) (show 8 < 349 by decide) (fun h102 q102 => ?_)
            rw [rset_rset, rset_s] at q102
            refine go_bipush (v := nI 9) (DX6_setLayout.at 60 rfl) (by decide) ?_
            refine go_istore_6 (DX6_setLayout.at 61 rfl) ?_
            have loop : ∀ (m j : Nat) (h : List va_E) (f : Nat → Int32) (x5 : Option Value), j + m = 349 → MdAt G h b i (rset ρ2 1 f) → 9 ≤ j → (∀ k, k < 9 → f k = (upd (upd (upd (upd (upd (ρ2 1) 0 (nI g)) 1 (nI s)) 2 (nI T)) 3 (nI sh)) 8 (nI 0)) k) → (∀ k, 9 ≤ k → k < j → f k = nI 0) → Go E mX6_setLayout d 0 0 107 [some (.ref b), some (.int (nI g)), some (.int (nI s)), some (.int (nI T)), some (.int (nI sh)), x5, some (.int (nI j))] [] h (RI (fun r h' => r = (chZ Z (nI (nc g s), aNew (zA Z) g s T sh)).1 ∧ MZ G (chZ Z (nI (nc g s), aNew (zA Z) g s T sh)).2 h' b)) := by
              intro m
              induction m with
              | zero =>
                intro j h f x5 hj q h9 fa fb
                have ej : 349 = j := by omega
                subst ej
                have hRn : RepM (aNew (zA Z) g s T sh) f := RepM.new hLO (fa 0 (by decide)) (fa 1 (by decide)) (fa 2 (by decide)) (fa 3 (by decide)) (fun k hk => (fa (4 + k) (by omega)).trans (by
                  rw [pk_un (by omega), pk_un (by omega), pk_un (by omega), pk_un (by omega), pk_un (by omega)]
                  exact hX2.2.2.2.2.1 k hk)) (fa 8 (by decide)) (fun k h1 h2 => fb k h1 h2)
                have hXn : MX G h b i (rset ρ2 1 f) (aNew (zA Z) g s T sh) := ⟨q, hT2, by rw [rset_s]; exact hRn⟩
                refine go_iload_6 (DX6_setLayout.at 62 rfl) ?_
                refine go_sipush (v := nI 349) (DX6_setLayout.at 63 rfl) (by decide) ?_
                refine go_icmp_ge 129 (DX6_setLayout.at 64 rfl) (by decide) (fun c112 => ?_) (fun c112 => absurd (Int32.le_refl _) c112)
                refine go_aload_0 (DX6_setLayout.at 72 rfl) ?_
                refine go_aload_0 (DX6_setLayout.at 73 rfl) ?_
                refine go_cVx0 (DX6_setLayout.at 74 rfl) nX6_59 vX6_cells (by omega) (m_cells hXn (by omega)) q.1 rfl (Nat.le_of_ble_eq_true rfl) ?_
                refine go_cVi1 (DX6_setLayout.at 75 rfl) nX6_80 vX6_changed (by omega) (m_changedZ (R := (nI (nc g s), aNew (zA Z) g s T sh)) q hT2 (by rw [rset_n (by decide)]; exact hB2) (hZ2.mu MU.r1) (by rw [rset_s]; exact hRn) (NG.pos (by have := hLO.nc; omega))) q.1 rfl (Nat.le_of_ble_eq_true rfl) (fun x134 h134 q134 => ?_)
                exact go_iret (DX6_setLayout.at 76 rfl) rfl rfl (RI.mk q134)
              | succ m ih =>
                intro j h f x5 hj q h9 fa fb
                refine go_iload_6 (DX6_setLayout.at 62 rfl) ?_
                refine go_sipush (v := nI 349) (DX6_setLayout.at 63 rfl) (by decide) ?_
                refine go_icmp_ge 129 (DX6_setLayout.at 64 rfl) (by decide) (fun c112 => absurd ((nI_leI (by omega) (by omega)).mp c112) (by omega)) (fun c112 => ?_)
                refine go_aload_0 (DX6_setLayout.at 65 rfl) ?_
                refine go_getfield (DX6_setLayout.at 66 rfl) fX6_7 q.1 rfl ?_
                refine go_iload_6 (DX6_setLayout.at 67 rfl) ?_
                refine go_iconst (v := nI 0) (DX6_setLayout.at 68 rfl) (by decide) ?_
                refine go_iastM (DX6_setLayout.at 69 rfl) q (a := 1) (by decide) (show j < 349 by omega) (fun h122 q122 => ?_)
                rw [rset_rset, rset_s] at q122
                refine go_iincN_6 (DX6_setLayout.at 70 rfl) ?_
                refine go_goto 107 (DX6_setLayout.at 71 rfl) (by decide) ?_
                exact ih (j + 1) _ _ _ (by omega) q122 (by omega) (fun k hk => by rw [pk_un (by omega)]; exact fa k hk) (fun k h1 h2 => by
                  by_cases e : k = j
                  · rw [e, pk_us]
                  · rw [pk_un e]
                    exact fb k h1 (by omega))
            exact loop 340 9 _ _ _ (by omega) q102 (Nat.le_refl 9) (fun _ _ => rfl) (fun k h1 h2 => absurd h1 (by omega))
          · rw [pk_mul, nI_leI (by omega) (by decide)] at c56
            have e0 : slF (zA Z) (nI g) (nI s) (nI T) (nI sh) = (-2, zA Z) := slF_out (fun ⟨g2, s2, T2, sh2, e1, e2, e3, e4, l1, l2, l3, l4, l5, l6, l7, l8⟩ => by
              have f1 := (nI_eq (by omega) (by omega)).mp e1
              have f2 := (nI_eq (by omega) (by omega)).mp e2
              subst f1
              subst f2
              exact c56 l5)
            refine go_bipush (v := (-2)) (DX6_setLayout.at 31 rfl) (by decide) ?_
            exact go_iret (DX6_setLayout.at 32 rfl) rfl rfl (RI.mk (by rw [e0, chZ_m (show (-2 : Int32) < 0 by decide)]; exact ⟨rfl, i, ρ, hX, hZr⟩))

end M6
