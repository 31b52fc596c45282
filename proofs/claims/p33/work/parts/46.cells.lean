/-! THE CLASS: what is done to one cell -/
theorem inR_mono {x : Int32} {a b : Nat} (h : a ≤ b) (hb : b < 2 ^ 31) (q : inR x a) : inR x b := ⟨q.1, Int32.lt_of_lt_of_le q.2 (nI_le h hb)⟩
theorem wi_in {z : Int32} {k : Nat} (hk : k + 1 < 2 ^ 31) : (nI 0 ≤ z ∧ z ≤ nI k) ↔ inR z (k + 1) := by
  constructor
  · intro q
    refine ⟨q.1, ?_⟩
    obtain ⟨j, hj, rfl⟩ := nI_of (Int32.not_lt.mpr q.1)
    have h2 := (nI_leI hj (by omega)).mp q.2
    exact (nI_ltI hj hk).mpr (by omega)
  · intro q
    obtain ⟨j, hj, rfl⟩ := inR_ex hk q
    exact ⟨nI_le (Nat.zero_le j) (by omega), nI_le (by omega) (by omega)⟩
noncomputable def wrF (A : Ab) (x y z : Int32) : Int32 × Ab := cI (inR x (aT A) ∧ inR y (aG A * aS A)) (cI (inR z 16) (cI (aM A x.toNatClampNeg = 0) (cI (aV A x.toNatClampNeg y.toNatClampNeg = z.toNatClampNeg) (-5, A) (nI (aV A x.toNatClampNeg y.toNatClampNeg), aWrt A x.toNatClampNeg y.toNatClampNeg z.toNatClampNeg)) (-4, A)) (-2, A)) (-1, A)
theorem wrF_in {A : Ab} {t c : Nat} {z : Int32} (hA : AOK A) (ht : t < aT A) (hc : c < aG A * aS A) : wrF A (nI t) (nI c) z = cI (inR z 16) (cI (aM A t = 0) (cI (aV A t c = z.toNatClampNeg) (-5, A) (nI (aV A t c), aWrt A t c z.toNatClampNeg)) (-4, A)) (-2, A) := by
  have hn := hA.1.nc
  have h8 : aT A ≤ 8 := hA.1.2.2.2.2.2.2.1
  have en : nc (aG A) (aS A) = aG A * aS A + aG A + 2 := rfl
  unfold wrF
  rw [cI_t ⟨(inR_nI (by omega) (by omega)).mpr ht, (inR_nI (by omega) (by omega)).mpr hc⟩, nI_cl (by omega), nI_cl (by omega)]
noncomputable def alF (A : Ab) (x y z : Int32) : Int32 × Ab := cI (inR x (aT A) ∧ inR y (nc (aG A) (aS A))) (cI (inR z 16) (cI (bit (aM A x.toNatClampNeg) y.toNatClampNeg) (-4, A) (cI (aV A x.toNatClampNeg y.toNatClampNeg = z.toNatClampNeg) (-5, A) (nI (aV A x.toNatClampNeg y.toNatClampNeg), aPut A x.toNatClampNeg y.toNatClampNeg z.toNatClampNeg))) (-2, A)) (-1, A)
theorem alF_in {A : Ab} {t c : Nat} {z : Int32} (hA : AOK A) (ht : t < aT A) (hc : c < nc (aG A) (aS A)) : alF A (nI t) (nI c) z = cI (inR z 16) (cI (bit (aM A t) c) (-4, A) (cI (aV A t c = z.toNatClampNeg) (-5, A) (nI (aV A t c), aPut A t c z.toNatClampNeg))) (-2, A) := by
  have hn := hA.1.nc
  have h8 : aT A ≤ 8 := hA.1.2.2.2.2.2.2.1
  unfold alF
  rw [cI_t (cell_in hA ht hc), nI_cl (by omega), nI_cl (by omega)]
noncomputable def loF (A : Ab) (x y : Int32) : Int32 × Ab := cI (inR x (aT A) ∧ inR y (nc (aG A) (aS A))) (cI (bit (aM A x.toNatClampNeg) y.toNatClampNeg) (-5, A) (nI ((aQ A).length + 1), aLos A x.toNatClampNeg y.toNatClampNeg)) (-1, A)
theorem loF_in {A : Ab} {t c : Nat} (hA : AOK A) (ht : t < aT A) (hc : c < nc (aG A) (aS A)) : loF A (nI t) (nI c) = cI (bit (aM A t) c) (-5, A) (nI ((aQ A).length + 1), aLos A t c) := by
  have hn := hA.1.nc
  have h8 : aT A ≤ 8 := hA.1.2.2.2.2.2.2.1
  unfold loF
  rw [cI_t (cell_in hA ht hc), nI_cl (by omega), nI_cl (by omega)]
section CL
variable {E : AEnv} {d : Nat} {h h' : List va_E} {b : Nat} {A : Ab} {B S : RP} {n : Nat} {Hs : Nat → RP} {tk : Nat} {o X : Nat → Int32} {G : Nat → Option va_E}
theorem c_writeCell {x y z : Int32} (hC : ClAt G h b (RepS A) B S n Hs tk o X) (hd : 3 ≤ d) : Calls E mX5_writeCell d 0 0 [.ref b, .int x, .int y, .int z] h (RI (fun r h' => r = (wrF A x y z).1 ∧ ClAt G h' b (RepS (wrF A x y z).2) B S n Hs tk o X)) := by
  refine Calls.of (ls := [some (.ref b), some (.int x), some (.int y), some (.int z), none]) (by decide +kernel) rfl (Nat.le_of_ble_eq_true rfl) (cat_ok rfl) ?_
  obtain ⟨σ, hS, hR⟩ := hC.2.2.1
  have hA := hR.1
  have hL := hR.2.1
  have hX := hR.2.2.1
  have hM := hR.2.2.2.1
  have hV := hR.2.2.2.2.1
  have hn20 := hA.1.nc
  have en : nc (aG A) (aS A) = aG A * aS A + aG A + 2 := rfl
  have hT8 : aT A ≤ 8 := hA.1.2.2.2.2.2.2.1
  refine go_aload_0 (DX5_writeCell.at 0 rfl) ?_
  refine go_getfield (DX5_writeCell.at 1 rfl) fX5_10 hC.1 rfl ?_
  refine go_iload_1 (DX5_writeCell.at 2 rfl) ?_
  refine go_iload_2 (DX5_writeCell.at 3 rfl) ?_
  refine go_cVx2 (DX5_writeCell.at 4 rfl) nX5_134 vX4_hasCell (by omega) (c_hasCell hS hL (by omega)) hS.1 rfl (Nat.le_of_ble_eq_true rfl) ?_
  refine go_if_eq 23 (DX5_writeCell.at 5 rfl) (by decide) (fun c9 => ?_) (fun c9 => ?_)
  · rw [bP_eq0] at c9
    have e1 : wrF A x y z = (-1, A) := cI_f (fun q => c9 ⟨q.1, inR_mono (by omega) (by omega) q.2⟩)
    refine go_iconst (v := (-1)) (DX5_writeCell.at 11 rfl) (by decide) ?_
    exact go_iret (DX5_writeCell.at 12 rfl) rfl rfl (RI.mk (by rw [e1]; exact ⟨rfl, hC⟩))
  · rw [bP_eq0, Classical.not_not] at c9
    obtain ⟨⟨t, ht, rfl⟩, ⟨c, hc, rfl⟩⟩ := And.intro (inR_ex (by omega) c9.1) (inR_ex (by omega) c9.2)
    have hM20 := hA.m20 ht
    refine go_iload_2 (DX5_writeCell.at 6 rfl) ?_
    refine go_aload_0 (DX5_writeCell.at 7 rfl) ?_
    refine go_getfield (DX5_writeCell.at 8 rfl) fX5_10 hC.1 rfl ?_
    refine go_cVx0 (DX5_writeCell.at 9 rfl) nX5_239 vX4_dataCount (by omega) (c_dataCount hS hL) hS.1 rfl (Nat.le_of_ble_eq_true rfl) ?_
    refine go_icmp_lt 25 (DX5_writeCell.at 10 rfl) (by decide) (fun c20 => ?_) (fun c20 => ?_)
    · rw [nI_ltI (by omega) (by omega)] at c20
      refine go_iload_3 (DX5_writeCell.at 13 rfl) ?_
      refine go_iconst (v := nI 0) (DX5_writeCell.at 14 rfl) (by decide) ?_
      refine go_bipush (v := nI 15) (DX5_writeCell.at 15 rfl) (by decide) ?_
      refine go_cSx3 (DX5_writeCell.at 16 rfl) nX5_55 vX5_isWithin (by omega) c_isWithin (Nat.le_of_ble_eq_true rfl) ?_
      refine go_if_ne 38 (DX5_writeCell.at 17 rfl) (by decide) (fun c32 => ?_) (fun c32 => ?_)
      · rw [bI_eq0, Classical.not_not, wi_in (by decide)] at c32
        obtain ⟨v, hv, rfl⟩ := inR_ex (by decide) c32
        refine go_aload_0 (DX5_writeCell.at 20 rfl) ?_
        refine go_getfield (DX5_writeCell.at 21 rfl) fX5_10 hC.1 rfl ?_
        refine go_iload_1 (DX5_writeCell.at 22 rfl) ?_
        refine go_cVx1 (DX5_writeCell.at 23 rfl) nX5_162 vX4_missingIn (by omega) (c_missingIn hS (by omega) (by omega)) hS.1 rfl (Nat.le_of_ble_eq_true rfl) ?_
        rw [hM t ht]
        refine go_if_eq 52 (DX5_writeCell.at 24 rfl) (by decide) (fun c46 => ?_) (fun c46 => ?_)
        · rw [nI_eq0 (by omega)] at c46
          refine go_aload_0 (DX5_writeCell.at 27 rfl) ?_
          refine go_getfield (DX5_writeCell.at 28 rfl) fX5_10 hC.1 rfl ?_
          refine go_iload_1 (DX5_writeCell.at 29 rfl) ?_
          refine go_iload_2 (DX5_writeCell.at 30 rfl) ?_
          refine go_cVx2 (DX5_writeCell.at 31 rfl) nX5_141 vX4_valueOf (by omega) (c_valueOf hS (by omega) (by omega) (by omega)) hS.1 rfl (Nat.le_of_ble_eq_true rfl) ?_
          rw [hV t ht c hc (by rw [c46]; exact nbit0 c)]
          refine go_istore_4 (DX5_writeCell.at 32 rfl) ?_
          refine go_iload_4 (DX5_writeCell.at 33 rfl) ?_
          refine go_iload_3 (DX5_writeCell.at 34 rfl) ?_
          refine go_icmp_ne 72 (DX5_writeCell.at 35 rfl) (by decide) (fun c66 => ?_) (fun c66 => ?_)
          · rw [nI_eq (by have := hA.2.2.1 t c; omega) (by omega)] at c66
            refine go_aload_0 (DX5_writeCell.at 38 rfl) ?_
            refine go_getfield (DX5_writeCell.at 39 rfl) fX5_10 hC.1 rfl ?_
            refine go_iload_1 (DX5_writeCell.at 40 rfl) ?_
            refine go_iload_2 (DX5_writeCell.at 41 rfl) ?_
            refine go_iload_3 (DX5_writeCell.at 42 rfl) ?_
            refine go_cVv3 (DX5_writeCell.at 43 rfl) nX5_242 vX4_setValue (by omega) (c_setValue hS (by omega) (show c < 20 by omega) (by omega)) hS.1 rfl (Nat.le_of_ble_eq_true rfl) (fun h79 q79 => ?_)
            have hC1 := hC.toNow q79 (hR.put hc hv)
            refine go_aload_0 (DX5_writeCell.at 44 rfl) ?_
            refine go_getfield (DX5_writeCell.at 45 rfl) fX5_10 hC1.1 rfl ?_
            refine go_iload_1 (DX5_writeCell.at 46 rfl) ?_
            refine go_aload_0 (DX5_writeCell.at 47 rfl) ?_
            refine go_getfield (DX5_writeCell.at 48 rfl) fX5_10 hC1.1 rfl ?_
            refine go_iload_2 (DX5_writeCell.at 49 rfl) ?_
            refine go_cVx1 (DX5_writeCell.at 50 rfl) nX5_246 vX4_columnOf (by omega) (c_columnOf q79.1 (show c < 20 by omega) (by omega)) q79.1.1 rfl (Nat.le_of_ble_eq_true rfl) ?_
            rw [rset_n (by decide), (hX c hc).1]
            refine go_iload_4 (DX5_writeCell.at 51 rfl) ?_
            refine go_iload_3 (DX5_writeCell.at 52 rfl) ?_
            refine go_ixor (DX5_writeCell.at 53 rfl) ?_
            rw [nx_xor]
            refine go_cSx2 (DX5_writeCell.at 54 rfl) nX5_249 vX5_scaled (by omega) (c_scaled (fun i _ => colv_lt i) (xor_lt (hA.2.2.1 t c) hv)) (Nat.le_of_ble_eq_true rfl) ?_
            refine go_cVv2 (DX5_writeCell.at 55 rfl) nX5_252 vX4_addToParities (by omega) (c_addToParities q79.1 (hL.of0 (fun _ _ => rfl)) (fun i _ => gm_lt (colv_lt i) (xor_lt (hA.2.2.1 t c) hv)) (by omega) (by omega)) q79.1.1 rfl (Nat.le_of_ble_eq_true rfl) (fun h102 q102 => ?_)
            rw [rset_s] at q102
            refine go_iload_4 (DX5_writeCell.at 56 rfl) ?_
            exact go_iret (DX5_writeCell.at 57 rfl) rfl rfl (RI.mk (by rw [wrF_in hA ht c20, cI_t c32, cI_t c46, nI_cl (by omega), cI_f c66]; exact ⟨rfl, hC1.toNow q102 (hR.wrt ht c20 hv c46)⟩))
          · rw [nI_eq (by have := hA.2.2.1 t c; omega) (by omega)] at c66
            have e5 : wrF A (nI t) (nI c) (nI v) = (-5, A) := by rw [wrF_in hA ht c20, cI_t c32, cI_t c46, nI_cl (by omega), cI_t c66]
            refine go_bipush (v := (-5)) (DX5_writeCell.at 36 rfl) (by decide) ?_
            exact go_iret (DX5_writeCell.at 37 rfl) rfl rfl (RI.mk (by rw [e5]; exact ⟨rfl, hC⟩))
        · rw [nI_eq0 (by omega)] at c46
          have e4 : wrF A (nI t) (nI c) (nI v) = (-4, A) := by rw [wrF_in hA ht c20, cI_t c32, cI_f c46]
          refine go_bipush (v := (-4)) (DX5_writeCell.at 25 rfl) (by decide) ?_
          exact go_iret (DX5_writeCell.at 26 rfl) rfl rfl (RI.mk (by rw [e4]; exact ⟨rfl, hC⟩))
      · rw [bI_eq0, wi_in (by decide)] at c32
        have e2 : wrF A (nI t) (nI c) z = (-2, A) := by rw [wrF_in hA ht c20, cI_f c32]
        refine go_bipush (v := (-2)) (DX5_writeCell.at 18 rfl) (by decide) ?_
        exact go_iret (DX5_writeCell.at 19 rfl) rfl rfl (RI.mk (by rw [e2]; exact ⟨rfl, hC⟩))
    · have e1 : wrF A (nI t) (nI c) z = (-1, A) := cI_f (fun q => c20 q.2.2)
      refine go_iconst (v := (-1)) (DX5_writeCell.at 11 rfl) (by decide) ?_
      exact go_iret (DX5_writeCell.at 12 rfl) rfl rfl (RI.mk (by rw [e1]; exact ⟨rfl, hC⟩))

theorem c_loseCell {x y : Int32} (hC : ClAt G h b (RepS A) B S n Hs tk o X) (hd : 3 ≤ d) : Calls E mX5_loseCell d 0 0 [.ref b, .int x, .int y] h (RI (fun r h' => r = (loF A x y).1 ∧ ClAt G h' b (RepS (loF A x y).2) B S n Hs tk o X)) := by
  refine Calls.of (ls := [some (.ref b), some (.int x), some (.int y)]) (by decide +kernel) rfl (Nat.le_of_ble_eq_true rfl) (cat_ok rfl) ?_
  obtain ⟨σ, hS, hR⟩ := hC.2.2.1
  have hA := hR.1
  have hL := hR.2.1
  have hX := hR.2.2.1
  have hM := hR.2.2.2.1
  have hV := hR.2.2.2.2.1
  have hn20 := hA.1.nc
  have en : nc (aG A) (aS A) = aG A * aS A + aG A + 2 := rfl
  have hT8 : aT A ≤ 8 := hA.1.2.2.2.2.2.2.1
  refine go_aload_0 (DX5_loseCell.at 0 rfl) ?_
  refine go_getfield (DX5_loseCell.at 1 rfl) fX5_10 hC.1 rfl ?_
  refine go_iload_1 (DX5_loseCell.at 2 rfl) ?_
  refine go_iload_2 (DX5_loseCell.at 3 rfl) ?_
  refine go_cVx2 (DX5_loseCell.at 4 rfl) nX5_134 vX4_hasCell (by omega) (c_hasCell hS hL (by omega)) hS.1 rfl (Nat.le_of_ble_eq_true rfl) ?_
  refine go_if_ne 14 (DX5_loseCell.at 5 rfl) (by decide) (fun c9 => ?_) (fun c9 => ?_)
  · rw [bP_eq0, Classical.not_not] at c9
    obtain ⟨⟨t, ht, rfl⟩, ⟨c, hc, rfl⟩⟩ := And.intro (inR_ex (by omega) c9.1) (inR_ex (by omega) c9.2)
    have hM20 := hA.m20 ht
    refine go_aload_0 (DX5_loseCell.at 8 rfl) ?_
    refine go_getfield (DX5_loseCell.at 9 rfl) fX5_10 hC.1 rfl ?_
    refine go_iload_1 (DX5_loseCell.at 10 rfl) ?_
    refine go_iload_2 (DX5_loseCell.at 11 rfl) ?_
    refine go_cVx2 (DX5_loseCell.at 12 rfl) nX5_138 vX4_isMissing (by omega) (c_isMissing hS (by omega) (by omega) (hM t ht) (by omega) (by omega)) hS.1 rfl (Nat.le_of_ble_eq_true rfl) ?_
    refine go_if_eq 29 (DX5_loseCell.at 13 rfl) (by decide) (fun c23 => ?_) (fun c23 => ?_)
    · rw [bP_eq0] at c23
      refine go_aload_0 (DX5_loseCell.at 16 rfl) ?_
      refine go_getfield (DX5_loseCell.at 17 rfl) fX5_10 hC.1 rfl ?_
      refine go_iload_1 (DX5_loseCell.at 18 rfl) ?_
      refine go_iload_2 (DX5_loseCell.at 19 rfl) ?_
      refine go_cVv2 (DX5_loseCell.at 20 rfl) nX5_256 vX4_takeAway (by omega) (c_takeAway hS (by omega) (show c < 20 by omega) (hM t ht) hR.2.2.2.2.2.1 (hA.qroom ht hc c23) (by omega)) hS.1 rfl (Nat.le_of_ble_eq_true rfl) (fun h35 q35 => ?_)
      have hC1 := hC.toNow q35 (hR.los ht hc c23)
      refine go_aload_0 (DX5_loseCell.at 21 rfl) ?_
      refine go_getfield (DX5_loseCell.at 22 rfl) fX5_10 hC1.1 rfl ?_
      refine go_getfield (DX5_loseCell.at 23 rfl) fX5_131 q35.1.1 rfl ?_
      exact go_iret (DX5_loseCell.at 24 rfl) rfl rfl (RI.mk (by rw [loF_in hA ht hc, cI_f c23]; exact ⟨rfl, hC1⟩))
    · rw [bP_eq0, Classical.not_not] at c23
      have e5 : loF A (nI t) (nI c) = (-5, A) := by rw [loF_in hA ht hc, cI_t c23]
      refine go_bipush (v := (-5)) (DX5_loseCell.at 14 rfl) (by decide) ?_
      exact go_iret (DX5_loseCell.at 15 rfl) rfl rfl (RI.mk (by rw [e5]; exact ⟨rfl, hC⟩))
  · rw [bP_eq0] at c9
    have e1 : loF A x y = (-1, A) := cI_f c9
    refine go_iconst (v := (-1)) (DX5_loseCell.at 6 rfl) (by decide) ?_
    exact go_iret (DX5_loseCell.at 7 rfl) rfl rfl (RI.mk (by rw [e1]; exact ⟨rfl, hC⟩))

theorem c_mendCell {x y : Int32} (hC : ClAt G h b (RepS A) B S n Hs tk o X) (hd : 5 ≤ d) : Calls E mX5_mendCell d 0 0 [.ref b, .int x, .int y] h (RI (fun r h' => r = (mdF A x y).1 ∧ ClAt G h' b (RepS (mdF A x y).2) B S n Hs tk o X)) := by
  refine Calls.of (ls := [some (.ref b), some (.int x), some (.int y), none]) (by decide +kernel) rfl (Nat.le_of_ble_eq_true rfl) (cat_ok rfl) ?_
  obtain ⟨σ, hS, hR⟩ := hC.2.2.1
  have hA := hR.1
  have hL := hR.2.1
  have hX := hR.2.2.1
  have hM := hR.2.2.2.1
  have hV := hR.2.2.2.2.1
  have hn20 := hA.1.nc
  have en : nc (aG A) (aS A) = aG A * aS A + aG A + 2 := rfl
  have hT8 : aT A ≤ 8 := hA.1.2.2.2.2.2.2.1
  obtain ⟨s0, t0, hp, r0, cf0, lf0, hB0⟩ := hC.2.2.2.2.2.2.2.1
  refine go_aload_0 (DX5_mendCell.at 0 rfl) ?_
  refine go_getfield (DX5_mendCell.at 1 rfl) fX5_36 hC.1 rfl ?_
  refine go_aload_0 (DX5_mendCell.at 2 rfl) ?_
  refine go_getfield (DX5_mendCell.at 3 rfl) fX5_10 hC.1 rfl ?_
  refine go_iload_1 (DX5_mendCell.at 4 rfl) ?_
  refine go_iload_2 (DX5_mendCell.at 5 rfl) ?_
  refine go_cVi3 (DX5_mendCell.at 6 rfl) nX5_201 vX2_make (by omega) (c_make hp hB0 hS hL hX (fun t ht => ⟨hM t ht, hA.m20 ht⟩) (fun t ht c hc hb => ⟨hV t ht c hc hb, hA.2.2.1 t c⟩) (by omega) (by omega)) hp rfl (Nat.le_of_ble_eq_true rfl) (fun x10 h10 q10 => ?_)
  obtain ⟨u, src, out, q1, q⟩ := q10
  have hC2 := hC.toPlan ⟨q1, u⟩
  have hS2 := hS.keep u (by omega)
  rcases q with ⟨a1, rfl⟩ | ⟨t, c, ht, hc, rfl, rfl, ⟨a1, rfl⟩ | ⟨a1, ⟨w, sc, X', hW, rfl, rfl, rfl⟩ | ⟨hW, rfl⟩⟩⟩
  · refine go_istore_3 (DX5_mendCell.at 7 rfl) ?_
    refine go_iload_3 (DX5_mendCell.at 8 rfl) ?_
    refine go_if_ge 20 (DX5_mendCell.at 9 rfl) (by decide) (fun c15 => absurd c15 (by decide)) (fun c15 => ?_)
    refine go_iload_3 (DX5_mendCell.at 10 rfl) ?_
    exact go_iret (DX5_mendCell.at 11 rfl) rfl rfl (RI.mk (by rw [mdF_out a1]; exact ⟨rfl, hC2⟩))
  · refine go_istore_3 (DX5_mendCell.at 7 rfl) ?_
    refine go_iload_3 (DX5_mendCell.at 8 rfl) ?_
    refine go_if_ge 20 (DX5_mendCell.at 9 rfl) (by decide) (fun c15 => absurd c15 (by decide)) (fun c15 => ?_)
    refine go_iload_3 (DX5_mendCell.at 10 rfl) ?_
    exact go_iret (DX5_mendCell.at 11 rfl) rfl rfl (RI.mk (by rw [mdF_in hA ht hc, cI_f a1]; exact ⟨rfl, hC2⟩))
  · obtain ⟨p, hp1, hp2⟩ := first_at ((hA.qin ht hc).mpr a1)
    have hpl := (List.getElem?_eq_some_iff.mp hp1).1
    have hsc := hW.src hA.1
    have hX16 := WyX.lt hA hc hW
    have hx0 : ∀ i x, (aQ A)[i]? = some x → x ≠ 20 * t + c → ¬ σ 1 i = nI (100 * t + c) := fun i x hx hne e => by
      have h1 := hA.lt160 (List.mem_of_getElem? hx)
      rw [hR.2.2.2.2.2.2.1 i x hx, nI_eq (by omega) (by omega)] at e
      omega
    have hb1 : σ 1 p = nI (100 * t + c) := by
      rw [hR.2.2.2.2.2.2.1 p _ hp1, show (20 * t + c) / 20 = t by omega, show (20 * t + c) % 20 = c by omega]
    have hb2 : ∀ j, j < p → ¬ σ 1 j = nI (100 * t + c) := fun j hj => by
      have h1 : (aQ A)[j]? = some (aQ A)[j] := List.getElem?_eq_getElem (by omega)
      exact hx0 j _ h1 (fun e => hp2 j hj (by rw [h1, e]))
    rcases hW.w with rfl | rfl | rfl
    · refine go_istore_3 (DX5_mendCell.at 7 rfl) ?_
      refine go_iload_3 (DX5_mendCell.at 8 rfl) ?_
      refine go_if_ge 20 (DX5_mendCell.at 9 rfl) (by decide) (fun c15 => ?_) (fun c15 => absurd (by decide) c15)
      refine go_aload_0 (DX5_mendCell.at 12 rfl) ?_
      refine go_getfield (DX5_mendCell.at 13 rfl) fX5_10 hC2.1 rfl ?_
      refine go_iload_1 (DX5_mendCell.at 14 rfl) ?_
      refine go_aload_0 (DX5_mendCell.at 15 rfl) ?_
      refine go_getfield (DX5_mendCell.at 16 rfl) fX5_36 hC2.1 rfl ?_
      refine go_getfield (DX5_mendCell.at 17 rfl) fX5_205 q1.1 rfl ?_
      refine go_cVv2 (DX5_mendCell.at 18 rfl) nX5_262 vX4_countReads (by omega) (c_countReads hS2 hL (by omega) (by omega) (by omega)) hS2.1 rfl (Nat.le_of_ble_eq_true rfl) (fun h32 q32 => ?_)
      have hC3 := hC2.toNow (M := fun _ => True) q32 trivial
      have pl3 := q1.keep q32.2 (by omega)
      refine go_aload_0 (DX5_mendCell.at 19 rfl) ?_
      refine go_getfield (DX5_mendCell.at 20 rfl) fX5_10 hC3.1 rfl ?_
      refine go_iload_1 (DX5_mendCell.at 21 rfl) ?_
      refine go_iload_2 (DX5_mendCell.at 22 rfl) ?_
      refine go_aload_0 (DX5_mendCell.at 23 rfl) ?_
      refine go_getfield (DX5_mendCell.at 24 rfl) fX5_36 hC3.1 rfl ?_
      refine go_getfield (DX5_mendCell.at 25 rfl) fX5_213 pl3.1 rfl ?_
      refine go_cVv3 (DX5_mendCell.at 26 rfl) nX5_265 vX4_bringBack (by omega) (c_bringBack q32.1 (by omega) (show c < 20 by omega) (hM t ht) hR.2.2.2.2.2.1 hA.q160 hpl hb1 hb2 (by omega)) q32.1.1 rfl (Nat.le_of_ble_eq_true rfl) (fun h48 q48 => ?_)
      have hC4 := hC3.toNow (M := fun _ => True) q48 trivial
      have pl4 := pl3.keep q48.2 (by omega)
      refine go_aload_0 (DX5_mendCell.at 27 rfl) ?_
      refine go_getfield (DX5_mendCell.at 28 rfl) fX5_10 hC4.1 rfl ?_
      refine go_dup (DX5_mendCell.at 29 rfl) rfl ?_
      refine go_getfield (DX5_mendCell.at 30 rfl) fX5_192 q48.1.1 rfl ?_
      refine go_iconst (v := nI 1) (DX5_mendCell.at 31 rfl) (by decide) ?_
      refine go_iadd (DX5_mendCell.at 32 rfl) ?_
      refine go_putSt (DX5_mendCell.at 33 rfl) fX5_192 (by decide) q48.1 (fun h61 q61 => ?_)
      have hC5 := hC4.toNow (M := fun _ => True) q61 trivial
      have pl5 := pl4.keep q61.2 (by omega)
      refine go_iload_3 (DX5_mendCell.at 34 rfl) ?_
      refine go_iconst (v := nI 1) (DX5_mendCell.at 35 rfl) (by decide) ?_
      refine go_icmp_ne 82 (DX5_mendCell.at 36 rfl) (by decide) (fun c66 => absurd rfl c66) (fun c66 => ?_)
      refine go_aload_0 (DX5_mendCell.at 37 rfl) ?_
      refine go_getfield (DX5_mendCell.at 38 rfl) fX5_10 hC5.1 rfl ?_
      refine go_dup (DX5_mendCell.at 39 rfl) rfl ?_
      refine go_getfield (DX5_mendCell.at 40 rfl) fX5_195 q61.1.1 rfl ?_
      refine go_iconst (v := nI 1) (DX5_mendCell.at 41 rfl) (by decide) ?_
      refine go_iadd (DX5_mendCell.at 42 rfl) ?_
      refine go_putSt (DX5_mendCell.at 43 rfl) fX5_195 (by decide) q61.1 (fun h79 q79 => ?_)
      have hC6 := hC2.toNow (q32.then (q48.then (q61.then q79))) (hR.mnd (w := 1) ht hc hX16 hp1 hp2 rfl rfl rfl rfl rfl rfl (fun k hk => by rcases (show k = 0 ∨ k = 1 ∨ k = 2 ∨ k = 3 by omega) with rfl | rfl | rfl | rfl <;> rfl) rfl rfl rfl rfl)
      have pl6 := pl5.keep q79.2 (by omega)
      refine go_aload_0 (DX5_mendCell.at 44 rfl) ?_
      refine go_getfield (DX5_mendCell.at 45 rfl) fX5_36 hC6.1 rfl ?_
      refine go_getfield (DX5_mendCell.at 46 rfl) fX5_205 pl6.1 rfl ?_
      refine go_cSx1 (DX5_mendCell.at 47 rfl) nX5_208 vJ6_bitCount_0f7a4 (by omega) (c_bitCount hsc) (Nat.le_of_ble_eq_true rfl) ?_
      exact go_iret (DX5_mendCell.at 48 rfl) rfl rfl (RI.mk (by rw [mdF_in hA ht hc, cI_t a1, mdA_s hW]; exact ⟨rfl, hC6⟩))
    · refine go_istore_3 (DX5_mendCell.at 7 rfl) ?_
      refine go_iload_3 (DX5_mendCell.at 8 rfl) ?_
      refine go_if_ge 20 (DX5_mendCell.at 9 rfl) (by decide) (fun c15 => ?_) (fun c15 => absurd (by decide) c15)
      refine go_aload_0 (DX5_mendCell.at 12 rfl) ?_
      refine go_getfield (DX5_mendCell.at 13 rfl) fX5_10 hC2.1 rfl ?_
      refine go_iload_1 (DX5_mendCell.at 14 rfl) ?_
      refine go_aload_0 (DX5_mendCell.at 15 rfl) ?_
      refine go_getfield (DX5_mendCell.at 16 rfl) fX5_36 hC2.1 rfl ?_
      refine go_getfield (DX5_mendCell.at 17 rfl) fX5_205 q1.1 rfl ?_
      refine go_cVv2 (DX5_mendCell.at 18 rfl) nX5_262 vX4_countReads (by omega) (c_countReads hS2 hL (by omega) (by omega) (by omega)) hS2.1 rfl (Nat.le_of_ble_eq_true rfl) (fun h32 q32 => ?_)
      have hC3 := hC2.toNow (M := fun _ => True) q32 trivial
      have pl3 := q1.keep q32.2 (by omega)
      refine go_aload_0 (DX5_mendCell.at 19 rfl) ?_
      refine go_getfield (DX5_mendCell.at 20 rfl) fX5_10 hC3.1 rfl ?_
      refine go_iload_1 (DX5_mendCell.at 21 rfl) ?_
      refine go_iload_2 (DX5_mendCell.at 22 rfl) ?_
      refine go_aload_0 (DX5_mendCell.at 23 rfl) ?_
      refine go_getfield (DX5_mendCell.at 24 rfl) fX5_36 hC3.1 rfl ?_
      refine go_getfield (DX5_mendCell.at 25 rfl) fX5_213 pl3.1 rfl ?_
      refine go_cVv3 (DX5_mendCell.at 26 rfl) nX5_265 vX4_bringBack (by omega) (c_bringBack q32.1 (by omega) (show c < 20 by omega) (hM t ht) hR.2.2.2.2.2.1 hA.q160 hpl hb1 hb2 (by omega)) q32.1.1 rfl (Nat.le_of_ble_eq_true rfl) (fun h48 q48 => ?_)
      have hC4 := hC3.toNow (M := fun _ => True) q48 trivial
      have pl4 := pl3.keep q48.2 (by omega)
      refine go_aload_0 (DX5_mendCell.at 27 rfl) ?_
      refine go_getfield (DX5_mendCell.at 28 rfl) fX5_10 hC4.1 rfl ?_
      refine go_dup (DX5_mendCell.at 29 rfl) rfl ?_
      refine go_getfield (DX5_mendCell.at 30 rfl) fX5_192 q48.1.1 rfl ?_
      refine go_iconst (v := nI 1) (DX5_mendCell.at 31 rfl) (by decide) ?_
      refine go_iadd (DX5_mendCell.at 32 rfl) ?_
      refine go_putSt (DX5_mendCell.at 33 rfl) fX5_192 (by decide) q48.1 (fun h61 q61 => ?_)
      have hC5 := hC4.toNow (M := fun _ => True) q61 trivial
      have pl5 := pl4.keep q61.2 (by omega)
      refine go_iload_3 (DX5_mendCell.at 34 rfl) ?_
      refine go_iconst (v := nI 1) (DX5_mendCell.at 35 rfl) (by decide) ?_
      refine go_icmp_ne 82 (DX5_mendCell.at 36 rfl) (by decide) (fun c66 => ?_) (fun c66 => absurd c66 (by decide))
      have hC6 := hC2.toNow (q32.then (q48.then q61)) (hR.mnd (w := 2) ht hc hX16 hp1 hp2 rfl rfl rfl rfl rfl rfl (fun k hk => by rcases (show k = 0 ∨ k = 1 ∨ k = 2 ∨ k = 3 by omega) with rfl | rfl | rfl | rfl <;> rfl) rfl rfl rfl rfl)
      have pl6 := pl5
      refine go_aload_0 (DX5_mendCell.at 44 rfl) ?_
      refine go_getfield (DX5_mendCell.at 45 rfl) fX5_36 hC6.1 rfl ?_
      refine go_getfield (DX5_mendCell.at 46 rfl) fX5_205 pl6.1 rfl ?_
      refine go_cSx1 (DX5_mendCell.at 47 rfl) nX5_208 vJ6_bitCount_0f7a4 (by omega) (c_bitCount hsc) (Nat.le_of_ble_eq_true rfl) ?_
      exact go_iret (DX5_mendCell.at 48 rfl) rfl rfl (RI.mk (by rw [mdF_in hA ht hc, cI_t a1, mdA_s hW]; exact ⟨rfl, hC6⟩))
    · refine go_istore_3 (DX5_mendCell.at 7 rfl) ?_
      refine go_iload_3 (DX5_mendCell.at 8 rfl) ?_
      refine go_if_ge 20 (DX5_mendCell.at 9 rfl) (by decide) (fun c15 => ?_) (fun c15 => absurd (by decide) c15)
      refine go_aload_0 (DX5_mendCell.at 12 rfl) ?_
      refine go_getfield (DX5_mendCell.at 13 rfl) fX5_10 hC2.1 rfl ?_
      refine go_iload_1 (DX5_mendCell.at 14 rfl) ?_
      refine go_aload_0 (DX5_mendCell.at 15 rfl) ?_
      refine go_getfield (DX5_mendCell.at 16 rfl) fX5_36 hC2.1 rfl ?_
      refine go_getfield (DX5_mendCell.at 17 rfl) fX5_205 q1.1 rfl ?_
      refine go_cVv2 (DX5_mendCell.at 18 rfl) nX5_262 vX4_countReads (by omega) (c_countReads hS2 hL (by omega) (by omega) (by omega)) hS2.1 rfl (Nat.le_of_ble_eq_true rfl) (fun h32 q32 => ?_)
      have hC3 := hC2.toNow (M := fun _ => True) q32 trivial
      have pl3 := q1.keep q32.2 (by omega)
      refine go_aload_0 (DX5_mendCell.at 19 rfl) ?_
      refine go_getfield (DX5_mendCell.at 20 rfl) fX5_10 hC3.1 rfl ?_
      refine go_iload_1 (DX5_mendCell.at 21 rfl) ?_
      refine go_iload_2 (DX5_mendCell.at 22 rfl) ?_
      refine go_aload_0 (DX5_mendCell.at 23 rfl) ?_
      refine go_getfield (DX5_mendCell.at 24 rfl) fX5_36 hC3.1 rfl ?_
      refine go_getfield (DX5_mendCell.at 25 rfl) fX5_213 pl3.1 rfl ?_
      refine go_cVv3 (DX5_mendCell.at 26 rfl) nX5_265 vX4_bringBack (by omega) (c_bringBack q32.1 (by omega) (show c < 20 by omega) (hM t ht) hR.2.2.2.2.2.1 hA.q160 hpl hb1 hb2 (by omega)) q32.1.1 rfl (Nat.le_of_ble_eq_true rfl) (fun h48 q48 => ?_)
      have hC4 := hC3.toNow (M := fun _ => True) q48 trivial
      have pl4 := pl3.keep q48.2 (by omega)
      refine go_aload_0 (DX5_mendCell.at 27 rfl) ?_
      refine go_getfield (DX5_mendCell.at 28 rfl) fX5_10 hC4.1 rfl ?_
      refine go_dup (DX5_mendCell.at 29 rfl) rfl ?_
      refine go_getfield (DX5_mendCell.at 30 rfl) fX5_192 q48.1.1 rfl ?_
      refine go_iconst (v := nI 1) (DX5_mendCell.at 31 rfl) (by decide) ?_
      refine go_iadd (DX5_mendCell.at 32 rfl) ?_
      refine go_putSt (DX5_mendCell.at 33 rfl) fX5_192 (by decide) q48.1 (fun h61 q61 => ?_)
      have hC5 := hC4.toNow (M := fun _ => True) q61 trivial
      have pl5 := pl4.keep q61.2 (by omega)
      refine go_iload_3 (DX5_mendCell.at 34 rfl) ?_
      refine go_iconst (v := nI 1) (DX5_mendCell.at 35 rfl) (by decide) ?_
      refine go_icmp_ne 82 (DX5_mendCell.at 36 rfl) (by decide) (fun c66 => ?_) (fun c66 => absurd c66 (by decide))
      have hC6 := hC2.toNow (q32.then (q48.then q61)) (hR.mnd (w := 3) ht hc hX16 hp1 hp2 rfl rfl rfl rfl rfl rfl (fun k hk => by rcases (show k = 0 ∨ k = 1 ∨ k = 2 ∨ k = 3 by omega) with rfl | rfl | rfl | rfl <;> rfl) rfl rfl rfl rfl)
      have pl6 := pl5
      refine go_aload_0 (DX5_mendCell.at 44 rfl) ?_
      refine go_getfield (DX5_mendCell.at 45 rfl) fX5_36 hC6.1 rfl ?_
      refine go_getfield (DX5_mendCell.at 46 rfl) fX5_205 pl6.1 rfl ?_
      refine go_cSx1 (DX5_mendCell.at 47 rfl) nX5_208 vJ6_bitCount_0f7a4 (by omega) (c_bitCount hsc) (Nat.le_of_ble_eq_true rfl) ?_
      exact go_iret (DX5_mendCell.at 48 rfl) rfl rfl (RI.mk (by rw [mdF_in hA ht hc, cI_t a1, mdA_s hW]; exact ⟨rfl, hC6⟩))
  · refine go_istore_3 (DX5_mendCell.at 7 rfl) ?_
    refine go_iload_3 (DX5_mendCell.at 8 rfl) ?_
    refine go_if_ge 20 (DX5_mendCell.at 9 rfl) (by decide) (fun c15 => absurd c15 (by decide)) (fun c15 => ?_)
    refine go_iload_3 (DX5_mendCell.at 10 rfl) ?_
    exact go_iret (DX5_mendCell.at 11 rfl) rfl rfl (RI.mk (by rw [mdF_in hA ht hc, cI_t a1, mdA_n hW]; exact ⟨rfl, hC2⟩))

end CL
