/-! THE MODEL: what is done to a cell and to a node -/
theorem RepM.wrt {A : Ab} {m m' : Nat → Int32} {t c v : Nat} (h : RepM A m) (ht : t < aT A) (hc : c < aG A * aS A) (hv : v < 16) (h0 : aM A t = 0) (c0 : ∀ k, (k < 29 ∨ 189 ≤ k) → m' k = m k)
    (c1 : m' (29 + 20 * t + c) = nI v) (c2 : m' (29 + 20 * t + (aG A * aS A + hcv (aG A) (aS A) c)) = nI (aV A t (aG A * aS A + hcv (aG A) (aS A) c) ^^^ (aV A t c ^^^ v)))
    (c3 : m' (29 + 20 * t + (aG A * aS A + aG A)) = nI (aV A t (aG A * aS A + aG A) ^^^ gm (aV A t c ^^^ v) (pw c))) (c4 : m' (29 + 20 * t + (aG A * aS A + aG A + 1)) = nI (aV A t (aG A * aS A + aG A + 1) ^^^ gm (aV A t c ^^^ v) (pw (2 * c))))
    (c5 : ∀ k, 29 ≤ k → k < 189 → k ≠ 29 + 20 * t + c → k ≠ 29 + 20 * t + (aG A * aS A + hcv (aG A) (aS A) c) → k ≠ 29 + 20 * t + (aG A * aS A + aG A) → k ≠ 29 + 20 * t + (aG A * aS A + aG A + 1) → m' k = m k) : RepM (aWrt A t c v) m' := by
  obtain ⟨hA, ⟨a0, a1, a2, a3⟩, hK, hql, hL, hl, hvl, hQ⟩ := h
  have hn := hA.1.nc
  have h8 : aT A ≤ 8 := hA.1.2.2.2.2.2.2.1
  have en : nc (aG A) (aS A) = aG A * aS A + aG A + 2 := rfl
  have hh := hcv_ltg hc
  have eh : hcv (aG A) (aS A) c = c / aS A := if_pos hc
  have hd : aV A t c ^^^ v < 16 := xor_lt (hA.2.2.1 t c) hv
  have hb0 : ∀ c', ¬ bit (aM A t) c' := fun c' => by rw [h0]; exact nbit0 c'
  refine ⟨aWrt_ok hA hv, ⟨(c0 0 (by omega)).trans a0, (c0 1 (by omega)).trans a1, (c0 2 (by omega)).trans a2, (c0 3 (by omega)).trans a3⟩, fun k hk => (c0 _ (by omega)).trans (hK k hk), (c0 8 (by omega)).trans hql, fun j hj => (c0 _ (by omega)).trans (hL j hj), fun t' ht' c' hc' hb' => ?_, fun t' ht' c' hc' hb' => ?_, fun k y hy => (c0 _ (by omega)).trans (hQ k y hy)⟩
  · have ht2 : t' < aT A := ht'
    have hc2 : c' < nc (aG A) (aS A) := hc'
    have hb2 : bit (aM A t') c' := hb'
    have hne : t' ≠ t := fun e => hb0 c' (e ▸ hb2)
    rw [c5 _ (by omega) (by omega) (by omega) (by omega) (by omega) (by omega)]
    exact hl t' ht2 c' hc2 hb2
  · have ht2 : t' < aT A := ht'
    have hc2 : c' < nc (aG A) (aS A) := hc'
    have hb2 : ¬ bit (aM A t') c' := hb'
    have hv' := hvl t' ht2 c' hc2 hb2
    show _ = nI (if t' = t then (if c' = c then v else if c' < aG A * aS A then aV A t c' else aV A t c' ^^^ gm (colv (aG A) (aS A) c (c' - aG A * aS A)) (aV A t c ^^^ v)) else aV A t' c')
    by_cases e : t' = t
    · subst e
      rw [if_pos rfl]
      by_cases e2 : c' = c
      · rw [if_pos e2, e2]
        exact c1
      · rw [if_neg e2]
        by_cases e3 : c' < aG A * aS A
        · rw [if_pos e3, c5 _ (by omega) (by omega) (by omega) (by omega) (by omega) (by omega)]
          exact hv'
        · rw [if_neg e3]
          by_cases e4 : c' = aG A * aS A + hcv (aG A) (aS A) c
          · rw [e4, c2, show aG A * aS A + hcv (aG A) (aS A) c - aG A * aS A = hcv (aG A) (aS A) c by omega, colv_dk hc hh, if_pos eh, gm_1l hd]
          · by_cases e5 : c' = aG A * aS A + aG A
            · rw [e5, c3, show aG A * aS A + aG A - aG A * aS A = aG A by omega, colv_dg hc, gm_comm hd (pw_lt _)]
            · by_cases e6 : c' = aG A * aS A + aG A + 1
              · rw [e6, c4, show aG A * aS A + aG A + 1 - aG A * aS A = aG A + 1 by omega, colv_dg1 hc, gm_comm hd (pw_lt _)]
              · rw [c5 _ (by omega) (by omega) (by omega) (by omega) (by omega) (by omega), hv', colv_dk hc (by omega), if_neg (by omega), gm_0l hd, Nat.xor_zero]
    · rw [if_neg e, c5 _ (by omega) (by omega) (by omega) (by omega) (by omega) (by omega)]
      exact hv'
theorem pcn_pos {M x : Nat} (hb : bit M x) : ∀ n, x < n → 1 ≤ pcn M n
  | 0, h => absurd h (Nat.not_lt_zero x)
  | n + 1, h => by
    show 1 ≤ pcn M n + M / 2 ^ n % 2
    by_cases e : x = n
    · subst e
      have hb2 : M / 2 ^ x % 2 = 1 := hb
      omega
    · have := pcn_pos hb n (by omega)
      omega
/-- a mend reads at least one cell -/
theorem WyX.pos {A : Ab} {t c w src X : Nat} (hA : AOK A) (hc : c < nc (aG A) (aS A)) (h : WyX A t c w src X) : 1 ≤ pcn src 20 := by
  have hn := hA.1.nc
  have hg1 : 1 ≤ aG A := hA.1.1
  have hg4 : aG A ≤ 4 := hA.1.2.1
  have hs2 : 2 ≤ aS A := hA.1.2.2.1
  have en : nc (aG A) (aS A) = aG A * aS A + aG A + 2 := rfl
  have hgs2 : 2 ≤ aG A * aS A := Nat.le_trans hs2 (by have := Nat.mul_le_mul_right (aS A) hg1; rwa [Nat.one_mul] at this)
  have key : ∀ x, x < 20 → bit src x → 1 ≤ pcn src 20 := fun x hx hb => pcn_pos hb 20 hx
  rcases h with ⟨-, -, e, -⟩ | ⟨-, ⟨⟨l, hl⟩, -⟩, -, e, -⟩
  · rw [e] at key ⊢
    by_cases hh : hcv (aG A) (aS A) c < aG A
    · have hgk := mul_le_grp (s := aS A) hh
      by_cases q : c = aG A * aS A + hcv (aG A) (aS A) c
      · refine key (hcv (aG A) (aS A) c * aS A) (by omega) ((pmv_bit (by omega) hh (by omega)).mpr ⟨(grp_iff (by omega) hh).mp (gtb.mpr (Or.inl ⟨Nat.le_refl _, by omega⟩)), by omega⟩)
      · exact key (aG A * aS A + hcv (aG A) (aS A) c) (by omega) ((pmv_bit (by omega) hh (by omega)).mpr ⟨(grp_iff (by omega) hh).mp (gtb.mpr (Or.inr rfl)), fun w => q w.symm⟩)
    · rw [pmv_d hh] at key ⊢
      exact key 0 (by omega) (bit_m1.mpr (by omega))
  · rw [e] at key ⊢
    apply Classical.byContradiction
    intro hno
    have hall : ∀ x, x < nc (aG A) (aS A) → bit (aM A t) x := fun x hx => Classical.byContradiction fun q => hno (key x (by omega) ((src_bit (by omega)).mpr ⟨hx, q⟩))
    have hz : ∀ k, k < aG A + 2 → aG A * aS A + k ≠ c → l k = 0 := fun k hk hne => by
      have e := hl.2.2 (aG A * aS A + k) (by omega) (hall _ (by omega)) hne
      rwa [ev_par hl.1 hg4 (by omega) (by omega), show aG A * aS A + k - aG A * aS A = k by omega] at e
    have h1 := hl.2.1
    by_cases q : c < aG A * aS A
    · have hh := hcv_ltg q
      have eh : hcv (aG A) (aS A) c = c / aS A := if_pos q
      rw [ev_dat hl.1 hg4 q, hz (c / aS A) (by omega) (by omega), hz (aG A) (by omega) (by omega), hz (aG A + 1) (by omega) (by omega), gm_0l (pw_lt _), gm_0l (pw_lt _)] at h1
      cases h1
    · rw [ev_par hl.1 hg4 hc q] at h1
      -- a data cell of the same check
      by_cases q2 : c - aG A * aS A < aG A
      · have hgk := mul_le_grp (s := aS A) q2
        have hd : (c - aG A * aS A) * aS A < aG A * aS A := by omega
        have e2 := hl.2.2 ((c - aG A * aS A) * aS A) (by omega) (hall _ (by omega)) (by omega)
        have e3 : (c - aG A * aS A) * aS A / aS A = c - aG A * aS A := Nat.mul_div_cancel _ (by omega)
        rw [ev_dat hl.1 hg4 hd, e3, h1, hz (aG A) (by omega) (by omega), hz (aG A + 1) (by omega) (by omega), gm_0l (pw_lt _), gm_0l (pw_lt _)] at e2
        cases e2
      · have e2 := hl.2.2 0 (by omega) (hall _ (by omega)) (by omega)
        rw [ev_dat hl.1 hg4 (by omega), Nat.zero_div, hz 0 (by omega) (by omega)] at e2
        rcases (show c - aG A * aS A = aG A ∨ c - aG A * aS A = aG A + 1 by omega) with q3 | q3
        · rw [q3] at h1
          rw [h1, hz (aG A + 1) (by omega) (by omega)] at e2
          revert e2
          decide
        · rw [q3] at h1
          rw [h1, hz (aG A) (by omega) (by omega)] at e2
          revert e2
          decide
section M6
variable {E : AEnv} {d : Nat} {h h' : List va_E} {b : Nat} {i : Nat → Int32} {ρ : Nat → Nat → Int32} {A : Ab} {G : Nat → Option va_E}
theorem m_productT {ρ' : Nat → Nat → Int32} {x y : Nat} (hM : MdAt G h b i ρ') (hTb : MTb ρ') (hx : x < 16) (hy : y < 16) : Calls E mX6_product d 0 0 [.ref b, .int (nI x), .int (nI y)] h (RX (nI (gm x y)) h) := by
  refine Calls.of (ls := [some (.ref b), some (.int (nI x)), some (.int (nI y))]) (by decide +kernel) rfl (Nat.le_of_ble_eq_true rfl) (cat_ok rfl) ?_
  refine go_aload_0 (DX6_product.at 0 rfl) ?_
  refine go_getfield (DX6_product.at 1 rfl) fX6_28 hM.1 rfl ?_
  refine go_bipush (v := nI 16) (DX6_product.at 2 rfl) (by decide) ?_
  refine go_iload_1 (DX6_product.at 3 rfl) ?_
  refine go_imul (DX6_product.at 4 rfl) ?_
  rw [pk_mul]
  refine go_iload_2 (DX6_product.at 5 rfl) ?_
  refine go_iadd (DX6_product.at 6 rfl) ?_
  rw [nI_add]
  refine go_ialdM (DX6_product.at 7 rfl) (hM.2.1 7 (by decide)) (show 16 * x + y < 256 by omega) (by decide) ?_
  rw [hTb.1 x y hx hy]
  exact go_iret (DX6_product.at 8 rfl) rfl rfl (RX.mk rfl rfl)
theorem m_writeCell {x y z : Int32} (hX : MX G h b i ρ A) (hd : 4 ≤ d) : Calls E mX6_writeCell d 0 0 [.ref b, .int x, .int y, .int z] h (RI (fun r h' => ∃ ρ', MdAt G h' b i ρ' ∧ MU ρ ρ' ∧ r = (wrF A x y z).1 ∧ RepM (wrF A x y z).2 (ρ' 1))) := by
  refine Calls.of (ls := [some (.ref b), some (.int x), some (.int y), some (.int z), none, none, none, none]) (by decide +kernel) rfl (Nat.le_of_ble_eq_true rfl) (cat_ok rfl) ?_
  have hM := hX.1
  have hTb := hX.2.1
  have hR := hX.2.2
  have hA := hR.1
  have hn := hA.1.nc
  have hT8 : aT A ≤ 8 := hA.1.2.2.2.2.2.2.1
  have hg4 : aG A ≤ 4 := hA.1.2.1
  have hs6 : aS A ≤ 6 := hA.1.2.2.2.1
  have hs2 : 2 ≤ aS A := hA.1.2.2.1
  have hg1 : 1 ≤ aG A := hA.1.1
  have hgs : aG A * aS A ≤ 15 := hA.1.2.2.2.2.1
  have hH5 : aH A ≤ 5 := hA.1.2.2.2.2.2.2.2
  have en : nc (aG A) (aS A) = aG A * aS A + aG A + 2 := rfl
  have hgs1 : 1 ≤ aG A * aS A := Nat.le_trans (by omega : 1 ≤ aS A) (by have := Nat.mul_le_mul_right (aS A) hg1; rwa [Nat.one_mul] at this)
  refine go_aload_0 (DX6_writeCell.at 0 rfl) ?_
  refine go_iload_1 (DX6_writeCell.at 1 rfl) ?_
  refine go_cVx1 (DX6_writeCell.at 2 rfl) nX6_55 vX6_isStripe (by omega) (m_isStripe hX (by omega)) hM.1 rfl (Nat.le_of_ble_eq_true rfl) ?_
  refine go_if_eq 22 (DX6_writeCell.at 3 rfl) (by decide) (fun c5 => ?_) (fun c5 => ?_)
  · rw [bP_eq0] at c5
    have e1 : wrF A x y z = (-1, A) := cI_f (fun q => c5 q.1)
    refine go_iconst (v := (-1)) (DX6_writeCell.at 12 rfl) (by decide) ?_
    exact go_iret (DX6_writeCell.at 13 rfl) rfl rfl (RI.mk ⟨ρ, hM, MU.rf, by rw [e1]; exact ⟨rfl, hR⟩⟩)
  · rw [bP_eq0, Classical.not_not] at c5
    obtain ⟨t, ht, rfl⟩ := inR_ex (by omega) c5
    have hM20 := hA.m20 ht
    refine go_iload_2 (DX6_writeCell.at 4 rfl) ?_
    refine go_iconst (v := nI 0) (DX6_writeCell.at 5 rfl) (by decide) ?_
    refine go_aload_0 (DX6_writeCell.at 6 rfl) ?_
    refine go_cVx0 (DX6_writeCell.at 7 rfl) nX6_47 vX6_dataCells (by omega) (m_dataCells hX) hM.1 rfl (Nat.le_of_ble_eq_true rfl) ?_
    refine go_iconst (v := nI 1) (DX6_writeCell.at 8 rfl) (by decide) ?_
    refine go_isub (DX6_writeCell.at 9 rfl) ?_
    rw [pk_sub (by omega)]
    refine go_cSx3 (DX6_writeCell.at 10 rfl) nX6_51 vX6_within (by omega) c_within (Nat.le_of_ble_eq_true rfl) ?_
    rw [bP_wi hgs1 (by omega)]
    refine go_if_ne 24 (DX6_writeCell.at 11 rfl) (by decide) (fun c19 => ?_) (fun c19 => ?_)
    · rw [bP_eq0, Classical.not_not] at c19
      obtain ⟨c, hc, rfl⟩ := inR_ex (by omega) c19
      have hh := hcv_ltg hc
      refine go_iload_3 (DX6_writeCell.at 14 rfl) ?_
      refine go_iconst (v := nI 0) (DX6_writeCell.at 15 rfl) (by decide) ?_
      refine go_bipush (v := nI 15) (DX6_writeCell.at 16 rfl) (by decide) ?_
      refine go_cSx3 (DX6_writeCell.at 17 rfl) nX6_51 vX6_within (by omega) c_within (Nat.le_of_ble_eq_true rfl) ?_
      refine go_if_ne 37 (DX6_writeCell.at 18 rfl) (by decide) (fun c31 => ?_) (fun c31 => ?_)
      · rw [bI_eq0, Classical.not_not, wi_in (by decide)] at c31
        obtain ⟨v, hv, rfl⟩ := inR_ex (by decide) c31
        refine go_aload_0 (DX6_writeCell.at 21 rfl) ?_
        refine go_iload_1 (DX6_writeCell.at 22 rfl) ?_
        refine go_cVx1 (DX6_writeCell.at 23 rfl) nX6_114 vX6_lostCells (by omega) (m_lostCells ht hX (by omega)) hM.1 rfl (Nat.le_of_ble_eq_true rfl) ?_
        refine go_if_eq 48 (DX6_writeCell.at 24 rfl) (by decide) (fun c42 => ?_) (fun c42 => ?_)
        · rw [nI_eq0 (by omega)] at c42
          have hV : ∀ c', c' < nc (aG A) (aS A) → ρ 1 (29 + 20 * t + c') = nI (aV A t c') := fun c' hc' => hR.2.2.2.2.2.2.1 t ht c' hc' (by rw [c42]; exact nbit0 c')
          refine go_aload_0 (DX6_writeCell.at 27 rfl) ?_
          refine go_iload_1 (DX6_writeCell.at 28 rfl) ?_
          refine go_iload_2 (DX6_writeCell.at 29 rfl) ?_
          refine go_cVx2 (DX6_writeCell.at 30 rfl) nX6_62 vX6_cellValue (by omega) (m_cellValue hM (show t < 8 by omega) (show c < 20 by omega)) hM.1 rfl (Nat.le_of_ble_eq_true rfl) ?_
          rw [hV c (by omega)]
          refine go_istore_4 (DX6_writeCell.at 31 rfl) ?_
          refine go_iload_4 (DX6_writeCell.at 32 rfl) ?_
          refine go_iload_3 (DX6_writeCell.at 33 rfl) ?_
          refine go_icmp_ne 65 (DX6_writeCell.at 34 rfl) (by decide) (fun c59 => ?_) (fun c59 => ?_)
          · rw [nI_eq (by have := hA.2.2.1 t c; omega) (by omega)] at c59
            have hd16 : aV A t c ^^^ v < 16 := xor_lt (hA.2.2.1 t c) hv
            refine go_iload_4 (DX6_writeCell.at 37 rfl) ?_
            refine go_iload_3 (DX6_writeCell.at 38 rfl) ?_
            refine go_ixor (DX6_writeCell.at 39 rfl) ?_
            rw [nx_xor]
            refine go_istore_5 (DX6_writeCell.at 40 rfl) ?_
            refine go_aload_0 (DX6_writeCell.at 41 rfl) ?_
            refine go_cVx0 (DX6_writeCell.at 42 rfl) nX6_47 vX6_dataCells (by omega) (m_dataCells hX) hM.1 rfl (Nat.le_of_ble_eq_true rfl) ?_
            refine go_aload_0 (DX6_writeCell.at 43 rfl) ?_
            refine go_iload_2 (DX6_writeCell.at 44 rfl) ?_
            refine go_cVx1 (DX6_writeCell.at 45 rfl) nX6_91 vX6_groupOf (by omega) (m_groupOf (show c < nc (aG A) (aS A) by omega) hX (by omega)) hM.1 rfl (Nat.le_of_ble_eq_true rfl) ?_
            rw [show grI (aG A) (aS A) c = nI (hcv (aG A) (aS A) c) from if_pos hh]
            refine go_iadd (DX6_writeCell.at 46 rfl) ?_
            rw [nI_add]
            refine go_istore_6 (DX6_writeCell.at 47 rfl) ?_
            refine go_aload_0 (DX6_writeCell.at 48 rfl) ?_
            refine go_cVx0 (DX6_writeCell.at 49 rfl) nX6_47 vX6_dataCells (by omega) (m_dataCells hX) hM.1 rfl (Nat.le_of_ble_eq_true rfl) ?_
            refine go_aload_0 (DX6_writeCell.at 50 rfl) ?_
            refine go_getfield (DX6_writeCell.at 51 rfl) fX6_7 hM.1 rfl ?_
            refine go_iconst (v := nI 0) (DX6_writeCell.at 52 rfl) (by decide) ?_
            refine go_ialdM (DX6_writeCell.at 53 rfl) (hM.2.1 1 (by decide)) (show 0 < 349 by decide) (by decide) ?_
            rw [show ρ 1 0 = nI (aG A) from hR.2.1.1]
            refine go_iadd (DX6_writeCell.at 54 rfl) ?_
            rw [nI_add]
            refine go_istore_7 (DX6_writeCell.at 55 rfl) ?_
            refine go_aload_0 (DX6_writeCell.at 56 rfl) ?_
            refine go_iload_1 (DX6_writeCell.at 57 rfl) ?_
            refine go_iload_2 (DX6_writeCell.at 58 rfl) ?_
            refine go_iload_3 (DX6_writeCell.at 59 rfl) ?_
            refine go_cVv3 (DX6_writeCell.at 60 rfl) nX6_138 vX6_setValue (by omega) (m_setValue hM (show t < 8 by omega) (show c < 20 by omega)) hM.1 rfl (Nat.le_of_ble_eq_true rfl) (fun h100 q100 => ?_)
            refine go_aload_0 (DX6_writeCell.at 61 rfl) ?_
            refine go_iload_1 (DX6_writeCell.at 62 rfl) ?_
            refine go_iload_6 (DX6_writeCell.at 63 rfl) ?_
            refine go_aload_0 (DX6_writeCell.at 64 rfl) ?_
            refine go_iload_1 (DX6_writeCell.at 65 rfl) ?_
            refine go_iload_6 (DX6_writeCell.at 66 rfl) ?_
            refine go_cVx2 (DX6_writeCell.at 67 rfl) nX6_62 vX6_cellValue (by omega) (m_cellValue q100 (show t < 8 by omega) (show (aG A * aS A + hcv (aG A) (aS A) c) < 20 by omega)) q100.1 rfl (Nat.le_of_ble_eq_true rfl) ?_
            rw [rset_s, pk_un (by omega), hV _ (by omega)]
            refine go_iload_5 (DX6_writeCell.at 68 rfl) ?_
            refine go_ixor (DX6_writeCell.at 69 rfl) ?_
            rw [nx_xor]
            refine go_cVv3 (DX6_writeCell.at 70 rfl) nX6_138 vX6_setValue (by omega) (m_setValue q100 (show t < 8 by omega) (show (aG A * aS A + hcv (aG A) (aS A) c) < 20 by omega)) q100.1 rfl (Nat.le_of_ble_eq_true rfl) (fun h117 q117 => ?_)
            rw [rset_rset, rset_s] at q117
            refine go_aload_0 (DX6_writeCell.at 71 rfl) ?_
            refine go_iload_1 (DX6_writeCell.at 72 rfl) ?_
            refine go_iload_7 (DX6_writeCell.at 73 rfl) ?_
            refine go_aload_0 (DX6_writeCell.at 74 rfl) ?_
            refine go_iload_1 (DX6_writeCell.at 75 rfl) ?_
            refine go_iload_7 (DX6_writeCell.at 76 rfl) ?_
            refine go_cVx2 (DX6_writeCell.at 77 rfl) nX6_62 vX6_cellValue (by omega) (m_cellValue q117 (show t < 8 by omega) (show (aG A * aS A + aG A) < 20 by omega)) q117.1 rfl (Nat.le_of_ble_eq_true rfl) ?_
            rw [rset_s, pk_un (by omega), pk_un (by omega), hV _ (by omega)]
            refine go_aload_0 (DX6_writeCell.at 78 rfl) ?_
            refine go_iload_5 (DX6_writeCell.at 79 rfl) ?_
            refine go_aload_0 (DX6_writeCell.at 80 rfl) ?_
            refine go_getfield (DX6_writeCell.at 81 rfl) fX6_31 q117.1 rfl ?_
            refine go_iload_2 (DX6_writeCell.at 82 rfl) ?_
            refine go_ialdM (DX6_writeCell.at 83 rfl) (q117.2.1 8 (by decide)) (show c < 15 by omega) (by decide) ?_
            rw [rset_n (by decide), hTb.2.1 c (by omega)]
            refine go_cVx2 (DX6_writeCell.at 84 rfl) nX6_44 vX6_product (by omega) (m_productT q117 hTb hd16 (pw_lt _)) q117.1 rfl (Nat.le_of_ble_eq_true rfl) ?_
            refine go_ixor (DX6_writeCell.at 85 rfl) ?_
            rw [nx_xor]
            refine go_cVv3 (DX6_writeCell.at 86 rfl) nX6_138 vX6_setValue (by omega) (m_setValue q117 (show t < 8 by omega) (show (aG A * aS A + aG A) < 20 by omega)) q117.1 rfl (Nat.le_of_ble_eq_true rfl) (fun h144 q144 => ?_)
            rw [rset_rset, rset_s] at q144
            refine go_aload_0 (DX6_writeCell.at 87 rfl) ?_
            refine go_iload_1 (DX6_writeCell.at 88 rfl) ?_
            refine go_iload_7 (DX6_writeCell.at 89 rfl) ?_
            refine go_iconst (v := nI 1) (DX6_writeCell.at 90 rfl) (by decide) ?_
            refine go_iadd (DX6_writeCell.at 91 rfl) ?_
            rw [nI_add]
            refine go_aload_0 (DX6_writeCell.at 92 rfl) ?_
            refine go_iload_1 (DX6_writeCell.at 93 rfl) ?_
            refine go_iload_7 (DX6_writeCell.at 94 rfl) ?_
            refine go_iconst (v := nI 1) (DX6_writeCell.at 95 rfl) (by decide) ?_
            refine go_iadd (DX6_writeCell.at 96 rfl) ?_
            rw [nI_add]
            refine go_cVx2 (DX6_writeCell.at 97 rfl) nX6_62 vX6_cellValue (by omega) (m_cellValue q144 (show t < 8 by omega) (show (aG A * aS A + aG A + 1) < 20 by omega)) q144.1 rfl (Nat.le_of_ble_eq_true rfl) ?_
            rw [rset_s, pk_un (by omega), pk_un (by omega), pk_un (by omega), hV _ (by omega)]
            refine go_aload_0 (DX6_writeCell.at 98 rfl) ?_
            refine go_iload_5 (DX6_writeCell.at 99 rfl) ?_
            refine go_aload_0 (DX6_writeCell.at 100 rfl) ?_
            refine go_getfield (DX6_writeCell.at 101 rfl) fX6_34 q144.1 rfl ?_
            refine go_iload_2 (DX6_writeCell.at 102 rfl) ?_
            refine go_ialdM (DX6_writeCell.at 103 rfl) (q144.2.1 9 (by decide)) (show c < 15 by omega) (by decide) ?_
            rw [rset_n (by decide), hTb.2.2 c (by omega)]
            refine go_cVx2 (DX6_writeCell.at 104 rfl) nX6_44 vX6_product (by omega) (m_productT q144 hTb hd16 (pw_lt _)) q144.1 rfl (Nat.le_of_ble_eq_true rfl) ?_
            refine go_ixor (DX6_writeCell.at 105 rfl) ?_
            rw [nx_xor]
            refine go_cVv3 (DX6_writeCell.at 106 rfl) nX6_138 vX6_setValue (by omega) (m_setValue q144 (show t < 8 by omega) (show (aG A * aS A + aG A + 1) < 20 by omega)) q144.1 rfl (Nat.le_of_ble_eq_true rfl) (fun h175 q175 => ?_)
            rw [rset_rset, rset_s] at q175
            refine go_iload_4 (DX6_writeCell.at 107 rfl) ?_
            exact go_iret (DX6_writeCell.at 108 rfl) rfl rfl (RI.mk ⟨_, q175, MU.r1, by
              rw [wrF_in hA ht hc, cI_t c31, cI_t c42, nI_cl (by omega), cI_f c59]
              refine ⟨rfl, ?_⟩
              rw [rset_s]
              refine RepM.wrt hR ht hc hv c42 (fun k hk => ?_) ?_ ?_ ?_ ?_ (fun k h1 h2 h3 h4 h5 h6 => ?_)
              · rw [pk_un (by omega), pk_un (by omega), pk_un (by omega), pk_un (by omega)]
              · rw [pk_un (by omega), pk_un (by omega), pk_un (by omega), pk_us]
              · rw [pk_un (by omega), pk_un (by omega), pk_us]
              · rw [pk_un (by omega), pk_us]
              · rw [pk_us]
              · rw [pk_un h6, pk_un h5, pk_un h4, pk_un h3]⟩)
          · rw [nI_eq (by have := hA.2.2.1 t c; omega) (by omega)] at c59
            have e5 : wrF A (nI t) (nI c) (nI v) = (-5, A) := by rw [wrF_in hA ht hc, cI_t c31, cI_t c42, nI_cl (by omega), cI_t c59]
            refine go_bipush (v := (-5)) (DX6_writeCell.at 35 rfl) (by decide) ?_
            exact go_iret (DX6_writeCell.at 36 rfl) rfl rfl (RI.mk ⟨ρ, hM, MU.rf, by rw [e5]; exact ⟨rfl, hR⟩⟩)
        · rw [nI_eq0 (by omega)] at c42
          have e4 : wrF A (nI t) (nI c) (nI v) = (-4, A) := by rw [wrF_in hA ht hc, cI_t c31, cI_f c42]
          refine go_bipush (v := (-4)) (DX6_writeCell.at 25 rfl) (by decide) ?_
          exact go_iret (DX6_writeCell.at 26 rfl) rfl rfl (RI.mk ⟨ρ, hM, MU.rf, by rw [e4]; exact ⟨rfl, hR⟩⟩)
      · rw [bI_eq0, wi_in (by decide)] at c31
        have e2 : wrF A (nI t) (nI c) z = (-2, A) := by rw [wrF_in hA ht hc, cI_f c31]
        refine go_bipush (v := (-2)) (DX6_writeCell.at 19 rfl) (by decide) ?_
        exact go_iret (DX6_writeCell.at 20 rfl) rfl rfl (RI.mk ⟨ρ, hM, MU.rf, by rw [e2]; exact ⟨rfl, hR⟩⟩)
    · rw [bP_eq0] at c19
      have e1 : wrF A (nI t) y z = (-1, A) := cI_f (fun q => c19 q.2)
      refine go_iconst (v := (-1)) (DX6_writeCell.at 12 rfl) (by decide) ?_
      exact go_iret (DX6_writeCell.at 13 rfl) rfl rfl (RI.mk ⟨ρ, hM, MU.rf, by rw [e1]; exact ⟨rfl, hR⟩⟩)

theorem m_loseCell {x y : Int32} (hX : MX G h b i ρ A) (hd : 3 ≤ d) : Calls E mX6_loseCell d 0 0 [.ref b, .int x, .int y] h (RI (fun r h' => ∃ ρ', MdAt G h' b i ρ' ∧ MU ρ ρ' ∧ r = (loF A x y).1 ∧ RepM (loF A x y).2 (ρ' 1))) := by
  refine Calls.of (ls := [some (.ref b), some (.int x), some (.int y)]) (by decide +kernel) rfl (Nat.le_of_ble_eq_true rfl) (cat_ok rfl) ?_
  have hM := hX.1
  have hTb := hX.2.1
  have hR := hX.2.2
  have hA := hR.1
  have hn := hA.1.nc
  have hT8 : aT A ≤ 8 := hA.1.2.2.2.2.2.2.1
  have hg4 : aG A ≤ 4 := hA.1.2.1
  have hs6 : aS A ≤ 6 := hA.1.2.2.2.1
  have hs2 : 2 ≤ aS A := hA.1.2.2.1
  have hg1 : 1 ≤ aG A := hA.1.1
  have hgs : aG A * aS A ≤ 15 := hA.1.2.2.2.2.1
  have hH5 : aH A ≤ 5 := hA.1.2.2.2.2.2.2.2
  have en : nc (aG A) (aS A) = aG A * aS A + aG A + 2 := rfl
  refine go_aload_0 (DX6_loseCell.at 0 rfl) ?_
  refine go_iload_1 (DX6_loseCell.at 1 rfl) ?_
  refine go_iload_2 (DX6_loseCell.at 2 rfl) ?_
  refine go_cVx2 (DX6_loseCell.at 3 rfl) nX6_126 vX6_isCell (by omega) (m_isCell hX (by omega)) hM.1 rfl (Nat.le_of_ble_eq_true rfl) ?_
  refine go_if_ne 11 (DX6_loseCell.at 4 rfl) (by decide) (fun c6 => ?_) (fun c6 => ?_)
  · rw [bP_eq0, Classical.not_not] at c6
    obtain ⟨⟨t, ht, rfl⟩, ⟨c, hc, rfl⟩⟩ := And.intro (inR_ex (by omega) c6.1) (inR_ex (by omega) c6.2)
    refine go_aload_0 (DX6_loseCell.at 7 rfl) ?_
    refine go_iload_1 (DX6_loseCell.at 8 rfl) ?_
    refine go_iload_2 (DX6_loseCell.at 9 rfl) ?_
    refine go_cVx2 (DX6_loseCell.at 10 rfl) nX6_65 vX6_isLost (by omega) (m_isLost ht hc hX (by omega)) hM.1 rfl (Nat.le_of_ble_eq_true rfl) ?_
    refine go_if_eq 23 (DX6_loseCell.at 11 rfl) (by decide) (fun c17 => ?_) (fun c17 => ?_)
    · rw [bP_eq0] at c17
      have hroom := hA.qroom ht hc c17
      refine go_aload_0 (DX6_loseCell.at 14 rfl) ?_
      refine go_iload_1 (DX6_loseCell.at 15 rfl) ?_
      refine go_iload_2 (DX6_loseCell.at 16 rfl) ?_
      refine go_iconst (v := (-1)) (DX6_loseCell.at 17 rfl) (by decide) ?_
      refine go_cVv3 (DX6_loseCell.at 18 rfl) nX6_138 vX6_setValue (by omega) (m_setValue hM (show t < 8 by omega) (show c < 20 by omega)) hM.1 rfl (Nat.le_of_ble_eq_true rfl) (fun h27 q27 => ?_)
      refine go_aload_0 (DX6_loseCell.at 19 rfl) ?_
      refine go_iload_1 (DX6_loseCell.at 20 rfl) ?_
      refine go_iload_2 (DX6_loseCell.at 21 rfl) ?_
      refine go_cVv2 (DX6_loseCell.at 22 rfl) nX6_158 vX6_joinQueue (by omega) (m_joinQueue (L := (aQ A).length) q27 (by rw [rset_s, pk_un (by omega)]; exact hR.2.2.2.1) hroom) q27.1 rfl (Nat.le_of_ble_eq_true rfl) (fun h33 q33 => ?_)
      rw [rset_rset, rset_s] at q33
      refine go_aload_0 (DX6_loseCell.at 23 rfl) ?_
      refine go_getfield (DX6_loseCell.at 24 rfl) fX6_7 q33.1 rfl ?_
      refine go_bipush (v := nI 7) (DX6_loseCell.at 25 rfl) (by decide) ?_
      refine go_dup2 (DX6_loseCell.at 26 rfl) rfl rfl ?_
      refine go_ialdM (DX6_loseCell.at 27 rfl) (q33.2.1 1 (by decide)) (show 7 < 349 by decide) (by decide) ?_
      rw [rset_s, pk_un (by decide), pk_un (by omega), pk_un (by omega)]
      refine go_iconst (v := nI 1) (DX6_loseCell.at 28 rfl) (by decide) ?_
      refine go_iadd (DX6_loseCell.at 29 rfl) ?_
      refine go_iastM (DX6_loseCell.at 30 rfl) q33 (a := 1) (by decide) (show 7 < 349 by decide) (fun h46 q46 => ?_)
      rw [rset_rset, rset_s] at q46
      refine go_aload_0 (DX6_loseCell.at 31 rfl) ?_
      refine go_getfield (DX6_loseCell.at 32 rfl) fX6_7 q46.1 rfl ?_
      refine go_bipush (v := nI 8) (DX6_loseCell.at 33 rfl) (by decide) ?_
      refine go_ialdM (DX6_loseCell.at 34 rfl) (q46.2.1 1 (by decide)) (show 8 < 349 by decide) (by decide) ?_
      rw [rset_s, pk_un (by decide), pk_us]
      exact go_iret (DX6_loseCell.at 35 rfl) rfl rfl (RI.mk ⟨_, q46, MU.r1, by
        rw [loF_in hA ht hc, cI_f c17]
        refine ⟨rfl, ?_⟩
        rw [rset_s]
        refine RepM.los hR ht hc c17 (fun k h1 h2 h3 => ?_) ?_ ?_ (fun k h1 h2 => ?_) (fun k hk => ?_) ?_
        · rw [pk_un h2, pk_un h3, pk_un (by omega), pk_un (by omega)]
        · rw [pk_us]
          rfl
        · rw [pk_un (by decide), pk_us]
        · rw [pk_un (by omega), pk_un (by omega), pk_un (by omega)]
          by_cases e : k = 29 + 20 * t + c
          · rw [if_pos e, e, pk_us]
          · rw [if_neg e, pk_un e]
        · rw [pk_un (by omega), pk_un (by omega), pk_un (by omega), pk_un (by omega)]
        · rw [pk_un (by omega), pk_un (by omega), pk_us]⟩)
    · rw [bP_eq0, Classical.not_not] at c17
      have e5 : loF A (nI t) (nI c) = (-5, A) := by rw [loF_in hA ht hc, cI_t c17]
      refine go_bipush (v := (-5)) (DX6_loseCell.at 12 rfl) (by decide) ?_
      exact go_iret (DX6_loseCell.at 13 rfl) rfl rfl (RI.mk ⟨ρ, hM, MU.rf, by rw [e5]; exact ⟨rfl, hR⟩⟩)
  · rw [bP_eq0] at c6
    have e1 : loF A x y = (-1, A) := cI_f c6
    refine go_iconst (v := (-1)) (DX6_loseCell.at 5 rfl) (by decide) ?_
    exact go_iret (DX6_loseCell.at 6 rfl) rfl rfl (RI.mk ⟨ρ, hM, MU.rf, by rw [e1]; exact ⟨rfl, hR⟩⟩)

theorem m_loseAll {x : Int32} (hX : MX G h b i ρ A) (hd : 4 ≤ d) : Calls E mX6_loseAll d 0 0 [.ref b, .int x] h (RI (fun r h' => ∃ ρ', MdAt G h' b i ρ' ∧ MU ρ ρ' ∧ r = (lsF A x).1 ∧ RepM (lsF A x).2 (ρ' 1))) := by
  refine Calls.of (ls := [some (.ref b), some (.int x), none, none]) (by decide +kernel) rfl (Nat.le_of_ble_eq_true rfl) (cat_ok rfl) ?_
  have hM := hX.1
  have hTb := hX.2.1
  have hR := hX.2.2
  have hA := hR.1
  have hn := hA.1.nc
  have hT8 : aT A ≤ 8 := hA.1.2.2.2.2.2.2.1
  have hg4 : aG A ≤ 4 := hA.1.2.1
  have hs6 : aS A ≤ 6 := hA.1.2.2.2.1
  have hs2 : 2 ≤ aS A := hA.1.2.2.1
  have hg1 : 1 ≤ aG A := hA.1.1
  have hgs : aG A * aS A ≤ 15 := hA.1.2.2.2.2.1
  have hH5 : aH A ≤ 5 := hA.1.2.2.2.2.2.2.2
  have en : nc (aG A) (aS A) = aG A * aS A + aG A + 2 := rfl
  refine go_aload_0 (DX6_loseAll.at 0 rfl) ?_
  refine go_iload_1 (DX6_loseAll.at 1 rfl) ?_
  refine go_cVx1 (DX6_loseAll.at 2 rfl) nX6_146 vX6_isNode (by omega) (m_isNode hX (by omega)) hM.1 rfl (Nat.le_of_ble_eq_true rfl) ?_
  refine go_if_ne 10 (DX6_loseAll.at 3 rfl) (by decide) (fun c5 => ?_) (fun c5 => ?_)
  · rw [bP_eq0, Classical.not_not] at c5
    obtain ⟨nd, hnd, rfl⟩ := inR_ex (by omega) c5
    have e : lsF A (nI nd) = (cnI (lnG nd (aT A) 0 A).1, (lnG nd (aT A) 0 A).2) := by
      unfold lsF
      rw [cI_t c5, nI_cl (by omega)]
    rw [e]
    generalize hR0 : lnG nd (aT A) 0 A = R
    refine go_iconst (v := nI 0) (DX6_loseAll.at 6 rfl) (by decide) ?_
    refine go_istore_2 (DX6_loseAll.at 7 rfl) ?_
    refine go_iconst (v := nI 0) (DX6_loseAll.at 8 rfl) (by decide) ?_
    refine go_istore_3 (DX6_loseAll.at 9 rfl) ?_
    have loop : ∀ (m t k : Nat) (A : Ab) (h : List va_E) (ρ1 : Nat → Nat → Int32), t + m = aT A → nd < nc (aG A) (aS A) → k ≤ t → MX G h b i ρ1 A → MU ρ ρ1 → (k + (lnG nd m t A).1, (lnG nd m t A).2) = R → Go E mX6_loseAll d 0 0 14 [some (.ref b), some (.int (nI nd)), some (.int (nI k)), some (.int (nI t))] [] h (RI (fun r h' => ∃ ρ', MdAt G h' b i ρ' ∧ MU ρ ρ' ∧ r = cnI R.1 ∧ RepM R.2 (ρ' 1))) := by
      intro m
      induction m with
      | zero =>
        intro t k A h ρ1 htm hnd hk hX1 hu hRR
        have hM1 := hX1.1
        have hR1 := hX1.2.2
        have hA := hR1.1
        have hn := hA.1.nc
        have hT8 : aT A ≤ 8 := hA.1.2.2.2.2.2.2.1
        obtain rfl : t = aT A := by omega
        subst hRR
        show Go E mX6_loseAll d 0 0 14 _ [] h (RI (fun r h' => ∃ ρ', MdAt G h' b i ρ' ∧ MU ρ ρ' ∧ r = cnI k ∧ RepM A (ρ' 1)))
        refine go_iload_3 (DX6_loseAll.at 10 rfl) ?_
        refine go_aload_0 (DX6_loseAll.at 11 rfl) ?_
        refine go_getfield (DX6_loseAll.at 12 rfl) fX6_7 hM1.1 rfl ?_
        refine go_iconst (v := nI 2) (DX6_loseAll.at 13 rfl) (by decide) ?_
        refine go_ialdM (DX6_loseAll.at 14 rfl) (hM1.2.1 1 (by decide)) (show 2 < 349 by decide) (by decide) ?_
        rw [show ρ1 1 2 = nI (aT A) from hR1.2.1.2.2.1]
        refine go_icmp_ge 54 (DX6_loseAll.at 15 rfl) (by decide) (fun c21 => ?_) (fun c21 => absurd (Int32.le_refl _) c21)
        refine go_iload_2 (DX6_loseAll.at 33 rfl) ?_
        refine go_if_ne 63 (DX6_loseAll.at 34 rfl) (by decide) (fun c55 => ?_) (fun c55 => ?_)
        · have ek : cnI k = nI k := if_neg (fun e => c55 (by rw [e]; rfl))
          refine go_iload_2 (DX6_loseAll.at 37 rfl) ?_
          exact go_iret (DX6_loseAll.at 38 rfl) rfl rfl (RI.mk ⟨ρ1, hM1, hu, ek.symm, hR1⟩)
        · have ek : cnI k = -5 := if_pos ((nI_eq0 (by omega)).mp c55)
          refine go_bipush (v := (-5)) (DX6_loseAll.at 35 rfl) (by decide) ?_
          refine go_goto 64 (DX6_loseAll.at 36 rfl) (by decide) ?_
          exact go_iret (DX6_loseAll.at 38 rfl) rfl rfl (RI.mk ⟨ρ1, hM1, hu, ek.symm, hR1⟩)
      | succ m ih =>
        intro t k A h ρ1 htm hnd hk hX1 hu hRR
        have hM1 := hX1.1
        have hR1 := hX1.2.2
        have hA := hR1.1
        have hn := hA.1.nc
        have hT8 : aT A ≤ 8 := hA.1.2.2.2.2.2.2.1
        refine go_iload_3 (DX6_loseAll.at 10 rfl) ?_
        refine go_aload_0 (DX6_loseAll.at 11 rfl) ?_
        refine go_getfield (DX6_loseAll.at 12 rfl) fX6_7 hM1.1 rfl ?_
        refine go_iconst (v := nI 2) (DX6_loseAll.at 13 rfl) (by decide) ?_
        refine go_ialdM (DX6_loseAll.at 14 rfl) (hM1.2.1 1 (by decide)) (show 2 < 349 by decide) (by decide) ?_
        rw [show ρ1 1 2 = nI (aT A) from hR1.2.1.2.2.1]
        refine go_icmp_ge 54 (DX6_loseAll.at 15 rfl) (by decide) (fun c21 => absurd ((nI_leI (by omega) (by omega)).mp c21) (by omega)) (fun c21 => ?_)
        refine go_iload_2 (DX6_loseAll.at 16 rfl) ?_
        refine go_aload_0 (DX6_loseAll.at 17 rfl) ?_
        refine go_iload_3 (DX6_loseAll.at 18 rfl) ?_
        refine go_aload_0 (DX6_loseAll.at 19 rfl) ?_
        refine go_iload_1 (DX6_loseAll.at 20 rfl) ?_
        refine go_iload_3 (DX6_loseAll.at 21 rfl) ?_
        refine go_cVx2 (DX6_loseAll.at 22 rfl) nX6_149 vX6_cellOn (by omega) (m_cellOn (show t < 8 by omega) (show nd < 20 by omega) hX1 (by omega)) hM1.1 rfl (Nat.le_of_ble_eq_true rfl) ?_
        refine go_cVi2 (DX6_loseAll.at 23 rfl) nX6_161 vX6_loseCell (by omega) (m_loseCell hX1 (by omega)) hM1.1 rfl (Nat.le_of_ble_eq_true rfl) (fun x33 h33 q33 => ?_)
        obtain ⟨ρ2, q33, u33, e33, r33⟩ := q33
        rw [loF_in hA (by omega) (con_lt (by omega))] at e33 r33
        by_cases hb : bit (aM A t) (con (nc (aG A) (aS A)) nd (t * aH A))
        · rw [cI_t hb] at e33 r33
          dsimp only at e33 r33
          subst e33
          refine go_bipush (v := (-5)) (DX6_loseAll.at 24 rfl) (by decide) ?_
          refine go_icmp_ne 45 (DX6_loseAll.at 25 rfl) (by decide) (fun c38 => absurd rfl c38) (fun c38 => ?_)
          refine go_iconst (v := nI 0) (DX6_loseAll.at 26 rfl) (by decide) ?_
          refine go_goto 46 (DX6_loseAll.at 27 rfl) (by decide) ?_
          refine go_iadd (DX6_loseAll.at 29 rfl) ?_
          rw [show nI k + nI 0 = nI k from by rw [nI_add]; rfl]
          refine go_istore_2 (DX6_loseAll.at 30 rfl) ?_
          refine go_iincN_3 (DX6_loseAll.at 31 rfl) ?_
          refine go_goto 14 (DX6_loseAll.at 32 rfl) (by decide) ?_
          exact ih (t + 1) k A _ _ (by omega) hnd (by omega) (mX hX1 q33 u33 r33) (hu.trans u33) (by rw [← hRR, lnG_t hb])
        · rw [cI_f hb] at e33 r33
          dsimp only at e33 r33
          subst e33
          have hroom := hA.qroom (show t < aT A by omega) (con_lt (by omega)) hb
          refine go_bipush (v := (-5)) (DX6_loseAll.at 24 rfl) (by decide) ?_
          refine go_icmp_ne 45 (DX6_loseAll.at 25 rfl) (by decide) (fun c38 => ?_) (fun c38 => absurd c38 (nI_m5 (by omega)))
          refine go_iconst (v := nI 1) (DX6_loseAll.at 28 rfl) (by decide) ?_
          refine go_iadd (DX6_loseAll.at 29 rfl) ?_
          rw [nI_add]
          refine go_istore_2 (DX6_loseAll.at 30 rfl) ?_
          refine go_iincN_3 (DX6_loseAll.at 31 rfl) ?_
          refine go_goto 14 (DX6_loseAll.at 32 rfl) (by decide) ?_
          exact ih (t + 1) (k + 1) (aLos A t (con (nc (aG A) (aS A)) nd (t * aH A))) _ _ (by show t + 1 + m = aT A; omega) hnd (by omega) (mX hX1 q33 u33 r33) (hu.trans u33) (by rw [← hRR, lnG_f hb, Nat.add_assoc, Nat.add_comm 1])
    exact loop (aT A) 0 0 A h ρ (Nat.zero_add _) hnd (Nat.le_refl 0) hX MU.rf (by rw [hR0, Nat.zero_add])
  · rw [bP_eq0] at c5
    have e : lsF A x = (-1, A) := cI_f c5
    refine go_iconst (v := (-1)) (DX6_loseAll.at 4 rfl) (by decide) ?_
    exact go_iret (DX6_loseAll.at 5 rfl) rfl rfl (RI.mk ⟨ρ, hM, MU.rf, by rw [e]; exact ⟨rfl, hR⟩⟩)

theorem m_mendAll {x : Int32} (hX : MX G h b i ρ A) (hd : 8 ≤ d) : Calls E mX6_mendAll d 0 0 [.ref b, .int x] h (RI (fun r h' => ∃ ρ', MdAt G h' b i ρ' ∧ MU ρ ρ' ∧ r = (mnF A x).1 ∧ (r ≠ -4 → RepM (mnF A x).2 (ρ' 1)))) := by
  refine Calls.of (ls := [some (.ref b), some (.int x), none, none, none, none]) (by decide +kernel) rfl (Nat.le_of_ble_eq_true rfl) (cat_ok rfl) ?_
  have hM := hX.1
  have hTb := hX.2.1
  have hR := hX.2.2
  have hA := hR.1
  have hn := hA.1.nc
  have hT8 : aT A ≤ 8 := hA.1.2.2.2.2.2.2.1
  have hg4 : aG A ≤ 4 := hA.1.2.1
  have hs6 : aS A ≤ 6 := hA.1.2.2.2.1
  have hs2 : 2 ≤ aS A := hA.1.2.2.1
  have hg1 : 1 ≤ aG A := hA.1.1
  have hgs : aG A * aS A ≤ 15 := hA.1.2.2.2.2.1
  have hH5 : aH A ≤ 5 := hA.1.2.2.2.2.2.2.2
  have en : nc (aG A) (aS A) = aG A * aS A + aG A + 2 := rfl
  refine go_aload_0 (DX6_mendAll.at 0 rfl) ?_
  refine go_iload_1 (DX6_mendAll.at 1 rfl) ?_
  refine go_cVx1 (DX6_mendAll.at 2 rfl) nX6_146 vX6_isNode (by omega) (m_isNode hX (by omega)) hM.1 rfl (Nat.le_of_ble_eq_true rfl) ?_
  refine go_if_ne 10 (DX6_mendAll.at 3 rfl) (by decide) (fun c5 => ?_) (fun c5 => ?_)
  · rw [bP_eq0, Classical.not_not] at c5
    obtain ⟨nd, hnd, rfl⟩ := inR_ex (by omega) c5
    refine go_iconst (v := nI 0) (DX6_mendAll.at 6 rfl) (by decide) ?_
    refine go_istore_2 (DX6_mendAll.at 7 rfl) ?_
    refine go_iconst (v := nI 0) (DX6_mendAll.at 8 rfl) (by decide) ?_
    refine go_istore_3 (DX6_mendAll.at 9 rfl) ?_
    refine go_iconst (v := nI 0) (DX6_mendAll.at 10 rfl) (by decide) ?_
    refine go_istore_4 (DX6_mendAll.at 11 rfl) ?_
    have e : mnF A (nI nd) = (match mnG nd (aT A) 0 A with
      | none => (-4, A)
      | some r => (cnI r.1, r.2)) := by
      unfold mnF
      rw [cI_t c5, nI_cl (by omega)]
      rfl
    rw [e]
    generalize hR0 : mnG nd (aT A) 0 A = R
    have loop : ∀ (m t k : Nat) (A : Ab) (h : List va_E) (ρ1 : Nat → Nat → Int32) (x5 : Option Value), t + m = aT A → nd < nc (aG A) (aS A) → k ≤ 20 * t → MX G h b i ρ1 A → MU ρ ρ1 → R = (match mnG nd m t A with | none => none | some r => some (k + r.1, r.2)) → Go E mX6_mendAll d 0 0 17 [some (.ref b), some (.int (nI nd)), some (.int (nI k)), some (.int (nI (if k = 0 then 0 else 1))), some (.int (nI t)), x5] [] h (RI (fun r h' => ∃ ρ', MdAt G h' b i ρ' ∧ MU ρ ρ' ∧ (R = none → r = (-4)) ∧ ∀ p, R = some p → r = cnI p.1 ∧ RepM p.2 (ρ' 1))) := by
      intro m
      induction m with
      | zero =>
        intro t k A h ρ1 x5 htm hnd hk hX1 hu hRR
        have hM1 := hX1.1
        have hR1 := hX1.2.2
        have hA := hR1.1
        have hn := hA.1.nc
        have hT8 : aT A ≤ 8 := hA.1.2.2.2.2.2.2.1
        obtain rfl : t = aT A := by omega
        replace hRR : R = some (k, A) := hRR
        refine go_iload_4 (DX6_mendAll.at 12 rfl) ?_
        refine go_aload_0 (DX6_mendAll.at 13 rfl) ?_
        refine go_getfield (DX6_mendAll.at 14 rfl) fX6_7 hM1.1 rfl ?_
        refine go_iconst (v := nI 2) (DX6_mendAll.at 15 rfl) (by decide) ?_
        refine go_ialdM (DX6_mendAll.at 16 rfl) (hM1.2.1 1 (by decide)) (show 2 < 349 by decide) (by decide) ?_
        rw [show ρ1 1 2 = nI (aT A) from hR1.2.1.2.2.1]
        refine go_icmp_ge 88 (DX6_mendAll.at 17 rfl) (by decide) (fun c25 => ?_) (fun c25 => absurd (Int32.le_refl _) c25)
        refine go_iload_3 (DX6_mendAll.at 49 rfl) ?_
        refine go_if_eq 96 (DX6_mendAll.at 50 rfl) (by decide) (fun c89 => ?_) (fun c89 => ?_)
        · have ek : cnI k = -5 := if_pos (Classical.byContradiction fun q => absurd c89 (by rw [if_neg q]; decide))
          refine go_bipush (v := (-5)) (DX6_mendAll.at 53 rfl) (by decide) ?_
          exact go_iret (DX6_mendAll.at 54 rfl) rfl rfl (RI.mk ⟨ρ1, hM1, hu, fun e => (by rw [hRR] at e; cases e), fun p e => (by rw [hRR] at e; cases e; exact ⟨ek.symm, hR1⟩)⟩)
        · have ek : cnI k = nI k := if_neg (fun q => c89 (by rw [if_pos q]; rfl))
          refine go_iload_2 (DX6_mendAll.at 51 rfl) ?_
          refine go_goto 98 (DX6_mendAll.at 52 rfl) (by decide) ?_
          exact go_iret (DX6_mendAll.at 54 rfl) rfl rfl (RI.mk ⟨ρ1, hM1, hu, fun e => (by rw [hRR] at e; cases e), fun p e => (by rw [hRR] at e; cases e; exact ⟨ek.symm, hR1⟩)⟩)
      | succ m ih =>
        intro t k A h ρ1 x5 htm hnd hk hX1 hu hRR
        have hM1 := hX1.1
        have hR1 := hX1.2.2
        have hA := hR1.1
        have hn := hA.1.nc
        have hT8 : aT A ≤ 8 := hA.1.2.2.2.2.2.2.1
        refine go_iload_4 (DX6_mendAll.at 12 rfl) ?_
        refine go_aload_0 (DX6_mendAll.at 13 rfl) ?_
        refine go_getfield (DX6_mendAll.at 14 rfl) fX6_7 hM1.1 rfl ?_
        refine go_iconst (v := nI 2) (DX6_mendAll.at 15 rfl) (by decide) ?_
        refine go_ialdM (DX6_mendAll.at 16 rfl) (hM1.2.1 1 (by decide)) (show 2 < 349 by decide) (by decide) ?_
        rw [show ρ1 1 2 = nI (aT A) from hR1.2.1.2.2.1]
        refine go_icmp_ge 88 (DX6_mendAll.at 17 rfl) (by decide) (fun c25 => absurd ((nI_leI (by omega) (by omega)).mp c25) (by omega)) (fun c25 => ?_)
        refine go_aload_0 (DX6_mendAll.at 18 rfl) ?_
        refine go_iload_4 (DX6_mendAll.at 19 rfl) ?_
        refine go_aload_0 (DX6_mendAll.at 20 rfl) ?_
        refine go_iload_1 (DX6_mendAll.at 21 rfl) ?_
        refine go_iload_4 (DX6_mendAll.at 22 rfl) ?_
        refine go_cVx2 (DX6_mendAll.at 23 rfl) nX6_149 vX6_cellOn (by omega) (m_cellOn (show t < 8 by omega) (show nd < 20 by omega) hX1 (by omega)) hM1.1 rfl (Nat.le_of_ble_eq_true rfl) ?_
        refine go_cVi2 (DX6_mendAll.at 24 rfl) nX6_152 vX6_mendCell (by omega) (m_mendCell hX1 (by omega)) hM1.1 rfl (Nat.le_of_ble_eq_true rfl) (fun x38 h38 q38 => ?_)
        obtain ⟨ρ2, q38, u38, e38, r38⟩ := q38
        rw [mdF_in hA (by omega) (con_lt (by omega))] at e38 r38
        by_cases hb : bit (aM A t) (con (nc (aG A) (aS A)) nd (t * aH A))
        · rcases way_cases A t (con (nc (aG A) (aS A)) nd (t * aH A)) with ⟨w, src, X', hW⟩ | hW
          · rw [cI_t hb, mdA_s hW] at e38 r38
            dsimp only at e38 r38
            subst e38
            have hp20 := pcn_le src 20
            have hp1 := WyX.pos hA (con_lt (by omega)) hW
            have ea : (if k + pcn src 20 = 0 then 0 else 1) = 1 := if_neg (by omega)
            refine go_istore_5 (DX6_mendAll.at 25 rfl) ?_
            refine go_iload_5 (DX6_mendAll.at 26 rfl) ?_
            refine go_bipush (v := (-4)) (DX6_mendAll.at 27 rfl) (by decide) ?_
            refine go_icmp_ne 53 (DX6_mendAll.at 28 rfl) (by decide) (fun c47 => ?_) (fun c47 => absurd c47 (nI_m4 (by omega)))
            refine go_iload_3 (DX6_mendAll.at 31 rfl) ?_
            refine go_if_ne 62 (DX6_mendAll.at 32 rfl) (by decide) (fun c54 => ?_) (fun c54 => ?_)
            · have ea0 : (if k = 0 then 0 else 1) = 1 := if_neg (fun q => c54 (by rw [if_pos q]; rfl))
              refine go_iconst (v := nI 1) (DX6_mendAll.at 35 rfl) (by decide) ?_
              refine go_goto 67 (DX6_mendAll.at 36 rfl) (by decide) ?_
              refine go_istore_3 (DX6_mendAll.at 38 rfl) ?_
              refine go_iload_2 (DX6_mendAll.at 39 rfl) ?_
              refine go_iload_5 (DX6_mendAll.at 40 rfl) ?_
              refine go_if_lt 79 (DX6_mendAll.at 41 rfl) (by decide) (fun c71 => absurd c71 (nI_pos (by omega))) (fun c71 => ?_)
              refine go_iload_5 (DX6_mendAll.at 42 rfl) ?_
              refine go_goto 80 (DX6_mendAll.at 43 rfl) (by decide) ?_
              refine go_iadd (DX6_mendAll.at 45 rfl) ?_
              rw [nI_add]
              refine go_istore_2 (DX6_mendAll.at 46 rfl) ?_
              refine go_iincN_4 (DX6_mendAll.at 47 rfl) ?_
              refine go_goto 17 (DX6_mendAll.at 48 rfl) (by decide) ?_
              have K := ih (t + 1) (k + pcn src 20) (aMnd A t (con (nc (aG A) (aS A)) nd (t * aH A)) w src X') _ _ (some (.int (nI (pcn src 20)))) (by show t + 1 + m = aT A; omega) hnd (by omega) (mX hX1 q38 u38 r38) (hu.trans u38) (by
                rw [hRR, mnG_s hb hW]
                cases mnG nd m (t + 1) (aMnd A t (con (nc (aG A) (aS A)) nd (t * aH A)) w src X') with
                | none => rfl
                | some r => show some (k + (pcn src 20 + r.1), r.2) = some (k + pcn src 20 + r.1, r.2); rw [Nat.add_assoc])
              rw [ea] at K
              exact K
            · refine go_iload_5 (DX6_mendAll.at 33 rfl) ?_
              refine go_if_lt 66 (DX6_mendAll.at 34 rfl) (by decide) (fun c59 => absurd c59 (nI_pos (by omega))) (fun c59 => ?_)
              refine go_iconst (v := nI 1) (DX6_mendAll.at 35 rfl) (by decide) ?_
              refine go_goto 67 (DX6_mendAll.at 36 rfl) (by decide) ?_
              refine go_istore_3 (DX6_mendAll.at 38 rfl) ?_
              refine go_iload_2 (DX6_mendAll.at 39 rfl) ?_
              refine go_iload_5 (DX6_mendAll.at 40 rfl) ?_
              refine go_if_lt 79 (DX6_mendAll.at 41 rfl) (by decide) (fun c71 => absurd c71 (nI_pos (by omega))) (fun c71 => ?_)
              refine go_iload_5 (DX6_mendAll.at 42 rfl) ?_
              refine go_goto 80 (DX6_mendAll.at 43 rfl) (by decide) ?_
              refine go_iadd (DX6_mendAll.at 45 rfl) ?_
              rw [nI_add]
              refine go_istore_2 (DX6_mendAll.at 46 rfl) ?_
              refine go_iincN_4 (DX6_mendAll.at 47 rfl) ?_
              refine go_goto 17 (DX6_mendAll.at 48 rfl) (by decide) ?_
              have K := ih (t + 1) (k + pcn src 20) (aMnd A t (con (nc (aG A) (aS A)) nd (t * aH A)) w src X') _ _ (some (.int (nI (pcn src 20)))) (by show t + 1 + m = aT A; omega) hnd (by omega) (mX hX1 q38 u38 r38) (hu.trans u38) (by
                rw [hRR, mnG_s hb hW]
                cases mnG nd m (t + 1) (aMnd A t (con (nc (aG A) (aS A)) nd (t * aH A)) w src X') with
                | none => rfl
                | some r => show some (k + (pcn src 20 + r.1), r.2) = some (k + pcn src 20 + r.1, r.2); rw [Nat.add_assoc])
              rw [ea] at K
              exact K
          · rw [cI_t hb, mdA_0 hW] at e38 r38
            dsimp only at e38 r38
            subst e38
            have hR0 : R = none := by rw [hRR, mnG_0 hb hW]
            refine go_istore_5 (DX6_mendAll.at 25 rfl) ?_
            refine go_iload_5 (DX6_mendAll.at 26 rfl) ?_
            refine go_bipush (v := (-4)) (DX6_mendAll.at 27 rfl) (by decide) ?_
            refine go_icmp_ne 53 (DX6_mendAll.at 28 rfl) (by decide) (fun c47 => absurd rfl c47) (fun c47 => ?_)
            refine go_bipush (v := (-4)) (DX6_mendAll.at 29 rfl) (by decide) ?_
            exact go_iret (DX6_mendAll.at 30 rfl) rfl rfl (RI.mk ⟨ρ2, q38, hu.trans u38, fun _ => rfl, fun p e => (by rw [hR0] at e; cases e)⟩)
        · rw [cI_f hb] at e38 r38
          dsimp only at e38 r38
          subst e38
          refine go_istore_5 (DX6_mendAll.at 25 rfl) ?_
          refine go_iload_5 (DX6_mendAll.at 26 rfl) ?_
          refine go_bipush (v := (-4)) (DX6_mendAll.at 27 rfl) (by decide) ?_
          refine go_icmp_ne 53 (DX6_mendAll.at 28 rfl) (by decide) (fun c47 => ?_) (fun c47 => absurd c47 (by decide))
          refine go_iload_3 (DX6_mendAll.at 31 rfl) ?_
          refine go_if_ne 62 (DX6_mendAll.at 32 rfl) (by decide) (fun c54 => ?_) (fun c54 => ?_)
          · have ea : (if k = 0 then 0 else 1) = 1 := if_neg (fun q => c54 (by rw [if_pos q]; rfl))
            refine go_iconst (v := nI 1) (DX6_mendAll.at 35 rfl) (by decide) ?_
            refine go_goto 67 (DX6_mendAll.at 36 rfl) (by decide) ?_
            refine go_istore_3 (DX6_mendAll.at 38 rfl) ?_
            refine go_iload_2 (DX6_mendAll.at 39 rfl) ?_
            refine go_iload_5 (DX6_mendAll.at 40 rfl) ?_
            refine go_if_lt 79 (DX6_mendAll.at 41 rfl) (by decide) (fun c71 => ?_) (fun c71 => absurd (by decide) c71)
            refine go_iconst (v := nI 0) (DX6_mendAll.at 44 rfl) (by decide) ?_
            refine go_iadd (DX6_mendAll.at 45 rfl) ?_
            rw [show nI k + nI 0 = nI k from by rw [nI_add]; rfl]
            refine go_istore_2 (DX6_mendAll.at 46 rfl) ?_
            refine go_iincN_4 (DX6_mendAll.at 47 rfl) ?_
            refine go_goto 17 (DX6_mendAll.at 48 rfl) (by decide) ?_
            have K := ih (t + 1) k A _ _ (some (.int (-5))) (by omega) hnd (by omega) (mX hX1 q38 u38 r38) (hu.trans u38) (by rw [hRR, mnG_f hb])
            rw [ea] at K
            exact K
          · have ea : (if k = 0 then 0 else 1) = 0 := Classical.byContradiction (fun q => q (if_pos (Classical.byContradiction fun w => absurd c54 (by rw [if_neg w]; decide))))
            refine go_iload_5 (DX6_mendAll.at 33 rfl) ?_
            refine go_if_lt 66 (DX6_mendAll.at 34 rfl) (by decide) (fun c59 => ?_) (fun c59 => absurd (by decide) c59)
            refine go_iconst (v := nI 0) (DX6_mendAll.at 37 rfl) (by decide) ?_
            refine go_istore_3 (DX6_mendAll.at 38 rfl) ?_
            refine go_iload_2 (DX6_mendAll.at 39 rfl) ?_
            refine go_iload_5 (DX6_mendAll.at 40 rfl) ?_
            refine go_if_lt 79 (DX6_mendAll.at 41 rfl) (by decide) (fun c71 => ?_) (fun c71 => absurd (by decide) c71)
            refine go_iconst (v := nI 0) (DX6_mendAll.at 44 rfl) (by decide) ?_
            refine go_iadd (DX6_mendAll.at 45 rfl) ?_
            rw [show nI k + nI 0 = nI k from by rw [nI_add]; rfl]
            refine go_istore_2 (DX6_mendAll.at 46 rfl) ?_
            refine go_iincN_4 (DX6_mendAll.at 47 rfl) ?_
            refine go_goto 17 (DX6_mendAll.at 48 rfl) (by decide) ?_
            have K := ih (t + 1) k A _ _ (some (.int (-5))) (by omega) hnd (by omega) (mX hX1 q38 u38 r38) (hu.trans u38) (by rw [hRR, mnG_f hb])
            rw [ea] at K
            exact K
    refine Go.weaken (loop (aT A) 0 0 A h ρ _ (Nat.zero_add _) hnd (Nat.zero_le _) hX MU.rf ?_) ?_
    · rw [hR0]
      cases R with
      | none => rfl
      | some r => show some r = some (0 + r.1, r.2); rw [Nat.zero_add]
    · rintro r h1 ⟨y, rfl, ρ', h2, h3, h4, h5⟩
      refine RI.mk ⟨ρ', h2, h3, ?_⟩
      cases R with
      | none => exact ⟨h4 rfl, fun q => absurd (h4 rfl) q⟩
      | some p => exact ⟨(h5 p rfl).1, fun _ => (h5 p rfl).2⟩
  · rw [bP_eq0] at c5
    have e : mnF A x = (-1, A) := cI_f c5
    refine go_iconst (v := (-1)) (DX6_mendAll.at 4 rfl) (by decide) ?_
    exact go_iret (DX6_mendAll.at 5 rfl) rfl rfl (RI.mk ⟨ρ, hM, MU.rf, by rw [e], fun _ => by rw [e]; exact hR⟩)

end M6
