/-! A STATE: nine ints and five rows; what its methods read -/
abbrev Rows : Type := Nat → Nat → Int32
abbrev ar (n : Nat) (f : Nat → Int32) : va_E := .inl (0, n, .inl f)
abbrev stO (b : Nat) (i : Nat → Int32) : va_E := .inr (4, [.int (i 0), .int (i 1), .int (i 2), .int (i 3), .int (i 4), .int (i 5), .int (i 6), .int (i 7), .int (i 8), .ref (b + 1), .ref (b + 2), .ref (b + 3), .ref (b + 4), .ref (b + 5)])
/-- σ 0: groups, size, stripes, shift, reads, mends, local mends, losses, queue length; σ 1 .. σ 5: queue, values, missing, loads, columns -/
def StAt (h : List va_E) (b : Nat) (σ : Rows) : Prop := h[b]? = some (stO b (σ 0)) ∧ h[b + 1]? = some (ar 160 (σ 1)) ∧ h[b + 2]? = some (ar 160 (σ 2)) ∧ h[b + 3]? = some (ar 8 (σ 3)) ∧ h[b + 4]? = some (ar 20 (σ 4)) ∧ h[b + 5]? = some (ar 20 (σ 5))
def LayOK (g s T sh : Nat) : Prop := 1 ≤ g ∧ g ≤ 4 ∧ 2 ≤ s ∧ s ≤ 6 ∧ g * s ≤ 15 ∧ 1 ≤ T ∧ T ≤ 8 ∧ sh ≤ 5
def LayX (σ : Rows) (g s T sh : Nat) : Prop := σ 0 0 = nI g ∧ σ 0 1 = nI s ∧ σ 0 2 = nI T ∧ σ 0 3 = nI sh ∧ LayOK g s T sh
/-- how many cells a stripe has -/
def nc (g s : Nat) : Nat := g * s + g + 2
theorem LayOK.nc {g s T sh : Nat} (h : LayOK g s T sh) : 5 ≤ nc g s ∧ nc g s ≤ 20 := by
  obtain ⟨h1, h2, h3, h4, h5, -⟩ := h
  have hg : g = 1 ∨ g = 2 ∨ g = 3 ∨ g = 4 := by omega
  unfold Jvm.Pilot.CLocalMendersLaw_law_r9733_bb337c.nc
  rcases hg with rfl | rfl | rfl | rfl <;> omega
theorem nx_shlW (a : Nat) {k : Nat} (hk : k < 32) : nI a <<< (nI k &&& 31) = nI (a * 2 ^ k) := by
  apply Int32.toBitVec_inj.mp
  apply BitVec.eq_of_toNat_eq
  rw [pk_shl _ _ k (s_l k hk)]
  show (BitVec.ofNat 32 a).toNat * 2 ^ k % 2 ^ 32 = (BitVec.ofNat 32 (a * 2 ^ k)).toNat
  rw [BitVec.toNat_ofNat, BitVec.toNat_ofNat, Nat.mod_mul_mod]
/-- a number from 0 on below n -/
def inR (x : Int32) (n : Nat) : Prop := 0 ≤ x ∧ x < nI n
theorem inR_ex {x : Int32} {n : Nat} (hn : n < 2 ^ 31) (h : inR x n) : ∃ j, j < n ∧ x = nI j := by
  rcases pk_ix x hn with q | q | q
  · exact absurd h.1 (Int32.not_le.mpr q)
  · exact absurd h.2 (Int32.not_lt.mpr q)
  · exact q
theorem inR_nI {j n : Nat} (hj : j < 2 ^ 31) (hn : n < 2 ^ 31) : inR (nI j) n ↔ j < n := ⟨fun h => (nI_ltI hj hn).mp h.2, fun h => ⟨nI_0le hj, (nI_ltI hj hn).mpr h⟩⟩
section SR
variable {E : AEnv} {d : Nat} {h : List va_E} {b : Nat} {σ : Rows} {g s T sh : Nat}
theorem c_dataCount (hS : StAt h b σ) (hL : LayX σ g s T sh)  : Calls E mX4_dataCount d 0 0 [.ref b] h (RX (nI (g * s)) h) := by
  refine Calls.of (ls := [some (.ref b)]) (by decide +kernel) rfl (Nat.le_of_ble_eq_true rfl) (cat_ok rfl) ?_
  refine go_aload_0 (DX4_dataCount.at 0 rfl) ?_
  refine go_getfield (DX4_dataCount.at 1 rfl) fX4_9 hS.1 rfl ?_
  refine go_aload_0 (DX4_dataCount.at 2 rfl) ?_
  refine go_getfield (DX4_dataCount.at 3 rfl) fX4_15 hS.1 rfl ?_
  refine go_imul (DX4_dataCount.at 4 rfl) ?_
  exact go_iret (DX4_dataCount.at 5 rfl) rfl rfl (RX.mk (by rw [hL.1, hL.2.1, pk_mul]) rfl)

theorem c_cellCount (hS : StAt h b σ) (hL : LayX σ g s T sh)  : Calls E mX4_cellCount d 0 0 [.ref b] h (RX (nI (nc g s)) h) := by
  refine Calls.of (ls := [some (.ref b)]) (by decide +kernel) rfl (Nat.le_of_ble_eq_true rfl) (cat_ok rfl) ?_
  refine go_aload_0 (DX4_cellCount.at 0 rfl) ?_
  refine go_getfield (DX4_cellCount.at 1 rfl) fX4_9 hS.1 rfl ?_
  refine go_aload_0 (DX4_cellCount.at 2 rfl) ?_
  refine go_getfield (DX4_cellCount.at 3 rfl) fX4_15 hS.1 rfl ?_
  refine go_imul (DX4_cellCount.at 4 rfl) ?_
  refine go_aload_0 (DX4_cellCount.at 5 rfl) ?_
  refine go_getfield (DX4_cellCount.at 6 rfl) fX4_9 hS.1 rfl ?_
  refine go_iadd (DX4_cellCount.at 7 rfl) ?_
  refine go_iconst (v := nI 2) (DX4_cellCount.at 8 rfl) (by decide) ?_
  refine go_iadd (DX4_cellCount.at 9 rfl) ?_
  exact go_iret (DX4_cellCount.at 10 rfl) rfl rfl (RX.mk (by rw [hL.1, hL.2.1, pk_mul, nI_add, nI_add]; rfl) rfl)

theorem c_allCells (hS : StAt h b σ) (hL : LayX σ g s T sh)  (hd : 1 ≤ d) : Calls E mX4_allCells d 0 0 [.ref b] h (RX (nI (2 ^ nc g s - 1)) h) := by
  refine Calls.of (ls := [some (.ref b)]) (by decide +kernel) rfl (Nat.le_of_ble_eq_true rfl) (cat_ok rfl) ?_
  refine go_iconst (v := nI 1) (DX4_allCells.at 0 rfl) (by decide) ?_
  refine go_aload_0 (DX4_allCells.at 1 rfl) ?_
  refine go_cVx0 (DX4_allCells.at 2 rfl) nX4_69 vX4_cellCount (by omega) (c_cellCount hS hL) hS.1 rfl (Nat.le_of_ble_eq_true rfl) ?_
  refine go_ishl (DX4_allCells.at 3 rfl) ?_
  refine go_iconst (v := nI 1) (DX4_allCells.at 4 rfl) (by decide) ?_
  refine go_isub (DX4_allCells.at 5 rfl) ?_
  exact go_iret (DX4_allCells.at 6 rfl) rfl rfl (RX.mk (by rw [nx_shlW _ (by have := hL.2.2.2.2.nc; omega), Nat.one_mul, pk_sub (Nat.one_le_two_pow)]) rfl)

theorem inR_dec_t {x : Int32} {n : Nat} (h1 : ¬ x < 0) (h2 : ¬ nI n ≤ x) : inR x n := ⟨Int32.not_lt.mp h1, Int32.not_le.mp h2⟩
theorem inR_no1 {x : Int32} {n : Nat} (h1 : x < 0) : ¬ inR x n := fun q => absurd q.1 (Int32.not_le.mpr h1)
theorem inR_no2 {x : Int32} {n : Nat} (h1 : nI n ≤ x) : ¬ inR x n := fun q => absurd q.2 (Int32.not_lt.mpr h1)
noncomputable def bP (P : Prop) : Int32 := @bI P (Classical.propDecidable P)
theorem bP_t {P : Prop} (h : P) : bP P = nI 1 := @bI_t P (Classical.propDecidable P) h
theorem bP_f {P : Prop} (h : ¬ P) : bP P = nI 0 := @bI_f P (Classical.propDecidable P) h
theorem bP_eq0 {P : Prop} : bP P = 0 ↔ ¬ P := @bI_eq0 P (Classical.propDecidable P)
theorem bP_nar {P : Prop} : narrow .boolean (.int (bP P)) = .int (bP P) := @bI_nar P (Classical.propDecidable P)
theorem c_hasStripe (hS : StAt h b σ) (hL : LayX σ g s T sh) {x : Int32} : Calls E mX4_hasStripe d 0 0 [.ref b, .int x] h (RX (bP (inR x (T))) h) := by
  refine Calls.of (ls := [some (.ref b), some (.int x)]) (by decide +kernel) rfl (Nat.le_of_ble_eq_true rfl) (cat_ok rfl) ?_
  refine go_iload_1 (DX4_hasStripe.at 0 rfl) ?_
  refine go_if_lt 16 (DX4_hasStripe.at 1 rfl) (by decide) (fun c1 => ?_) (fun c1 => ?_)
  · have e0 : bP (inR x T) = nI 0 := bP_f (inR_no1 c1)
    refine go_iconst (v := nI 0) (DX4_hasStripe.at 8 rfl) (by decide) ?_
    exact go_iret (DX4_hasStripe.at 9 rfl) rfl rfl (RX.mk e0.symm rfl)
  · refine go_iload_1 (DX4_hasStripe.at 2 rfl) ?_
    refine go_aload_0 (DX4_hasStripe.at 3 rfl) ?_
    refine go_getfield (DX4_hasStripe.at 4 rfl) fX4_18 hS.1 rfl ?_
    rw [hL.2.2.1]
    refine go_icmp_ge 16 (DX4_hasStripe.at 5 rfl) (by decide) (fun c9 => ?_) (fun c9 => ?_)
    · have e0 : bP (inR x T) = nI 0 := bP_f (inR_no2 c9)
      refine go_iconst (v := nI 0) (DX4_hasStripe.at 8 rfl) (by decide) ?_
      exact go_iret (DX4_hasStripe.at 9 rfl) rfl rfl (RX.mk e0.symm rfl)
    · have e0 : bP (inR x T) = nI 1 := bP_t (inR_dec_t c1 c9)
      refine go_iconst (v := nI 1) (DX4_hasStripe.at 6 rfl) (by decide) ?_
      refine go_goto 17 (DX4_hasStripe.at 7 rfl) (by decide) ?_
      exact go_iret (DX4_hasStripe.at 9 rfl) rfl rfl (RX.mk e0.symm rfl)

theorem c_hasNode (hS : StAt h b σ) (hL : LayX σ g s T sh) {x : Int32} (hd : 1 ≤ d) : Calls E mX4_hasNode d 0 0 [.ref b, .int x] h (RX (bP (inR x (nc g s))) h) := by
  refine Calls.of (ls := [some (.ref b), some (.int x)]) (by decide +kernel) rfl (Nat.le_of_ble_eq_true rfl) (cat_ok rfl) ?_
  refine go_iload_1 (DX4_hasNode.at 0 rfl) ?_
  refine go_if_lt 16 (DX4_hasNode.at 1 rfl) (by decide) (fun c1 => ?_) (fun c1 => ?_)
  · have e0 : bP (inR x (nc g s)) = nI 0 := bP_f (inR_no1 c1)
    refine go_iconst (v := nI 0) (DX4_hasNode.at 8 rfl) (by decide) ?_
    exact go_iret (DX4_hasNode.at 9 rfl) rfl rfl (RX.mk e0.symm rfl)
  · refine go_iload_1 (DX4_hasNode.at 2 rfl) ?_
    refine go_aload_0 (DX4_hasNode.at 3 rfl) ?_
    refine go_cVx0 (DX4_hasNode.at 4 rfl) nX4_69 vX4_cellCount (by omega) (c_cellCount hS hL) hS.1 rfl (Nat.le_of_ble_eq_true rfl) ?_
    refine go_icmp_ge 16 (DX4_hasNode.at 5 rfl) (by decide) (fun c9 => ?_) (fun c9 => ?_)
    · have e0 : bP (inR x (nc g s)) = nI 0 := bP_f (inR_no2 c9)
      refine go_iconst (v := nI 0) (DX4_hasNode.at 8 rfl) (by decide) ?_
      exact go_iret (DX4_hasNode.at 9 rfl) rfl rfl (RX.mk e0.symm rfl)
    · have e0 : bP (inR x (nc g s)) = nI 1 := bP_t (inR_dec_t c1 c9)
      refine go_iconst (v := nI 1) (DX4_hasNode.at 6 rfl) (by decide) ?_
      refine go_goto 17 (DX4_hasNode.at 7 rfl) (by decide) ?_
      exact go_iret (DX4_hasNode.at 9 rfl) rfl rfl (RX.mk e0.symm rfl)

theorem c_hasCell (hS : StAt h b σ) (hL : LayX σ g s T sh) {x y : Int32} (hd : 1 ≤ d) : Calls E mX4_hasCell d 0 0 [.ref b, .int x, .int y] h (RX (bP (inR x T ∧ inR y (nc g s))) h) := by
  refine Calls.of (ls := [some (.ref b), some (.int x), some (.int y)]) (by decide +kernel) rfl (Nat.le_of_ble_eq_true rfl) (cat_ok rfl) ?_
  refine go_aload_0 (DX4_hasCell.at 0 rfl) ?_
  refine go_iload_1 (DX4_hasCell.at 1 rfl) ?_
  refine go_cVx1 (DX4_hasCell.at 2 rfl) nX4_91 vX4_hasStripe (by omega) (c_hasStripe hS hL) hS.1 rfl (Nat.le_of_ble_eq_true rfl) ?_
  refine go_if_eq 24 (DX4_hasCell.at 3 rfl) (by decide) (fun c5 => ?_) (fun c5 => ?_)
  · rw [bP_eq0] at c5
    have e0 : bP (inR x T ∧ inR y (nc g s)) = nI 0 := bP_f (fun q => c5 q.1)
    refine go_iconst (v := nI 0) (DX4_hasCell.at 12 rfl) (by decide) ?_
    exact go_iret (DX4_hasCell.at 13 rfl) rfl rfl (RX.mk e0.symm rfl)
  · rw [bP_eq0, Classical.not_not] at c5
    refine go_iload_2 (DX4_hasCell.at 4 rfl) ?_
    refine go_if_lt 24 (DX4_hasCell.at 5 rfl) (by decide) (fun c9 => ?_) (fun c9 => ?_)
    · have e0 : bP (inR x T ∧ inR y (nc g s)) = nI 0 := bP_f (fun q => inR_no1 c9 q.2)
      refine go_iconst (v := nI 0) (DX4_hasCell.at 12 rfl) (by decide) ?_
      exact go_iret (DX4_hasCell.at 13 rfl) rfl rfl (RX.mk e0.symm rfl)
    · refine go_iload_2 (DX4_hasCell.at 6 rfl) ?_
      refine go_aload_0 (DX4_hasCell.at 7 rfl) ?_
      refine go_cVx0 (DX4_hasCell.at 8 rfl) nX4_69 vX4_cellCount (by omega) (c_cellCount hS hL) hS.1 rfl (Nat.le_of_ble_eq_true rfl) ?_
      refine go_icmp_ge 24 (DX4_hasCell.at 9 rfl) (by decide) (fun c17 => ?_) (fun c17 => ?_)
      · have e0 : bP (inR x T ∧ inR y (nc g s)) = nI 0 := bP_f (fun q => inR_no2 c17 q.2)
        refine go_iconst (v := nI 0) (DX4_hasCell.at 12 rfl) (by decide) ?_
        exact go_iret (DX4_hasCell.at 13 rfl) rfl rfl (RX.mk e0.symm rfl)
      · have e0 : bP (inR x T ∧ inR y (nc g s)) = nI 1 := bP_t ⟨c5, inR_dec_t c9 c17⟩
        refine go_iconst (v := nI 1) (DX4_hasCell.at 10 rfl) (by decide) ?_
        refine go_goto 25 (DX4_hasCell.at 11 rfl) (by decide) ?_
        exact go_iret (DX4_hasCell.at 13 rfl) rfl rfl (RX.mk e0.symm rfl)

theorem c_nodeOf (hS : StAt h b σ) (hL : LayX σ g s T sh) {t c : Nat} (ht : t < 8) (hc : c < 20) (hd : 1 ≤ d) : Calls E mX4_nodeOf d 0 0 [.ref b, .int (nI t), .int (nI c)] h (RX (nI ((c + t * sh) % nc g s)) h) := by
  refine Calls.of (ls := [some (.ref b), some (.int (nI t)), some (.int (nI c)), none]) (by decide +kernel) rfl (Nat.le_of_ble_eq_true rfl) (cat_ok rfl) ?_
  refine go_aload_0 (DX4_nodeOf.at 0 rfl) ?_
  refine go_cVx0 (DX4_nodeOf.at 1 rfl) nX4_69 vX4_cellCount (by omega) (c_cellCount hS hL) hS.1 rfl (Nat.le_of_ble_eq_true rfl) ?_
  refine go_istore_3 (DX4_nodeOf.at 2 rfl) ?_
  refine go_iload_3 (DX4_nodeOf.at 3 rfl) ?_
  refine go_if_le 24 (DX4_nodeOf.at 4 rfl) (by decide) (fun c6 => absurd c6 (nI_nle (by have := hL.2.2.2.2.nc; omega) (by have := hL.2.2.2.2.nc; omega))) (fun c6 => ?_)
  refine go_iload_2 (DX4_nodeOf.at 5 rfl) ?_
  refine go_iload_1 (DX4_nodeOf.at 6 rfl) ?_
  refine go_aload_0 (DX4_nodeOf.at 7 rfl) ?_
  refine go_getfield (DX4_nodeOf.at 8 rfl) fX4_21 hS.1 rfl ?_
  refine go_imul (DX4_nodeOf.at 9 rfl) ?_
  refine go_iadd (DX4_nodeOf.at 10 rfl) ?_
  rw [hL.2.2.2.1, pk_mul, nI_add]
  refine go_iload_3 (DX4_nodeOf.at 11 rfl) ?_
  refine go_cSx2 (DX4_nodeOf.at 12 rfl) nX4_95 vJ9_floorMod_7cf53 (by omega) (c_floorMod (by have := hL.2.2.2.2; have h8 := this.2.2.2.2.2.2.2; have : t * sh ≤ 7 * 5 := Nat.mul_le_mul (by omega) h8; omega) (by have := hL.2.2.2.2.nc; omega) (by have := hL.2.2.2.2.nc; omega)) (Nat.le_of_ble_eq_true rfl) ?_
  refine go_goto 25 (DX4_nodeOf.at 13 rfl) (by decide) ?_
  exact go_iret (DX4_nodeOf.at 15 rfl) rfl rfl (RX.mk rfl rfl)

/-- the cell of the stripe t on a node -/
def con (n node k : Nat) : Nat := (node + 40 * n - k) % n
theorem con_lt {n node k : Nat} (hn : 0 < n) : con n node k < n := Nat.mod_lt _ hn
theorem c_cellOn (hS : StAt h b σ) (hL : LayX σ g s T sh) {t nd : Nat} (ht : t < 8) (hc : nd < 20) (hd : 1 ≤ d) : Calls E mX4_cellOn d 0 0 [.ref b, .int (nI t), .int (nI nd)] h (RX (nI (con (nc g s) nd (t * sh))) h) := by
  refine Calls.of (ls := [some (.ref b), some (.int (nI t)), some (.int (nI nd)), none]) (by decide +kernel) rfl (Nat.le_of_ble_eq_true rfl) (cat_ok rfl) ?_
  refine go_aload_0 (DX4_cellOn.at 0 rfl) ?_
  refine go_cVx0 (DX4_cellOn.at 1 rfl) nX4_69 vX4_cellCount (by omega) (c_cellCount hS hL) hS.1 rfl (Nat.le_of_ble_eq_true rfl) ?_
  refine go_istore_3 (DX4_cellOn.at 2 rfl) ?_
  refine go_iload_3 (DX4_cellOn.at 3 rfl) ?_
  refine go_if_le 24 (DX4_cellOn.at 4 rfl) (by decide) (fun c6 => absurd c6 (nI_nle (by have := hL.2.2.2.2.nc; omega) (by have := hL.2.2.2.2.nc; omega))) (fun c6 => ?_)
  refine go_iload_2 (DX4_cellOn.at 5 rfl) ?_
  refine go_iload_1 (DX4_cellOn.at 6 rfl) ?_
  refine go_aload_0 (DX4_cellOn.at 7 rfl) ?_
  refine go_getfield (DX4_cellOn.at 8 rfl) fX4_21 hS.1 rfl ?_
  refine go_imul (DX4_cellOn.at 9 rfl) ?_
  refine go_isub (DX4_cellOn.at 10 rfl) ?_
  refine go_iload_3 (DX4_cellOn.at 11 rfl) ?_
  rw [hL.2.2.2.1, pk_mul]
  have hn5 := hL.2.2.2.2.nc
  have h8 : t * sh ≤ 7 * 5 := Nat.mul_le_mul (by omega) hL.2.2.2.2.2.2.2.2.2.2.2
  rcases Nat.lt_or_ge nd (t * sh) with hlt | hge
  · have e1 : nI nd - nI (t * sh) = -nI (t * sh - nd) := by
      rw [← pk_sub (Nat.le_of_lt hlt)]
      exact Int32.neg_sub.symm
    rw [e1]
    refine go_cSx2 (DX4_cellOn.at 12 rfl) nX4_95 vJ9_floorMod_7cf53 (by omega) (c_floorModN (by omega) (by omega) (by omega) (by omega)) (Nat.le_of_ble_eq_true rfl) ?_
    refine go_goto 25 (DX4_cellOn.at 13 rfl) (by decide) ?_
    exact go_iret (DX4_cellOn.at 15 rfl) rfl rfl (RX.mk (by unfold con; rw [show 40 * nc g s - (t * sh - nd) = nd + 40 * nc g s - t * sh by omega]) rfl)
  · rw [pk_sub hge]
    refine go_cSx2 (DX4_cellOn.at 12 rfl) nX4_95 vJ9_floorMod_7cf53 (by omega) (c_floorMod (by omega) (by omega) (by omega)) (Nat.le_of_ble_eq_true rfl) ?_
    refine go_goto 25 (DX4_cellOn.at 13 rfl) (by decide) ?_
    exact go_iret (DX4_cellOn.at 15 rfl) rfl rfl (RX.mk (by
      unfold con
      rw [show nd + 40 * nc g s - t * sh = (nd - t * sh) + nc g s * 40 by omega, Nat.add_mul_mod_self_left]) rfl)

theorem c_homeCheck (hS : StAt h b σ) (hL : LayX σ g s T sh) {c : Nat} (hc : c < nc g s) (hd : 1 ≤ d) : Calls E mX4_homeCheck d 0 0 [.ref b, .int (nI c)] h (RX (nI (if c < g * s then c / s else c - g * s)) h) := by
  refine Calls.of (ls := [some (.ref b), some (.int (nI c))]) (by decide +kernel) rfl (Nat.le_of_ble_eq_true rfl) (cat_ok rfl) ?_
  refine go_iload_1 (DX4_homeCheck.at 0 rfl) ?_
  refine go_aload_0 (DX4_homeCheck.at 1 rfl) ?_
  refine go_cVx0 (DX4_homeCheck.at 2 rfl) nX4_81 vX4_dataCount (by omega) (c_dataCount hS hL) hS.1 rfl (Nat.le_of_ble_eq_true rfl) ?_
  refine go_icmp_lt 15 (DX4_homeCheck.at 3 rfl) (by decide) (fun c5 => ?_) (fun c5 => ?_)
  · rw [nI_ltI (by have := hL.2.2.2.2.nc; omega) (by have := hL.2.2.2.2.2.2.2.2.1; omega)] at c5
    refine go_aload_0 (DX4_homeCheck.at 9 rfl) ?_
    refine go_getfield (DX4_homeCheck.at 10 rfl) fX4_15 hS.1 rfl ?_
    refine go_if_le 31 (DX4_homeCheck.at 11 rfl) (by decide) (fun c19 => absurd (by rw [hL.2.1] at c19; exact c19) (nI_nle (n := s) (by have := hL.2.2.2.2.2.2.1; omega) (by have := hL.2.2.2.2.2.2.2.1; omega))) (fun c19 => ?_)
    refine go_iload_1 (DX4_homeCheck.at 12 rfl) ?_
    refine go_aload_0 (DX4_homeCheck.at 13 rfl) ?_
    refine go_getfield (DX4_homeCheck.at 14 rfl) fX4_15 hS.1 rfl ?_
    refine go_idiv (DX4_homeCheck.at 15 rfl) (by rw [hL.2.1]; exact nI_ne0 (by have := hL.2.2.2.2.2.2.1; omega) (by have := hL.2.2.2.2.2.2.2.1; omega)) ?_
    refine go_goto 32 (DX4_homeCheck.at 16 rfl) (by decide) ?_
    exact go_iret (DX4_homeCheck.at 18 rfl) rfl rfl (RX.mk (by rw [if_pos c5, hL.2.1, pk_div (by have := hL.2.2.2.2.nc; omega) (by have := hL.2.2.2.2.2.2.1; omega) (by have := hL.2.2.2.2.2.2.2.1; omega)]) rfl)
  · rw [nI_ltI (by have := hL.2.2.2.2.nc; omega) (by have := hL.2.2.2.2.2.2.2.2.1; omega)] at c5
    refine go_iload_1 (DX4_homeCheck.at 4 rfl) ?_
    refine go_aload_0 (DX4_homeCheck.at 5 rfl) ?_
    refine go_cVx0 (DX4_homeCheck.at 6 rfl) nX4_81 vX4_dataCount (by omega) (c_dataCount hS hL) hS.1 rfl (Nat.le_of_ble_eq_true rfl) ?_
    refine go_isub (DX4_homeCheck.at 7 rfl) ?_
    exact go_iret (DX4_homeCheck.at 8 rfl) rfl rfl (RX.mk (by rw [if_neg c5, pk_sub (by omega)]) rfl)

theorem c_columnOf (hS : StAt h b σ) {c : Nat} (hc : c < 20) (hd : 1 ≤ d) : Calls E mX4_columnOf d 0 0 [.ref b, .int (nI c)] h (RX (σ 5 c) h) := by
  refine Calls.of (ls := [some (.ref b), some (.int (nI c))]) (by decide +kernel) rfl (Nat.le_of_ble_eq_true rfl) (cat_ok rfl) ?_
  refine go_aload_0 (DX4_columnOf.at 0 rfl) ?_
  refine go_getfield (DX4_columnOf.at 1 rfl) fX4_52 hS.1 rfl ?_
  refine go_iload_1 (DX4_columnOf.at 2 rfl) ?_
  refine go_cSx2 (DX4_columnOf.at 3 rfl) nX4_87 vX5_at (by omega) (c_at (Or.inl hS.2.2.2.2.2) hc (by decide)) (Nat.le_of_ble_eq_true rfl) ?_
  exact go_iret (DX4_columnOf.at 4 rfl) rfl rfl (RX.mk rfl rfl)

theorem c_valueOf (hS : StAt h b σ) {t c : Nat} (ht : t < 8) (hc : c < 20) (hd : 1 ≤ d) : Calls E mX4_valueOf d 0 0 [.ref b, .int (nI t), .int (nI c)] h (RX (σ 2 (t * 20 + c)) h) := by
  refine Calls.of (ls := [some (.ref b), some (.int (nI t)), some (.int (nI c))]) (by decide +kernel) rfl (Nat.le_of_ble_eq_true rfl) (cat_ok rfl) ?_
  refine go_aload_0 (DX4_valueOf.at 0 rfl) ?_
  refine go_getfield (DX4_valueOf.at 1 rfl) fX4_43 hS.1 rfl ?_
  refine go_iload_1 (DX4_valueOf.at 2 rfl) ?_
  refine go_bipush (v := nI 20) (DX4_valueOf.at 3 rfl) (by decide) ?_
  refine go_imul (DX4_valueOf.at 4 rfl) ?_
  refine go_iload_2 (DX4_valueOf.at 5 rfl) ?_
  refine go_iadd (DX4_valueOf.at 6 rfl) ?_
  rw [pk_mul, nI_add]
  refine go_cSx2 (DX4_valueOf.at 7 rfl) nX4_87 vX5_at (by omega) (c_at (Or.inl hS.2.2.1) (by omega) (by decide)) (Nat.le_of_ble_eq_true rfl) ?_
  exact go_iret (DX4_valueOf.at 8 rfl) rfl rfl (RX.mk rfl rfl)

theorem c_missingIn (hS : StAt h b σ) {t : Nat} (ht : t < 8) (hd : 1 ≤ d) : Calls E mX4_missingIn d 0 0 [.ref b, .int (nI t)] h (RX (σ 3 t) h) := by
  refine Calls.of (ls := [some (.ref b), some (.int (nI t))]) (by decide +kernel) rfl (Nat.le_of_ble_eq_true rfl) (cat_ok rfl) ?_
  refine go_aload_0 (DX4_missingIn.at 0 rfl) ?_
  refine go_getfield (DX4_missingIn.at 1 rfl) fX4_46 hS.1 rfl ?_
  refine go_iload_1 (DX4_missingIn.at 2 rfl) ?_
  refine go_cSx2 (DX4_missingIn.at 3 rfl) nX4_87 vX5_at (by omega) (c_at (Or.inl hS.2.2.2.1) ht (by decide)) (Nat.le_of_ble_eq_true rfl) ?_
  exact go_iret (DX4_missingIn.at 4 rfl) rfl rfl (RX.mk rfl rfl)

theorem c_isMissing (hS : StAt h b σ) {t c M : Nat} (ht : t < 8) (hc : c < 20) (hM : σ 3 t = nI M) (hM2 : M < 2 ^ 31) (hd : 2 ≤ d) : Calls E mX4_isMissing d 0 0 [.ref b, .int (nI t), .int (nI c)] h (RX (bP (M / 2 ^ c % 2 = 1)) h) := by
  refine Calls.of (ls := [some (.ref b), some (.int (nI t)), some (.int (nI c))]) (by decide +kernel) rfl (Nat.le_of_ble_eq_true rfl) (cat_ok rfl) ?_
  refine go_aload_0 (DX4_isMissing.at 0 rfl) ?_
  refine go_iload_1 (DX4_isMissing.at 1 rfl) ?_
  refine go_cVx1 (DX4_isMissing.at 2 rfl) nX4_117 vX4_missingIn (by omega) (c_missingIn hS ht (by omega)) hS.1 rfl (Nat.le_of_ble_eq_true rfl) ?_
  rw [hM]
  refine go_iload_2 (DX4_isMissing.at 3 rfl) ?_
  refine go_ishr (DX4_isMissing.at 4 rfl) ?_
  refine go_iconst (v := nI 1) (DX4_isMissing.at 5 rfl) (by decide) ?_
  refine go_iand (DX4_isMissing.at 6 rfl) ?_
  rw [nx_bit hM2 (by omega)]
  refine go_if_eq 16 (DX4_isMissing.at 7 rfl) (by decide) (fun c9 => ?_) (fun c9 => ?_)
  · rw [nI_eq0 (by omega)] at c9
    have e0 : bP (M / 2 ^ c % 2 = 1) = nI 0 := bP_f (by omega)
    refine go_iconst (v := nI 0) (DX4_isMissing.at 10 rfl) (by decide) ?_
    exact go_iret (DX4_isMissing.at 11 rfl) rfl rfl (RX.mk e0.symm rfl)
  · rw [nI_eq0 (by omega)] at c9
    have e0 : bP (M / 2 ^ c % 2 = 1) = nI 1 := bP_t (by omega)
    refine go_iconst (v := nI 1) (DX4_isMissing.at 8 rfl) (by decide) ?_
    refine go_goto 17 (DX4_isMissing.at 9 rfl) (by decide) ?_
    exact go_iret (DX4_isMissing.at 11 rfl) rfl rfl (RX.mk e0.symm rfl)

end SR
