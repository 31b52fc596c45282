/-! HOW A LOST CELL IS MENDED: the class's plan -/
def Src3 (n M : Nat) : Nat := (2 ^ n - 1) &&& (M ^^^ 4294967295)
def Can3 (C : Nat → Nat → Nat) (V : Nat → Nat) (M n c : Nat) : Prop := (∃ l, Dual C M n c l) ∧ ∀ l, Van C M n l → ev l (vsum C V (Src3 n M) n) = 0
def WayX (C : Nat → Nat → Nat) (V : Nat → Nat) (g s M c w src X : Nat) : Prop :=
  (pmv g s c &&& M = 0 ∧ w = (if hcv g s c < g then 1 else 2) ∧ src = pmv g s c ∧ X = vsum C V (pmv g s c) (nc g s) (hcv g s c)) ∨
  (pmv g s c &&& M ≠ 0 ∧ Can3 C V M (nc g s) c ∧ w = 3 ∧ src = Src3 (nc g s) M ∧ X < 16 ∧ ∀ l, Dual C M (nc g s) c l → ev l (vsum C V (Src3 (nc g s) M) (nc g s)) = X)
def NoWay (C : Nat → Nat → Nat) (V : Nat → Nat) (g s M c : Nat) : Prop := pmv g s c &&& M ≠ 0 ∧ ¬ Can3 C V M (nc g s) c
/-- a Plan at b, its Basis behind it -/
def PlIs (h : List va_E) (b : Nat) (src out : Int32) : Prop := h[b]? = some (.inr (2, [.ref (b + 1), .int src, .int out])) ∧ ∃ r cf lf, BsAt h (b + 1) r cf lf
theorem BsAt.keep {h h1 : List va_E} {b lo hi r : Nat} {cf lf : Nat → Int32} (hB : BsAt h b r cf lf) (hO : Only lo hi h h1) (hd : b + 3 ≤ lo ∨ hi ≤ b) : BsAt h1 b r cf lf := ⟨hO.at (by omega) hB.1, hO.at (by omega) hB.2.1, hO.at (by omega) hB.2.2⟩
theorem PlIs.keep {h h1 : List va_E} {b lo hi : Nat} {src out : Int32} (hB : PlIs h b src out) (hO : Only lo hi h h1) (hd : b + 4 ≤ lo ∨ hi ≤ b) : PlIs h1 b src out := by
  obtain ⟨h1, r, cf, lf, h2⟩ := hB
  exact ⟨hO.at (by omega) h1, r, cf, lf, h2.keep hO (by omega)⟩
theorem pmv_lt {g s T sh c : Nat} (hL : LayOK g s T sh) (hc : c < nc g s) : pmv g s c < 2 ^ 31 := by
  have hn := hL.nc
  have hgs : g * s ≤ 15 := hL.2.2.2.2.1
  unfold pmv
  split
  · rename_i q
    refine Nat.lt_of_le_of_lt Nat.and_le_left (Nat.or_lt_two_pow ?_ (Nat.pow_lt_pow_right (by decide) (by unfold nc at hn; omega)))
    have h1 : hcv g s c * s + s ≤ 15 := by
      have : hcv g s c * s + s = (hcv g s c + 1) * s := by rw [Nat.add_mul, Nat.one_mul]
      rw [this]
      exact Nat.le_trans (Nat.mul_le_mul_right s q) hgs
    have h2 : (2 ^ s - 1) * 2 ^ (hcv g s c * s) ≤ 2 ^ s * 2 ^ (hcv g s c * s) := Nat.mul_le_mul_right _ (Nat.sub_le _ _)
    rw [← Nat.pow_add] at h2
    exact Nat.lt_of_le_of_lt h2 (Nat.pow_lt_pow_right (by decide) (by omega))
  · exact Nat.lt_of_le_of_lt (Nat.sub_le _ _) (Nat.pow_lt_pow_right (by decide) (by omega))
theorem and_bit {P M c : Nat} (h : P &&& M = 0) (hb : bit P c) : ¬ bit M c := by
  rw [bit_tb] at hb ⊢
  intro q
  have h1 : (P &&& M).testBit c = true := by rw [Nat.testBit_and, hb, q]; rfl
  rw [h, Nat.zero_testBit] at h1
  cases h1
theorem src_bit {n M c : Nat} (hc : c < 32) : bit (Src3 n M) c ↔ c < n ∧ ¬ bit M c := by
  rw [bit_tb, bit_tb]
  unfold Src3
  rw [Nat.testBit_and, Nat.testBit_two_pow_sub_one, Nat.testBit_xor, tb_m1 c hc]
  simp
theorem Src3_lt {n M : Nat} (hn : n ≤ 20) : Src3 n M < 2 ^ 31 := by
  have := p20 hn
  exact Nat.lt_of_le_of_lt Nat.and_le_left (by omega)
section PL
variable {E : AEnv} {d : Nat} {h : List va_E} {b : Nat} {σ : Rows} {g s T sh : Nat}
theorem c_solve {r : Nat} {src out : Int32} {cf lf : Nat → Int32} {U : Nat → Nat → Nat} {K : Nat → Nat} {v S : Nat → Nat} (hp : h[b]? = some (.inr (2, [.ref (b + 1), .int src, .int out]))) (hB : BsAt h (b + 1) r cf lf) (hr : r ≤ 6) (hok : BasOK U K r) (hrep : BsRep cf lf r U K) (hv : B6 v) (hS : B6 S) (hd : 2 ≤ d) : Calls E mX2_solve d 0 0 [.ref b, .int (nI (pq 6 v)), .int (nI (pq 6 S))] h (RI (fun x h' => h' = h.set b (.inr (2, [.ref (b + 1), .int src, .int (nI (gm (rst U K r S (ldv (rst U K r v))) (gv (rst U K r v (ldv (rst U K r v))))))])) ∧ (((∃ i, i < 6 ∧ rst U K r v i ≠ 0) ∧ (∀ i, i < 6 → gm (rst U K r v i) (gm (rst U K r S (ldv (rst U K r v))) (gv (rst U K r v (ldv (rst U K r v))))) = rst U K r S i) ∧ x = nI 3) ∨ (¬ ((∃ i, i < 6 ∧ rst U K r v i ≠ 0) ∧ (∀ i, i < 6 → gm (rst U K r v i) (gm (rst U K r S (ldv (rst U K r v))) (gv (rst U K r v (ldv (rst U K r v))))) = rst U K r S i)) ∧ x = (-4))))) := by
  refine Calls.of (ls := [some (.ref b), some (.int (nI (pq 6 v))), some (.int (nI (pq 6 S))), none, none, none]) (by decide +kernel) rfl (Nat.le_of_ble_eq_true rfl) (cat_ok rfl) ?_
  have hoB := rst_lt hok r (Nat.le_refl r) hv
  have hwB := rst_lt hok r (Nat.le_refl r) hS
  refine go_aload_0 (DX2_solve.at 0 rfl) ?_
  refine go_getfield (DX2_solve.at 1 rfl) fX2_12 hp rfl ?_
  refine go_iload_1 (DX2_solve.at 2 rfl) ?_
  refine go_cVx1 (DX2_solve.at 3 rfl) nX2_68 vX0_restOf (by omega) (c_restOf hB hr hok hrep hv (by omega)) hB.1 rfl (Nat.le_of_ble_eq_true rfl) ?_
  refine go_istore_3 (DX2_solve.at 4 rfl) ?_
  refine go_aload_0 (DX2_solve.at 5 rfl) ?_
  refine go_getfield (DX2_solve.at 6 rfl) fX2_12 hp rfl ?_
  refine go_iload_2 (DX2_solve.at 7 rfl) ?_
  refine go_cVx1 (DX2_solve.at 8 rfl) nX2_68 vX0_restOf (by omega) (c_restOf hB hr hok hrep hS (by omega)) hB.1 rfl (Nat.le_of_ble_eq_true rfl) ?_
  refine go_istore_4 (DX2_solve.at 9 rfl) ?_
  refine go_iload_3 (DX2_solve.at 10 rfl) ?_
  refine go_cSx1 (DX2_solve.at 11 rfl) nX2_71 vX5_leadOf (by omega) (c_leadOf hoB (by omega)) (Nat.le_of_ble_eq_true rfl) ?_
  refine go_istore_5 (DX2_solve.at 12 rfl) ?_
  refine go_aload_0 (DX2_solve.at 13 rfl) ?_
  refine go_iload_4 (DX2_solve.at 14 rfl) ?_
  refine go_iload_5 (DX2_solve.at 15 rfl) ?_
  refine go_cSx2 (DX2_solve.at 16 rfl) nX2_48 vX5_element (by omega) (c_element hwB (ldv_lt _)) (Nat.le_of_ble_eq_true rfl) ?_
  refine go_inverses (DX2_solve.at 17 rfl) zX2_74 ?_
  refine go_iload_3 (DX2_solve.at 18 rfl) ?_
  refine go_iload_5 (DX2_solve.at 19 rfl) ?_
  refine go_cSx2 (DX2_solve.at 20 rfl) nX2_48 vX5_element (by omega) (c_element hoB (ldv_lt _)) (Nat.le_of_ble_eq_true rfl) ?_
  refine go_cSx2 (DX2_solve.at 21 rfl) nX2_78 vX5_at (by omega) (c_at (Or.inr (Or.inr (Or.inl ⟨rfl, rfl, rfl⟩))) (hoB _ (ldv_lt _)) (by decide)) (Nat.le_of_ble_eq_true rfl) ?_
  rw [INV_gv (hoB _ (ldv_lt _))]
  rw [show nI (rst U K r S (ldv (rst U K r v))) = nI (pq 6 (sgl (rst U K r S (ldv (rst U K r v))) 0)) from congrArg nI (by rw [← pq_sgl _ (by decide)]; simp)]
  refine go_cSx2 (DX2_solve.at 22 rfl) nX2_82 vX5_scaled (by omega) (c_scaled (fun i _ => sgl_lt (hwB _ (ldv_lt _)) i) (gv_lt (hoB _ (ldv_lt _)))) (Nat.le_of_ble_eq_true rfl) ?_
  rw [show nI (pq 6 (fun i => gm (sgl (rst U K r S (ldv (rst U K r v))) 0 i) (gv (rst U K r v (ldv (rst U K r v)))))) = nI (gm (rst U K r S (ldv (rst U K r v))) (gv (rst U K r v (ldv (rst U K r v))))) from congrArg nI (by
    rw [pq_congr (v := sgl (gm (rst U K r S (ldv (rst U K r v))) (gv (rst U K r v (ldv (rst U K r v))))) 0) (fun i _ => by
      unfold sgl
      split
      · rfl
      · exact gm_0l (gv_lt (hoB _ (ldv_lt _)))), ← pq_sgl _ (by decide)]
    simp)]
  refine go_putfield (DX2_solve.at 23 rfl) fX2_22 rfl rfl hp (Nat.le_of_ble_eq_true rfl) (fun w hw => by subst hw; exact ⟨rfl, rfl⟩) ?_
  have g48 : (h.set b (.inr (2, [.ref (b + 1), .int src, .int (nI (gm (rst U K r S (ldv (rst U K r v))) (gv (rst U K r v (ldv (rst U K r v))))))])))[b]? = some (.inr (2, [.ref (b + 1), .int src, .int (nI (gm (rst U K r S (ldv (rst U K r v))) (gv (rst U K r v (ldv (rst U K r v))))))])) := get_set hp
  refine go_iload_3 (DX2_solve.at 24 rfl) ?_
  refine go_if_eq 72 (DX2_solve.at 25 rfl) (by decide) (fun c52 => ?_) (fun c52 => ?_)
  · rw [pq_eq0 hoB] at c52
    refine go_bipush (v := (-4)) (DX2_solve.at 34 rfl) (by decide) ?_
    exact go_iret (DX2_solve.at 35 rfl) rfl rfl (RI.mk ⟨rfl, by first | exact Or.inl ⟨hex, hyes, rfl⟩ | exact Or.inr ⟨fun q => hno q.2, rfl⟩ | exact Or.inr ⟨fun q => by obtain ⟨⟨i, hi, hw⟩, -⟩ := q; exact hw (c52 i hi), rfl⟩⟩)
  · rw [pq_eq0 hoB] at c52
    have hex : ∃ i, i < 6 ∧ rst U K r v i ≠ 0 := by
      apply Classical.byContradiction
      intro hno
      exact c52 (fun i hi => Classical.byContradiction fun q => hno ⟨i, hi, q⟩)
    refine go_iload_3 (DX2_solve.at 26 rfl) ?_
    refine go_aload_0 (DX2_solve.at 27 rfl) ?_
    refine go_getfield (DX2_solve.at 28 rfl) fX2_22 g48 rfl ?_
    refine go_cSx2 (DX2_solve.at 29 rfl) nX2_82 vX5_scaled (by omega) (c_scaled hoB (gm_lt (hwB _ (ldv_lt _)) (gv_lt (hoB _ (ldv_lt _))))) (Nat.le_of_ble_eq_true rfl) ?_
    refine go_iload_4 (DX2_solve.at 30 rfl) ?_
    refine go_icmp_ne 72 (DX2_solve.at 31 rfl) (by decide) (fun c65 => ?_) (fun c65 => ?_)
    · have hno : ¬ ∀ i, i < 6 → gm (rst U K r v i) (gm (rst U K r S (ldv (rst U K r v))) (gv (rst U K r v (ldv (rst U K r v))))) = rst U K r S i := fun q => c65 (congrArg nI (pq_congr q))
      refine go_bipush (v := (-4)) (DX2_solve.at 34 rfl) (by decide) ?_
      exact go_iret (DX2_solve.at 35 rfl) rfl rfl (RI.mk ⟨rfl, by first | exact Or.inl ⟨hex, hyes, rfl⟩ | exact Or.inr ⟨fun q => hno q.2, rfl⟩ | exact Or.inr ⟨fun q => by obtain ⟨⟨i, hi, hw⟩, -⟩ := q; exact hw (c52 i hi), rfl⟩⟩)
    · have hyes : ∀ i, i < 6 → gm (rst U K r v i) (gm (rst U K r S (ldv (rst U K r v))) (gv (rst U K r v (ldv (rst U K r v))))) = rst U K r S i := pq_inj (fun i hi => gm_lt (hoB i hi) (gm_lt (hwB _ (ldv_lt _)) (gv_lt (hoB _ (ldv_lt _))))) hwB ((nI_eq (by have := pq_lt24 (v := fun i => gm (rst U K r v i) (gm (rst U K r S (ldv (rst U K r v))) (gv (rst U K r v (ldv (rst U K r v)))))) (fun i hi => gm_lt (hoB i hi) (gm_lt (hwB _ (ldv_lt _)) (gv_lt (hoB _ (ldv_lt _))))); omega) (by have := pq_lt24 hwB; omega)).mp c65)
      refine go_iconst (v := nI 3) (DX2_solve.at 32 rfl) (by decide) ?_
      refine go_goto 74 (DX2_solve.at 33 rfl) (by decide) ?_
      exact go_iret (DX2_solve.at 35 rfl) rfl rfl (RI.mk ⟨rfl, by first | exact Or.inl ⟨hex, hyes, rfl⟩ | exact Or.inr ⟨fun q => hno q.2, rfl⟩ | exact Or.inr ⟨fun q => by obtain ⟨⟨i, hi, hw⟩, -⟩ := q; exact hw (c52 i hi), rfl⟩⟩)

theorem not_nI (a : Nat) : nI a ^^^ (-1) = nI (a ^^^ 4294967295) := by rw [m1_nI, nx_xor]
theorem BsAt.set0 {h : List va_E} {b r : Nat} {cf lf : Nat → Int32} {e : va_E} (hB : BsAt h (b + 1) r cf lf) : BsAt (h.set b e) (b + 1) r cf lf := hB.keep (Only.set (lo := b) (hi := b + 1) (by omega) (by omega)) (by omega)
theorem BsAt.set2 {h : List va_E} {b r : Nat} {cf lf : Nat → Int32} {e e' : va_E} (hB : BsAt h (b + 1) r cf lf) : BsAt ((h.set b e).set b e') (b + 1) r cf lf := hB.set0.set0
theorem c_make {a r0 : Nat} {src0 out0 x y : Int32} {cf0 lf0 : Nat → Int32} {C : Nat → Nat → Nat} {V : Nat → Nat → Nat} {Mx : Nat → Nat} (hp : h[b]? = some (.inr (2, [.ref (b + 1), .int src0, .int out0]))) (hB0 : BsAt h (b + 1) r0 cf0 lf0) (hS : StAt h a σ) (hL : LayX σ g s T sh) (hC : ColX σ (nc g s) C) (hM : ∀ t, t < T → σ 3 t = nI (Mx t) ∧ Mx t < 2 ^ 20) (hV : ∀ t, t < T → ∀ c, c < nc g s → ¬ bit (Mx t) c → σ 2 (t * 20 + c) = nI (V t c) ∧ V t c < 16) (hab : a + 6 ≤ b ∨ b + 4 ≤ a) (hd : 4 ≤ d) : Calls E mX2_make d 0 0 [.ref b, .ref a, .int x, .int y] h (RI (fun r h' => Only b (b + 4) h h' ∧ ∃ src out, PlIs h' b src out ∧ ((¬ (inR x T ∧ inR y (nc g s)) ∧ r = (-1)) ∨ ∃ t c, t < T ∧ c < nc g s ∧ x = nI t ∧ y = nI c ∧ ((¬ bit (Mx t) c ∧ r = (-5)) ∨ (bit (Mx t) c ∧ ((∃ w sc X, WayX C (V t) g s (Mx t) c w sc X ∧ r = nI w ∧ src = nI sc ∧ out = nI X) ∨ (NoWay C (V t) g s (Mx t) c ∧ r = (-4)))))))) := by
  refine Calls.of (ls := [some (.ref b), some (.ref a), some (.int x), some (.int y), none, none, none]) (by decide +kernel) rfl (Nat.le_of_ble_eq_true rfl) (cat_ok rfl) ?_
  have hn := hL.2.2.2.2.nc
  refine go_aload_1 (DX2_make.at 0 rfl) ?_
  refine go_iload_2 (DX2_make.at 1 rfl) ?_
  refine go_iload_3 (DX2_make.at 2 rfl) ?_
  refine go_cVx2 (DX2_make.at 3 rfl) nX2_25 vX4_hasCell (by omega) (c_hasCell hS hL (by omega)) hS.1 rfl (Nat.le_of_ble_eq_true rfl) ?_
  refine go_if_ne 11 (DX2_make.at 4 rfl) (by decide) (fun c6 => ?_) (fun c6 => ?_)
  · rw [bP_eq0, Classical.not_not] at c6
    obtain ⟨t, ht, rfl⟩ := inR_ex (by have := hL.2.2.2.2.2.2.2.2.2.2.1; omega) c6.1
    obtain ⟨c, hc, rfl⟩ := inR_ex (by omega) c6.2
    have ht8 : t < 8 := by have := hL.2.2.2.2.2.2.2.2.2.2.1; omega
    have hc20 : c < 20 := by omega
    have hM31 : Mx t < 2 ^ 31 := by have := (hM t ht).2; omega
    refine go_aload_1 (DX2_make.at 7 rfl) ?_
    refine go_iload_2 (DX2_make.at 8 rfl) ?_
    refine go_iload_3 (DX2_make.at 9 rfl) ?_
    refine go_cVx2 (DX2_make.at 10 rfl) nX2_31 vX4_isMissing (by omega) (c_isMissing hS ht8 hc20 (hM t ht).1 hM31 (by omega)) hS.1 rfl (Nat.le_of_ble_eq_true rfl) ?_
    refine go_if_ne 23 (DX2_make.at 11 rfl) (by decide) (fun c17 => ?_) (fun c17 => ?_)
    · rw [bP_eq0, Classical.not_not] at c17
      refine go_aload_1 (DX2_make.at 14 rfl) ?_
      refine go_iload_2 (DX2_make.at 15 rfl) ?_
      refine go_cVx1 (DX2_make.at 16 rfl) nX2_34 vX4_missingIn (by omega) (c_missingIn hS ht8 (by omega)) hS.1 rfl (Nat.le_of_ble_eq_true rfl) ?_
      rw [(hM t ht).1]
      refine go_istore_4 (DX2_make.at 17 rfl) ?_
      refine go_aload_1 (DX2_make.at 18 rfl) ?_
      refine go_iload_3 (DX2_make.at 19 rfl) ?_
      refine go_cVx1 (DX2_make.at 20 rfl) nX2_38 vX4_partnersOf (by omega) (c_partnersOf hS hL hc (by omega)) hS.1 rfl (Nat.le_of_ble_eq_true rfl) ?_
      refine go_istore_5 (DX2_make.at 21 rfl) ?_
      refine go_iload_5 (DX2_make.at 22 rfl) ?_
      refine go_iload_4 (DX2_make.at 23 rfl) ?_
      refine go_iand (DX2_make.at 24 rfl) ?_
      rw [nx_and]
      refine go_if_ne 89 (DX2_make.at 25 rfl) (by decide) (fun c42 => ?_) (fun c42 => ?_)
      · rw [nI_eq0 (Nat.lt_of_le_of_lt Nat.and_le_left (pmv_lt hL.2.2.2.2 hc))] at c42
        refine go_aload_0 (DX2_make.at 49 rfl) ?_
        refine go_aload_1 (DX2_make.at 50 rfl) ?_
        refine go_cVx0 (DX2_make.at 51 rfl) nX2_54 vX4_allCells (by omega) (c_allCells hS hL (by omega)) hS.1 rfl (Nat.le_of_ble_eq_true rfl) ?_
        refine go_iload_4 (DX2_make.at 52 rfl) ?_
        refine go_iconst (v := (-1)) (DX2_make.at 53 rfl) (by decide) ?_
        refine go_ixor (DX2_make.at 54 rfl) ?_
        rw [not_nI]
        refine go_iand (DX2_make.at 55 rfl) ?_
        rw [nx_and]
        refine go_putfield (DX2_make.at 56 rfl) fX2_18 rfl rfl hp (Nat.le_of_ble_eq_true rfl) (fun w hw => by subst hw; exact ⟨rfl, rfl⟩) ?_
        have g99 : (h.set b (.inr (2, [.ref (b + 1), .int (nI (Src3 (nc g s) (Mx t))), .int out0])))[b]? = some (.inr (2, [.ref (b + 1), .int (nI (Src3 (nc g s) (Mx t))), .int out0])) := get_set hp
        have o99 : Only b (b + 1) h (h.set b (.inr (2, [.ref (b + 1), .int (nI (Src3 (nc g s) (Mx t))), .int out0]))) := Only.set (by omega) (by omega)
        have s99 := hS.keep o99 (by omega)
        have hB99 := hB0.keep o99 (by omega)
        show Go E mX2_make d 0 0 102 _ _ (h.set b (.inr (2, [.ref (b + 1), .int (nI (Src3 (nc g s) (Mx t))), .int out0]))) _
        refine go_aload_0 (DX2_make.at 57 rfl) ?_
        refine go_getfield (DX2_make.at 58 rfl) fX2_12 g99 rfl ?_
        refine go_aload_1 (DX2_make.at 59 rfl) ?_
        refine go_iload_4 (DX2_make.at 60 rfl) ?_
        refine go_iconst (v := nI 1) (DX2_make.at 61 rfl) (by decide) ?_
        refine go_iload_3 (DX2_make.at 62 rfl) ?_
        refine go_ishl (DX2_make.at 63 rfl) ?_
        rw [nx_shlW _ (by omega), Nat.one_mul]
        refine go_iconst (v := (-1)) (DX2_make.at 64 rfl) (by decide) ?_
        refine go_ixor (DX2_make.at 65 rfl) ?_
        rw [not_nI]
        refine go_iand (DX2_make.at 66 rfl) ?_
        rw [nx_and]
        refine go_cVv2 (DX2_make.at 67 rfl) nX2_58 vX0_span (by omega) (c_span hB99 s99 hL hC (Nat.lt_of_le_of_lt clr_le hM31) (by omega) (by omega)) hB99.1 rfl (Nat.le_of_ble_eq_true rfl) (fun h115 q115 => ?_)
        obtain ⟨o115, r1, U, K, cf1, lf1, hB115, hrep, hI⟩ := q115
        have s115 := s99.keep o115 (by omega)
        have g115 := o115.at (i := b) (by omega) g99
        have hSv : ∀ c1, c1 < nc g s → bit (Src3 (nc g s) (Mx t)) c1 → σ 2 (t * 20 + c1) = nI (V t c1) ∧ V t c1 < 16 := fun c1 h1 hb1 => hV t ht c1 h1 ((src_bit (by omega)).mp hb1).2
        have hS6 : B6 (vsum C (V t) (Src3 (nc g s) (Mx t)) (nc g s)) := vsum_lt (fun c1 h1 => (hC c1 h1).2) (fun c1 h1 hb1 => (hSv c1 h1 hb1).2) _ (Nat.le_refl _)
        refine go_aload_0 (DX2_make.at 68 rfl) ?_
        refine go_aload_1 (DX2_make.at 69 rfl) ?_
        refine go_iload_3 (DX2_make.at 70 rfl) ?_
        refine go_cVx1 (DX2_make.at 71 rfl) nX2_62 vX4_columnOf (by omega) (c_columnOf s115 hc20 (by omega)) s115.1 rfl (Nat.le_of_ble_eq_true rfl) ?_
        rw [(hC c hc).1]
        refine go_aload_1 (DX2_make.at 72 rfl) ?_
        refine go_iload_2 (DX2_make.at 73 rfl) ?_
        refine go_aload_0 (DX2_make.at 74 rfl) ?_
        refine go_getfield (DX2_make.at 75 rfl) fX2_18 g115 rfl ?_
        refine go_cVx2 (DX2_make.at 76 rfl) nX2_44 vX4_sumsOver (by omega) (c_sumsOver s115 hL hC ht8 (Src3_lt hn.2) hSv (by omega)) s115.1 rfl (Nat.le_of_ble_eq_true rfl) ?_
        refine go_cVi2 (DX2_make.at 77 rfl) nX2_65 vX2_solve (by omega) (c_solve g115 hB115 hI.1 hI.2.1 hrep (hC c hc).2 hS6 (by omega)) g115 rfl (Nat.le_of_ble_eq_true rfl) (fun x133 h133 q133 => ?_)
        exact go_iret (DX2_make.at 78 rfl) rfl rfl (by
            obtain ⟨rfl, q133⟩ := q133
            have sm := solve_math (C := C) hn.2 (fun c1 h1 => (hC c1 h1).2) hc c17 hI hS6
            refine RI.mk ⟨(o99.mono (Nat.le_refl b) (by omega)).trans ((o115.mono (by omega) (by omega)).trans (Only.set (by omega) (by omega))), _, _, ⟨get_set g115, r1, cf1, lf1, hB115.set0⟩, Or.inr ⟨t, c, ht, hc, rfl, rfl, Or.inr ⟨c17, ?_⟩⟩⟩
            have hgm : gm (rst U K r1 (vsum C (V t) (Src3 (nc g s) (Mx t)) (nc g s)) (ldv (rst U K r1 (C c)))) (gv (rst U K r1 (C c) (ldv (rst U K r1 (C c))))) < 16 := gm_lt (rst_lt hI.2.1 r1 (Nat.le_refl r1) hS6 _ (ldv_lt _)) (gv_lt (rst_lt hI.2.1 r1 (Nat.le_refl r1) (hC c hc).2 _ (ldv_lt _)))
            rcases q133 with ⟨he, ha, rfl⟩ | ⟨hno, rfl⟩
            · exact Or.inl ⟨3, _, _, Or.inr ⟨c42, ⟨(sm.2 he).1, (sm.2 he).2.1.mp ha⟩, rfl, rfl, hgm, (sm.2 he).2.2 ha⟩, rfl, rfl, rfl⟩
            · refine Or.inr ⟨⟨c42, fun hcan => ?_⟩, rfl⟩
              by_cases he : ∃ i, i < 6 ∧ rst U K r1 (C c) i ≠ 0
              · exact hno ⟨he, (sm.2 he).2.1.mpr hcan.2⟩
              · exact sm.1 (fun i hi => Classical.byContradiction fun q => he ⟨i, hi, q⟩) hcan.1)
      · rw [nI_eq0 (Nat.lt_of_le_of_lt Nat.and_le_left (pmv_lt hL.2.2.2.2 hc))] at c42
        have hh6 : hcv g s c < 6 := Nat.lt_of_lt_of_le (hcv_lt hL.2.2.2.2 hc) (by have := hL.2.2.2.2.2.1; omega)
        have hg4 : g ≤ 4 := hL.2.2.2.2.2.1
        refine go_aload_1 (DX2_make.at 26 rfl) ?_
        refine go_iload_3 (DX2_make.at 27 rfl) ?_
        refine go_cVx1 (DX2_make.at 28 rfl) nX2_41 vX4_homeCheck (by omega) (c_homeC hS hL hc (by omega)) hS.1 rfl (Nat.le_of_ble_eq_true rfl) ?_
        refine go_istore_6 (DX2_make.at 29 rfl) ?_
        refine go_aload_0 (DX2_make.at 30 rfl) ?_
        refine go_iload_5 (DX2_make.at 31 rfl) ?_
        refine go_putfield (DX2_make.at 32 rfl) fX2_18 rfl rfl hp (Nat.le_of_ble_eq_true rfl) (fun w hw => by subst hw; exact ⟨rfl, rfl⟩) ?_
        have g55 : (h.set b (.inr (2, [.ref (b + 1), .int (nI (pmv g s c)), .int out0])))[b]? = some (.inr (2, [.ref (b + 1), .int (nI (pmv g s c)), .int out0])) := get_set hp
        have o55 : Only b (b + 4) h (h.set b (.inr (2, [.ref (b + 1), .int (nI (pmv g s c)), .int out0]))) := Only.set (by omega) (by omega)
        have s55 := hS.keep o55 (by omega)
        refine go_aload_0 (DX2_make.at 33 rfl) ?_
        refine go_aload_1 (DX2_make.at 34 rfl) ?_
        refine go_iload_2 (DX2_make.at 35 rfl) ?_
        refine go_iload_5 (DX2_make.at 36 rfl) ?_
        refine go_cVx2 (DX2_make.at 37 rfl) nX2_44 vX4_sumsOver (by omega) (c_sumsOver s55 hL hC ht8 (pmv_lt hL.2.2.2.2 hc) (fun c1 h1 hb1 => hV t ht c1 h1 (and_bit c42 hb1)) (by omega)) s55.1 rfl (Nat.le_of_ble_eq_true rfl) ?_
        refine go_iload_6 (DX2_make.at 38 rfl) ?_
        refine go_cSx2 (DX2_make.at 39 rfl) nX2_48 vX5_element (by omega) (c_element (vsum_lt (fun c1 h1 => (hC c1 h1).2) (fun c1 h1 hb1 => (hV t ht c1 h1 (and_bit c42 hb1)).2) _ (Nat.le_refl _)) hh6) (Nat.le_of_ble_eq_true rfl) ?_
        refine go_putfield (DX2_make.at 40 rfl) fX2_22 rfl rfl g55 (Nat.le_of_ble_eq_true rfl) (fun w hw => by subst hw; exact ⟨rfl, rfl⟩) ?_
        have o71 := o55.trans (Only.set (h := h.set b (.inr (2, [.ref (b + 1), .int (nI (pmv g s c)), .int out0]))) (a := b) (e := .inr (2, [.ref (b + 1), .int (nI (pmv g s c)), .int (nI (vsum C (V t) (pmv g s c) (nc g s) (hcv g s c)))])) (lo := b) (hi := b + 4) (by omega) (by omega))
        have s71 := hS.keep o71 (by omega)
        have g71 : PlIs _ b (nI (pmv g s c)) (nI (vsum C (V t) (pmv g s c) (nc g s) (hcv g s c))) := ⟨get_set g55, r0, cf0, lf0, hB0.set2⟩
        refine go_iload_6 (DX2_make.at 41 rfl) ?_
        refine go_aload_1 (DX2_make.at 42 rfl) ?_
        refine go_getfield (DX2_make.at 43 rfl) fX2_51 s71.1 rfl ?_
        rw [hL.1]
        refine go_icmp_ge 87 (DX2_make.at 44 rfl) (by decide) (fun c80 => ?_) (fun c80 => ?_)
        · rw [nI_leI (by omega) (by omega)] at c80
          have e80 : (if hcv g s c < g then 1 else 2) = 2 := if_neg (by omega)
          refine go_iconst (v := nI 2) (DX2_make.at 47 rfl) (by decide) ?_
          exact go_iret (DX2_make.at 48 rfl) rfl rfl (RI.mk ⟨o71, _, _, g71, Or.inr ⟨t, c, ht, hc, rfl, rfl, Or.inr ⟨c17, Or.inl ⟨_, _, _, Or.inl ⟨c42, rfl, rfl, rfl⟩, by rw [e80], rfl, rfl⟩⟩⟩⟩)
        · rw [nI_leI (by omega) (by omega)] at c80
          have e80 : (if hcv g s c < g then 1 else 2) = 1 := if_pos (by omega)
          refine go_iconst (v := nI 1) (DX2_make.at 45 rfl) (by decide) ?_
          refine go_goto 88 (DX2_make.at 46 rfl) (by decide) ?_
          exact go_iret (DX2_make.at 48 rfl) rfl rfl (RI.mk ⟨o71, _, _, g71, Or.inr ⟨t, c, ht, hc, rfl, rfl, Or.inr ⟨c17, Or.inl ⟨_, _, _, Or.inl ⟨c42, rfl, rfl, rfl⟩, by rw [e80], rfl, rfl⟩⟩⟩⟩)
    · rw [bP_eq0] at c17
      refine go_bipush (v := (-5)) (DX2_make.at 12 rfl) (by decide) ?_
      exact go_iret (DX2_make.at 13 rfl) rfl rfl (RI.mk ⟨Only.rf, src0, out0, ⟨hp, r0, cf0, lf0, hB0⟩, Or.inr ⟨t, c, ht, hc, rfl, rfl, Or.inl ⟨c17, rfl⟩⟩⟩)
  · rw [bP_eq0] at c6
    refine go_iconst (v := (-1)) (DX2_make.at 5 rfl) (by decide) ?_
    exact go_iret (DX2_make.at 6 rfl) rfl rfl (RI.mk ⟨Only.rf, src0, out0, ⟨hp, r0, cf0, lf0, hB0⟩, Or.inl ⟨c6, rfl⟩⟩)

end PL
