/-! THE SEARCH FOR FATAL SETS -/
/-- a Search at b: how many cells are wanted, sets found, the least nodes, its rows -/
def SeIs (h : List va_E) (b w fd ls : Nat) (rf : Nat → Int32) : Prop := h[b]? = some (.inr (3, [.ref (b + 1), .int (nI w), .int (nI fd), .int (nI ls)])) ∧ h[b + 1]? = some (ar 80 rf)
theorem SeIs.keep {h h1 : List va_E} {b lo hi w fd ls : Nat} {rf : Nat → Int32} (hB : SeIs h b w fd ls rf) (hO : Only lo hi h h1) (hd : b + 2 ≤ lo ∨ hi ≤ b) : SeIs h1 b w fd ls rf := ⟨hO.at (by omega) hB.1, hO.at (by omega) hB.2⟩
theorem SeIs.obj {h : List va_E} {b w fd ls w' fd' ls' : Nat} {rf : Nat → Int32} (hB : SeIs h b w fd ls rf) : SeIs (h.set b (.inr (3, [.ref (b + 1), .int (nI w'), .int (nI fd'), .int (nI ls')]))) b w' fd' ls' rf ∧ Only b (b + 2) h (h.set b (.inr (3, [.ref (b + 1), .int (nI w'), .int (nI fd'), .int (nI ls')]))) :=
  ⟨⟨get_set hB.1, by rw [List.getElem?_set_ne (by omega)]; exact hB.2⟩, Only.set (by omega) (by omega)⟩
theorem SeIs.row {h : List va_E} {b w fd ls : Nat} {rf : Nat → Int32} (hB : SeIs h b w fd ls rf) (f : Nat → Int32) : SeIs (h.set (b + 1) (ar 80 f)) b w fd ls f ∧ Only b (b + 2) h (h.set (b + 1) (ar 80 f)) :=
  ⟨⟨by rw [List.getElem?_set_ne (by omega)]; exact hB.1, get_set hB.2⟩, Only.set (by omega) (by omega)⟩
/-- the least of what was and of f 0 .. f (t - 1); 0 is none yet -/
def nt1 (f : Nat → Nat) : Nat → Nat → Nat
  | 0, ls => ls
  | t + 1, ls => if nt1 f t ls = 0 ∨ f t < nt1 f t ls then f t else nt1 f t ls
theorem nt1_lt {f : Nat → Nat} {B : Nat} (hf : ∀ t, f t < B) : ∀ t {ls}, ls < B → nt1 f t ls < B
  | 0, _, h => h
  | t + 1, _, h => by
    unfold nt1
    split
    · exact hf t
    · exact nt1_lt hf t h
theorem ndv_lt {g s sh t A : Nat} (hn : nc g s ≤ 20) : ndv g s sh t A < 2 ^ 20 := by
  have h1 : ndv g s sh t A ≤ 2 ^ nc g s - 1 := Nat.and_le_right
  have h2 := p20 hn
  have h3 : 0 < 2 ^ nc g s := Nat.two_pow_pos _
  omega
noncomputable def depB (C : Nat → Nat → Nat) (n A : Nat) : Bool := @decide (¬ IndP C A n) (Classical.propDecidable _)
theorem depB_t {C : Nat → Nat → Nat} {n A : Nat} (h : ¬ IndP C A n) : depB C n A = true := @decide_eq_true _ (Classical.propDecidable _) h
theorem depB_f {C : Nat → Nat → Nat} {n A : Nat} (h : IndP C A n) : depB C n A = false := @decide_eq_false _ (Classical.propDecidable _) (fun q => q h)
noncomputable def ntF (C : Nat → Nat → Nat) (g s sh T : Nat) (p : Nat × Nat) (A : Nat) : Nat × Nat := if depB C (nc g s) A then (p.1 + 1, nt1 (fun t => ndv g s sh t A) T p.2) else p
/-- all sets of k more cells from n - m on, beside M -/
def dl (n : Nat) : Nat → Nat → Nat → List Nat
  | 0, k, M => if k = 0 then [M] else []
  | m + 1, k, M => if k = 0 then [M] else dl n m (k - 1) (M ||| 2 ^ (n - m - 1)) ++ dl n m k M
section SE
variable {E : AEnv} {d : Nat} {h : List va_E} {b : Nat} {σ : Rows} {g s T sh : Nat}
theorem c_note {a A w fd ls : Nat} {rf : Nat → Int32} (hN : SeIs h b w fd ls rf) (hS : StAt h a σ) (hL : LayX σ g s T sh) (hA : A < 2 ^ 20) (hls : ls < 2 ^ 20) (hab : a + 6 ≤ b ∨ b + 2 ≤ a) (hd : 3 ≤ d) : Calls E mX3_note d 0 0 [.ref b, .ref a, .int (nI A)] h (RV (fun h' => Only b (b + 2) h h' ∧ SeIs h' b w (fd + 1) (nt1 (fun t => ndv g s sh t A) T ls) rf)) := by
  refine Calls.of (ls := [some (.ref b), some (.ref a), some (.int (nI A)), none, none]) (by decide +kernel) rfl (Nat.le_of_ble_eq_true rfl) (cat_ok rfl) ?_
  have hn := hL.2.2.2.2.nc
  have loop : ∀ (m j : Nat) (h1 : List va_E) (x4 : Option Value), j + m = T → Only b (b + 2) h h1 → SeIs h1 b w (fd + 1) (nt1 (fun t => ndv g s sh t A) j ls) rf → Go E mX3_note d 0 0 12 [some (.ref b), some (.ref a), some (.int (nI A)), some (.int (nI j)), x4] [] h1 (RV (fun h' => Only b (b + 2) h h' ∧ SeIs h' b w (fd + 1) (nt1 (fun t => ndv g s sh t A) T ls) rf)) := by
    intro m
    induction m with
    | zero =>
      intro j h1 x4 hj hO hN1
      have hS1 := hS.keep hO (by omega)
      have ej : j = T := by omega
      subst ej
      refine go_iload_3 (DX3_note.at 8 rfl) ?_
      refine go_aload_1 (DX3_note.at 9 rfl) ?_
      refine go_getfield (DX3_note.at 10 rfl) fX3_73 hS1.1 rfl ?_
      rw [hL.2.2.1]
      refine go_icmp_ge 56 (DX3_note.at 11 rfl) (by decide) (fun c17 => ?_) (fun c17 => absurd (Int32.le_refl _) c17)
      exact go_return (DX3_note.at 29 rfl) rfl (RV.mk ⟨hO, hN1⟩)
    | succ m ih =>
      intro j h1 x4 hj hO hN1
      have hS1 := hS.keep hO (by omega)
      have hl1 := nt1_lt (f := fun t => ndv g s sh t A) (B := 2 ^ 20) (fun t => ndv_lt hn.2) j hls
      have hl2 := ndv_lt (g := g) (s := s) (sh := sh) (t := j) (A := A) hn.2
      refine go_iload_3 (DX3_note.at 8 rfl) ?_
      refine go_aload_1 (DX3_note.at 9 rfl) ?_
      refine go_getfield (DX3_note.at 10 rfl) fX3_73 hS1.1 rfl ?_
      rw [hL.2.2.1]
      refine go_icmp_ge 56 (DX3_note.at 11 rfl) (by decide) (fun c17 => absurd c17 (nI_ge (a := j) (b := T) (by omega) (by have := hL.2.2.2.2.2.2.2.2.2.2.1; omega))) (fun c17 => ?_)
      refine go_aload_1 (DX3_note.at 12 rfl) ?_
      refine go_iload_3 (DX3_note.at 13 rfl) ?_
      refine go_iload_2 (DX3_note.at 14 rfl) ?_
      refine go_cVx2 (DX3_note.at 15 rfl) nX3_76 vX4_nodesOf (by omega) (c_nodesOf hS1 hL (show j < 8 from (by have := hL.2.2.2.2.2.2.2.2.2.2.1; omega)) hA (by omega)) hS1.1 rfl (Nat.le_of_ble_eq_true rfl) ?_
      refine go_istore_4 (DX3_note.at 16 rfl) ?_
      refine go_aload_0 (DX3_note.at 17 rfl) ?_
      refine go_getfield (DX3_note.at 18 rfl) fX3_22 hN1.1 rfl ?_
      refine go_if_eq 44 (DX3_note.at 19 rfl) (by decide) (fun c32 => ?_) (fun c32 => ?_)
      · rw [nI_eq0 (by omega)] at c32
        have est : nt1 (fun t => ndv g s sh t A) (j + 1) ls = ndv g s sh j A := by rw [nt1, if_pos (Or.inl c32)]
        refine go_aload_0 (DX3_note.at 24 rfl) ?_
        refine go_iload_4 (DX3_note.at 25 rfl) ?_
        refine go_putfield (DX3_note.at 26 rfl) fX3_22 rfl rfl hN1.1 (Nat.le_of_ble_eq_true rfl) (fun w hw => by subst hw; exact ⟨rfl, rfl⟩) ?_
        have n47 := hN1.obj (w' := w) (fd' := fd + 1) (ls' := ndv g s sh j A)
        rw [← est] at n47
        show Go E mX3_note d 0 0 50 _ _ (h1.set b (.inr (3, [.ref (b + 1), .int (nI w), .int (nI (fd + 1)), .int (nI (ndv g s sh j A))]))) _
        rw [← est]
        refine go_iincN_3 (DX3_note.at 27 rfl) ?_
        refine go_goto 12 (DX3_note.at 28 rfl) (by decide) ?_
        exact ih (j + 1) _ _ (by omega) (hO.trans n47.2) n47.1
      · rw [nI_eq0 (by omega)] at c32
        refine go_iload_4 (DX3_note.at 20 rfl) ?_
        refine go_aload_0 (DX3_note.at 21 rfl) ?_
        refine go_getfield (DX3_note.at 22 rfl) fX3_22 hN1.1 rfl ?_
        refine go_icmp_ge 50 (DX3_note.at 23 rfl) (by decide) (fun c41 => ?_) (fun c41 => ?_)
        · rw [nI_leI (by omega) (by omega)] at c41
          have est : nt1 (fun t => ndv g s sh t A) (j + 1) ls = nt1 (fun t => ndv g s sh t A) j ls := by rw [nt1, if_neg (by omega)]
          rw [← est] at hN1
          refine go_iincN_3 (DX3_note.at 27 rfl) ?_
          refine go_goto 12 (DX3_note.at 28 rfl) (by decide) ?_
          exact ih (j + 1) _ _ (by omega) hO hN1
        · rw [nI_leI (by omega) (by omega)] at c41
          have est : nt1 (fun t => ndv g s sh t A) (j + 1) ls = ndv g s sh j A := by rw [nt1, if_pos (by omega)]
          refine go_aload_0 (DX3_note.at 24 rfl) ?_
          refine go_iload_4 (DX3_note.at 25 rfl) ?_
          refine go_putfield (DX3_note.at 26 rfl) fX3_22 rfl rfl hN1.1 (Nat.le_of_ble_eq_true rfl) (fun w hw => by subst hw; exact ⟨rfl, rfl⟩) ?_
          have n47 := hN1.obj (w' := w) (fd' := fd + 1) (ls' := ndv g s sh j A)
          rw [← est] at n47
          show Go E mX3_note d 0 0 50 _ _ (h1.set b (.inr (3, [.ref (b + 1), .int (nI w), .int (nI (fd + 1)), .int (nI (ndv g s sh j A))]))) _
          rw [← est]
          refine go_iincN_3 (DX3_note.at 27 rfl) ?_
          refine go_goto 12 (DX3_note.at 28 rfl) (by decide) ?_
          exact ih (j + 1) _ _ (by omega) (hO.trans n47.2) n47.1
  refine go_aload_0 (DX3_note.at 0 rfl) ?_
  refine go_dup (DX3_note.at 1 rfl) rfl ?_
  refine go_getfield (DX3_note.at 2 rfl) fX3_19 hN.1 rfl ?_
  refine go_iconst (v := nI 1) (DX3_note.at 3 rfl) (by decide) ?_
  refine go_iadd (DX3_note.at 4 rfl) ?_
  rw [nI_add]
  refine go_putfield (DX3_note.at 5 rfl) fX3_19 rfl rfl hN.1 (Nat.le_of_ble_eq_true rfl) (fun w hw => by subst hw; exact ⟨rfl, rfl⟩) ?_
  have n7 := hN.obj (w' := w) (fd' := fd + 1) (ls' := ls)
  refine go_iconst (v := nI 0) (DX3_note.at 6 rfl) (by decide) ?_
  refine go_istore_3 (DX3_note.at 7 rfl) ?_
  exact loop T 0 _ _ (by omega) n7.2 n7.1

theorem c_takeOut {L fr n w fd ls : Nat} {rf : Nat → Int32} {v : Nat → Nat} {R : Nat → Nat → Nat} (hN : SeIs h b w fd ls rf) (hv : B6 v) (hLw : L ≤ 2) (hn : n ≤ 20) (hR : ∀ c, fr ≤ c → c < n → rf (L * 20 + c) = nI (pq 6 (R c)) ∧ B6 (R c)) (hfr : fr ≤ n) (hd : 2 ≤ d) : Calls E mX3_takeOut d 0 0 [.ref b, .int (nI (pq 6 v)), .int (nI L), .int (nI fr), .int (nI n)] h (RV (fun h' => Only b (b + 2) h h' ∧ ∃ rf', SeIs h' b w fd ls rf' ∧ (∀ j, j < (L + 1) * 20 → rf' j = rf j) ∧ ∀ c, fr ≤ c → c < n → rf' ((L + 1) * 20 + c) = nI (pq 6 (fun i => R c i ^^^ gm (gm (v i) (gv (v (ldv v)))) (R c (ldv v)))))) := by
  refine Calls.of (ls := [some (.ref b), some (.int (nI (pq 6 v))), some (.int (nI L)), some (.int (nI fr)), some (.int (nI n)), none, none, none, none, none]) (by decide +kernel) rfl (Nat.le_of_ble_eq_true rfl) (cat_ok rfl) ?_
  have loop : ∀ (m j : Nat) (h1 : List va_E) (rf1 : Nat → Int32) (x8 x9 : Option Value), j + m = n → fr ≤ j → Only b (b + 2) h h1 → SeIs h1 b w fd ls rf1 → (∀ k, k < (L + 1) * 20 → rf1 k = rf k) → (∀ c, fr ≤ c → c < j → rf1 ((L + 1) * 20 + c) = nI (pq 6 (fun i => R c i ^^^ gm (gm (v i) (gv (v (ldv v)))) (R c (ldv v))))) → Go E mX3_takeOut d 0 0 17 [some (.ref b), some (.int (nI (pq 6 v))), some (.int (nI L)), some (.int (nI fr)), some (.int (nI n)), some (.int (nI (ldv v))), some (.int (nI (pq 6 (fun i => gm (v i) (gv (v (ldv v))))))), some (.int (nI j)), x8, x9] [] h1 (RV (fun h' => Only b (b + 2) h h' ∧ ∃ rf', SeIs h' b w fd ls rf' ∧ (∀ j, j < (L + 1) * 20 → rf' j = rf j) ∧ ∀ c, fr ≤ c → c < n → rf' ((L + 1) * 20 + c) = nI (pq 6 (fun i => R c i ^^^ gm (gm (v i) (gv (v (ldv v)))) (R c (ldv v)))))) := by
    intro m
    induction m with
    | zero =>
      intro j h1 rf1 x8 x9 hj hfj hO hN1 hlo hhi
      refine go_iload_7 (DX3_takeOut.at 9 rfl) ?_
      refine go_iload_4 (DX3_takeOut.at 10 rfl) ?_
      refine go_icmp_ge 90 (DX3_takeOut.at 11 rfl) (by decide) (fun c21 => ?_) (fun c21 => absurd (nI_le (a := n) (b := j) (by omega) (by omega)) c21)
      exact go_return (DX3_takeOut.at 46 rfl) rfl (RV.mk ⟨hO, rf1, hN1, hlo, fun c h1c h2c => hhi c h1c (by omega)⟩)
    | succ m ih =>
      intro j h1 rf1 x8 x9 hj hfj hO hN1 hlo hhi
      refine go_iload_7 (DX3_takeOut.at 9 rfl) ?_
      refine go_iload_4 (DX3_takeOut.at 10 rfl) ?_
      refine go_icmp_ge 90 (DX3_takeOut.at 11 rfl) (by decide) (fun c21 => absurd c21 (nI_ge (a := j) (b := n) (by omega) (by omega))) (fun c21 => ?_)
      refine go_aload_0 (DX3_takeOut.at 12 rfl) ?_
      refine go_getfield (DX3_takeOut.at 13 rfl) fX3_9 hN1.1 rfl ?_
      refine go_iload_2 (DX3_takeOut.at 14 rfl) ?_
      refine go_bipush (v := nI 20) (DX3_takeOut.at 15 rfl) (by decide) ?_
      refine go_imul (DX3_takeOut.at 16 rfl) ?_
      rw [pk_mul]
      refine go_iload_7 (DX3_takeOut.at 17 rfl) ?_
      refine go_iadd (DX3_takeOut.at 18 rfl) ?_
      rw [nI_add]
      refine go_cSx2 (DX3_takeOut.at 19 rfl) nX3_53 vX5_at (by omega) (c_at (Or.inl hN1.2) (show L * 20 + j < 80 by omega) (by decide)) (Nat.le_of_ble_eq_true rfl) ?_
      rw [hlo (L * 20 + j) (by omega), (hR j (by omega) (by omega)).1]
      refine go_istore_8 (DX3_takeOut.at 20 rfl) ?_
      refine go_iload_8 (DX3_takeOut.at 21 rfl) ?_
      refine go_iload_5 (DX3_takeOut.at 22 rfl) ?_
      refine go_cSx2 (DX3_takeOut.at 23 rfl) nX3_67 vX5_element (by omega) (c_element (hR j (by omega) (by omega)).2 (ldv_lt v)) (Nat.le_of_ble_eq_true rfl) ?_
      refine go_istore_9 (DX3_takeOut.at 24 rfl) ?_
      refine go_iload_9 (DX3_takeOut.at 25 rfl) ?_
      refine go_if_eq 66 (DX3_takeOut.at 26 rfl) (by decide) (fun c51 => ?_) (fun c51 => ?_)
      · rw [nI_eq0 (by have := (hR j (by omega) (by omega)).2 _ (ldv_lt v); omega)] at c51
        have e2 : nI (pq 6 (R j)) = nI (pq 6 (fun i => R j i ^^^ gm (gm (v i) (gv (v (ldv v)))) (R j (ldv v)))) := congrArg nI (pq_congr (fun i hi => by rw [c51, gm_0 (gm_lt (hv i hi) (gv_lt (hv _ (ldv_lt v)))), Nat.xor_zero]))
        rw [e2]
        refine go_aload_0 (DX3_takeOut.at 33 rfl) ?_
        refine go_getfield (DX3_takeOut.at 34 rfl) fX3_9 hN1.1 rfl ?_
        refine go_iload_2 (DX3_takeOut.at 35 rfl) ?_
        refine go_iconst (v := nI 1) (DX3_takeOut.at 36 rfl) (by decide) ?_
        refine go_iadd (DX3_takeOut.at 37 rfl) ?_
        rw [nI_add]
        refine go_bipush (v := nI 20) (DX3_takeOut.at 38 rfl) (by decide) ?_
        refine go_imul (DX3_takeOut.at 39 rfl) ?_
        rw [pk_mul]
        refine go_iload_7 (DX3_takeOut.at 40 rfl) ?_
        refine go_iadd (DX3_takeOut.at 41 rfl) ?_
        rw [nI_add]
        refine go_iload_8 (DX3_takeOut.at 42 rfl) ?_
        refine go_cSv3 (DX3_takeOut.at 43 rfl) nX3_41 vX5_put (by omega) (c_put hN1.2 (show (L + 1) * 20 + j < 80 by omega) (by decide)) (Nat.le_of_ble_eq_true rfl) (fun h81 q81 => ?_)
        subst q81
        have n81 := hN1.row (upd rf1 ((L + 1) * 20 + j) (nI (pq 6 (fun i => R j i ^^^ gm (gm (v i) (gv (v (ldv v)))) (R j (ldv v))))))
        refine go_iincN_7 (DX3_takeOut.at 44 rfl) ?_
        refine go_goto 17 (DX3_takeOut.at 45 rfl) (by decide) ?_
        refine ih (j + 1) _ _ _ _ (by omega) (by omega) (hO.trans n81.2) n81.1 (fun k hk => ?_) (fun c h1c h2c => ?_)
        · rw [pk_un (by omega)]; exact hlo k hk
        · by_cases e : c = j
          · rw [e]; exact pk_us
          · rw [pk_un (by omega)]; exact hhi c h1c (by omega)
      · refine go_iload_8 (DX3_takeOut.at 27 rfl) ?_
        refine go_iload_6 (DX3_takeOut.at 28 rfl) ?_
        refine go_iload_9 (DX3_takeOut.at 29 rfl) ?_
        refine go_cSx2 (DX3_takeOut.at 30 rfl) nX3_70 vX5_scaled (by omega) (c_scaled (B6.gm hv (gv_lt (hv _ (ldv_lt v)))) ((hR j (by omega) (by omega)).2 _ (ldv_lt v))) (Nat.le_of_ble_eq_true rfl) ?_
        refine go_ixor (DX3_takeOut.at 31 rfl) ?_
        rw [nx_xor, pq_xor 6 _ _ (hR j (by omega) (by omega)).2 ((B6.gm hv (gv_lt (hv _ (ldv_lt v)))).gm ((hR j (by omega) (by omega)).2 _ (ldv_lt v)))]
        refine go_istore_8 (DX3_takeOut.at 32 rfl) ?_
        refine go_aload_0 (DX3_takeOut.at 33 rfl) ?_
        refine go_getfield (DX3_takeOut.at 34 rfl) fX3_9 hN1.1 rfl ?_
        refine go_iload_2 (DX3_takeOut.at 35 rfl) ?_
        refine go_iconst (v := nI 1) (DX3_takeOut.at 36 rfl) (by decide) ?_
        refine go_iadd (DX3_takeOut.at 37 rfl) ?_
        rw [nI_add]
        refine go_bipush (v := nI 20) (DX3_takeOut.at 38 rfl) (by decide) ?_
        refine go_imul (DX3_takeOut.at 39 rfl) ?_
        rw [pk_mul]
        refine go_iload_7 (DX3_takeOut.at 40 rfl) ?_
        refine go_iadd (DX3_takeOut.at 41 rfl) ?_
        rw [nI_add]
        refine go_iload_8 (DX3_takeOut.at 42 rfl) ?_
        refine go_cSv3 (DX3_takeOut.at 43 rfl) nX3_41 vX5_put (by omega) (c_put hN1.2 (show (L + 1) * 20 + j < 80 by omega) (by decide)) (Nat.le_of_ble_eq_true rfl) (fun h81 q81 => ?_)
        subst q81
        have n81 := hN1.row (upd rf1 ((L + 1) * 20 + j) (nI (pq 6 (fun i => R j i ^^^ gm (gm (v i) (gv (v (ldv v)))) (R j (ldv v))))))
        refine go_iincN_7 (DX3_takeOut.at 44 rfl) ?_
        refine go_goto 17 (DX3_takeOut.at 45 rfl) (by decide) ?_
        refine ih (j + 1) _ _ _ _ (by omega) (by omega) (hO.trans n81.2) n81.1 (fun k hk => ?_) (fun c h1c h2c => ?_)
        · rw [pk_un (by omega)]; exact hlo k hk
        · by_cases e : c = j
          · rw [e]; exact pk_us
          · rw [pk_un (by omega)]; exact hhi c h1c (by omega)
  refine go_iload_1 (DX3_takeOut.at 0 rfl) ?_
  refine go_cSx1 (DX3_takeOut.at 1 rfl) nX3_61 vX5_leadOf (by omega) (c_leadOf hv (by omega)) (Nat.le_of_ble_eq_true rfl) ?_
  refine go_istore_5 (DX3_takeOut.at 2 rfl) ?_
  refine go_iload_1 (DX3_takeOut.at 3 rfl) ?_
  refine go_iload_5 (DX3_takeOut.at 4 rfl) ?_
  refine go_cSx2 (DX3_takeOut.at 5 rfl) nX3_64 vX5_unitOf (by omega) (c_unitOf hv (ldv_lt v) (by omega)) (Nat.le_of_ble_eq_true rfl) ?_
  refine go_istore_6 (DX3_takeOut.at 6 rfl) ?_
  refine go_iload_3 (DX3_takeOut.at 7 rfl) ?_
  refine go_istore_7 (DX3_takeOut.at 8 rfl) ?_
  exact loop (n - fr) fr h rf _ _ (by omega) (Nat.le_refl _) Only.rf hN (fun _ _ => rfl) (fun c h1c h2c => absurd h1c (by omega))

end SE
