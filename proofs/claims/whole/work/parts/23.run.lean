/-! THE SEARCH'S RUN -/
section SE
variable {E : AEnv} {d : Nat} {h : List va_E} {b : Nat} {σ : Rows} {g s T sh : Nat}
theorem c_run {a w w0 fd0 ls0 : Nat} {rf : Nat → Int32} {C : Nat → Nat → Nat} (hN : SeIs h b w0 fd0 ls0 rf) (hS : StAt h a σ) (hL : LayX σ g s T sh) (hC : ColX σ (nc g s) C) (hw : w < 2 ^ 31) (hab : a + 6 ≤ b ∨ b + 2 ≤ a) (hd : 9 ≤ d) : Calls E mX3_run d 0 0 [.ref b, .ref a, .int (nI w)] h (RV (fun h' => Only b (b + 2) h h' ∧ ∃ rf', SeIs h' b (min w 4) (List.foldl (ntF C g s sh T) (0, 0) (dl (nc g s) (nc g s) (min w 4) 0)).1 (List.foldl (ntF C g s sh T) (0, 0) (dl (nc g s) (nc g s) (min w 4) 0)).2 rf')) := by
  refine Calls.of (ls := [some (.ref b), some (.ref a), some (.int (nI w)), none]) (by decide +kernel) rfl (Nat.le_of_ble_eq_true rfl) (cat_ok rfl) ?_
  have hn := hL.2.2.2.2.nc
  have loop : ∀ (m j : Nat) (h1 : List va_E) (rf1 : Nat → Int32), j + m = nc g s → Only b (b + 2) h h1 → SeIs h1 b (min w 4) 0 0 rf1 → (∀ c, c < j → rf1 c = nI (pq 6 (C c))) → Go E mX3_run d 0 0 21 [some (.ref b), some (.ref a), some (.int (nI w)), some (.int (nI j))] [] h1 (RV (fun h' => Only b (b + 2) h h' ∧ ∃ rf', SeIs h' b (min w 4) (List.foldl (ntF C g s sh T) (0, 0) (dl (nc g s) (nc g s) (min w 4) 0)).1 (List.foldl (ntF C g s sh T) (0, 0) (dl (nc g s) (nc g s) (min w 4) 0)).2 rf')) := by
    intro m
    induction m with
    | zero =>
      intro j h1 rf1 hj hO hN1 hr
      have hS1 := hS.keep hO (by omega)
      have ej : j = nc g s := by omega
      subst ej
      refine go_iload_3 (DX3_run.at 13 rfl) ?_
      refine go_aload_1 (DX3_run.at 14 rfl) ?_
      refine go_cVx0 (DX3_run.at 15 rfl) nX3_31 vX4_cellCount (by omega) (c_cellCount hS1 hL) hS1.1 rfl (Nat.le_of_ble_eq_true rfl) ?_
      refine go_icmp_ge 48 (DX3_run.at 16 rfl) (by decide) (fun c26 => ?_) (fun c26 => absurd (Int32.le_refl _) c26)
      refine go_aload_0 (DX3_run.at 26 rfl) ?_
      refine go_aload_1 (DX3_run.at 27 rfl) ?_
      refine go_iconst (v := nI 0) (DX3_run.at 28 rfl) (by decide) ?_
      refine go_iconst (v := nI 0) (DX3_run.at 29 rfl) (by decide) ?_
      refine go_iconst (v := nI 0) (DX3_run.at 30 rfl) (by decide) ?_
      refine go_iconst (v := nI 0) (DX3_run.at 31 rfl) (by decide) ?_
      refine go_cVv5 (DX3_run.at 32 rfl) nX3_45 vX3_choose (by omega) (c_choose (w := min w 4) (by omega) hL hC hab (min w 4) 0 0 0 0 (d - 1) 0 0 h1 rf1 C (by omega) (by omega) (by decide) (by omega) hN1 hS1 (fun _ c _ hc => ⟨by rw [Nat.zero_mul, Nat.zero_add]; exact hr c hc, (hC c hc).2⟩) (Or.inl ⟨rfl, (fun _ _ => 0), (fun _ => 0), BInv.zero, rfl, fun _ _ _ _ _ => rfl⟩) (by decide)) hN1.1 rfl (Nat.le_of_ble_eq_true rfl) (fun h54 q54 => ?_)
      exact go_return (DX3_run.at 33 rfl) rfl (RV.mk ⟨hO.trans q54.1, q54.2.choose, q54.2.choose_spec.1⟩)
    | succ m ih =>
      intro j h1 rf1 hj hO hN1 hr
      have hS1 := hS.keep hO (by omega)
      refine go_iload_3 (DX3_run.at 13 rfl) ?_
      refine go_aload_1 (DX3_run.at 14 rfl) ?_
      refine go_cVx0 (DX3_run.at 15 rfl) nX3_31 vX4_cellCount (by omega) (c_cellCount hS1 hL) hS1.1 rfl (Nat.le_of_ble_eq_true rfl) ?_
      refine go_icmp_ge 48 (DX3_run.at 16 rfl) (by decide) (fun c26 => absurd c26 (nI_ge (a := j) (b := nc g s) (by omega) (by omega))) (fun c26 => ?_)
      refine go_aload_0 (DX3_run.at 17 rfl) ?_
      refine go_getfield (DX3_run.at 18 rfl) fX3_9 hN1.1 rfl ?_
      refine go_iload_3 (DX3_run.at 19 rfl) ?_
      refine go_aload_1 (DX3_run.at 20 rfl) ?_
      refine go_iload_3 (DX3_run.at 21 rfl) ?_
      refine go_cVx1 (DX3_run.at 22 rfl) nX3_37 vX4_columnOf (by omega) (c_columnOf hS1 (show j < 20 by omega) (by omega)) hS1.1 rfl (Nat.le_of_ble_eq_true rfl) ?_
      rw [(hC j (by omega)).1]
      refine go_cSv3 (DX3_run.at 23 rfl) nX3_41 vX5_put (by omega) (c_put hN1.2 (show j < 80 by omega) (by decide)) (Nat.le_of_ble_eq_true rfl) (fun h39 q39 => ?_)
      subst q39
      have n39 := hN1.row (upd rf1 j (nI (pq 6 (C j))))
      refine go_iincN_3 (DX3_run.at 24 rfl) ?_
      refine go_goto 21 (DX3_run.at 25 rfl) (by decide) ?_
      refine ih (j + 1) _ _ (by omega) (hO.trans n39.2) n39.1 (fun c hc => ?_)
      by_cases e : c = j
      · rw [e]; exact pk_us
      · rw [pk_un e]; exact hr c (by omega)
  refine go_aload_0 (DX3_run.at 0 rfl) ?_
  refine go_iload_2 (DX3_run.at 1 rfl) ?_
  refine go_iconst (v := nI 4) (DX3_run.at 2 rfl) (by decide) ?_
  refine go_cSx2 (DX3_run.at 3 rfl) nX3_25 vJ9_min_7cf53 (by omega) (c_min hw (by decide)) (Nat.le_of_ble_eq_true rfl) ?_
  refine go_putfield (DX3_run.at 4 rfl) fX3_15 rfl rfl hN.1 (Nat.le_of_ble_eq_true rfl) (fun w hw => by subst hw; exact ⟨rfl, rfl⟩) ?_
  have n6 := hN.obj (w' := min w 4) (fd' := fd0) (ls' := ls0)
  refine go_aload_0 (DX3_run.at 5 rfl) ?_
  refine go_iconst (v := nI 0) (DX3_run.at 6 rfl) (by decide) ?_
  refine go_putfield (DX3_run.at 7 rfl) fX3_19 rfl rfl n6.1.1 (Nat.le_of_ble_eq_true rfl) (fun w hw => by subst hw; exact ⟨rfl, rfl⟩) ?_
  have n11 := n6.1.obj (w' := min w 4) (fd' := 0) (ls' := ls0)
  refine go_aload_0 (DX3_run.at 8 rfl) ?_
  refine go_iconst (v := nI 0) (DX3_run.at 9 rfl) (by decide) ?_
  refine go_putfield (DX3_run.at 10 rfl) fX3_22 rfl rfl n11.1.1 (Nat.le_of_ble_eq_true rfl) (fun w hw => by subst hw; exact ⟨rfl, rfl⟩) ?_
  have n16 := n11.1.obj (w' := min w 4) (fd' := 0) (ls' := 0)
  refine go_iconst (v := nI 0) (DX3_run.at 11 rfl) (by decide) ?_
  refine go_istore_3 (DX3_run.at 12 rfl) ?_
  exact loop (nc g s) 0 _ rf (by omega) (n6.2.trans (n11.2.trans n16.2)) n16.1 (fun c hc => absurd hc (Nat.not_lt_zero c))

end SE
