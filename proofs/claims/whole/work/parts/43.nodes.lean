/-! THE CLASS: the fewest nodes -/
section CL
variable {E : AEnv} {d : Nat} {h h' : List va_E} {b : Nat} {N B S : RP} {n : Nat} {Hs : Nat → RP} {tk : Nat} {o X : Nat → Int32} {G : Nat → Option va_E} {σ : Rows} {g s T sh : Nat}
theorem c_fatalNodes {C : Nat → Nat → Nat} (hC : ClAt G h b N B S n Hs tk o X) (hS : StAt h (b + 1) σ) (hL : LayX σ g s T sh) (hX : ColX σ (nc g s) C) (hB : ∀ w, 1 ≤ w → w ≤ 4 → (frun C g s sh T w).1 < 2 ^ 31) (hd : 10 ≤ d) : Calls E mX5_fatalNodes d 0 0 [.ref b] h (RI (fun r h' => ClAt G h' b N B S n Hs tk o X ∧ ((r = (-5) ∧ ∀ w, 1 ≤ w → w ≤ 4 → (frun C g s sh T w).1 = 0) ∨ ∃ w, 1 ≤ w ∧ w ≤ 4 ∧ (∀ v, 1 ≤ v → v < w → (frun C g s sh T v).1 = 0) ∧ (frun C g s sh T w).1 ≠ 0 ∧ r = nI (frun C g s sh T w).2))) := by
  refine Calls.of (ls := [some (.ref b), none]) (by decide +kernel) rfl (Nat.le_of_ble_eq_true rfl) (cat_ok rfl) ?_
  have loop : ∀ (m w : Nat) (h : List va_E), w + m = 5 → 1 ≤ w → ClAt G h b N B S n Hs tk o X → StAt h (b + 1) σ → (∀ v, 1 ≤ v → v < w → (frun C g s sh T v).1 = 0) → Go E mX5_fatalNodes d 0 0 2 [some (.ref b), some (.int (nI w))] [] h (RI (fun r h' => ClAt G h' b N B S n Hs tk o X ∧ ((r = (-5) ∧ ∀ w, 1 ≤ w → w ≤ 4 → (frun C g s sh T w).1 = 0) ∨ ∃ w, 1 ≤ w ∧ w ≤ 4 ∧ (∀ v, 1 ≤ v → v < w → (frun C g s sh T v).1 = 0) ∧ (frun C g s sh T w).1 ≠ 0 ∧ r = nI (frun C g s sh T w).2))) := by
    intro m
    induction m with
    | zero =>
      intro w h hw h1 hC hS h0
      obtain rfl : w = 5 := by omega
      refine go_iload_1 (DX5_fatalNodes.at 2 rfl) ?_
      refine go_iconst (v := nI 4) (DX5_fatalNodes.at 3 rfl) (by decide) ?_
      refine go_icmp_gt 43 (DX5_fatalNodes.at 4 rfl) (by decide) (fun c4 => ?_) (fun c4 => absurd (by decide) c4)
      refine go_bipush (v := (-5)) (DX5_fatalNodes.at 21 rfl) (by decide) ?_
      exact go_iret (DX5_fatalNodes.at 22 rfl) rfl rfl (RI.mk ⟨hC, Or.inl ⟨rfl, fun w g1 g2 => h0 w g1 (by omega)⟩⟩)
    | succ m ih =>
      intro w h hw h1 hC hS h0
      obtain ⟨w0, fd0, l0, rf0, hN⟩ := hC.2.2.2.2.2.2.2.2.2
      refine go_iload_1 (DX5_fatalNodes.at 2 rfl) ?_
      refine go_iconst (v := nI 4) (DX5_fatalNodes.at 3 rfl) (by decide) ?_
      refine go_icmp_gt 43 (DX5_fatalNodes.at 4 rfl) (by decide) (fun c4 => absurd c4 (by rw [nI_ltI (by decide) (by omega)]; omega)) (fun c4 => ?_)
      refine go_aload_0 (DX5_fatalNodes.at 5 rfl) ?_
      refine go_getfield (DX5_fatalNodes.at 6 rfl) fX5_43 hC.1 rfl ?_
      refine go_aload_0 (DX5_fatalNodes.at 7 rfl) ?_
      refine go_getfield (DX5_fatalNodes.at 8 rfl) fX5_10 hC.1 rfl ?_
      refine go_iload_1 (DX5_fatalNodes.at 9 rfl) ?_
      refine go_cVv2 (DX5_fatalNodes.at 10 rfl) nX5_223 vX3_run (by omega) (c_run hN hS hL hX (by omega) (by omega) (by omega)) hN.1 rfl (Nat.le_of_ble_eq_true rfl) (fun h16 q16 => ?_)
      obtain ⟨u, rf, q16⟩ := q16
      have hC2 := hC.toSearch ⟨q16, u⟩
      have hS2 := hS.keep u (by omega)
      refine go_aload_0 (DX5_fatalNodes.at 11 rfl) ?_
      refine go_getfield (DX5_fatalNodes.at 12 rfl) fX5_43 hC2.1 rfl ?_
      refine go_getfield (DX5_fatalNodes.at 13 rfl) fX5_227 q16.1 rfl ?_
      refine go_if_le 37 (DX5_fatalNodes.at 14 rfl) (by decide) (fun c26 => ?_) (fun c26 => ?_)
      · rw [show (0 : Int32) = nI 0 from rfl, nI_leI (hB w (by omega) (by omega)) (by decide)] at c26
        refine go_iincN_1 (DX5_fatalNodes.at 19 rfl) ?_
        refine go_goto 2 (DX5_fatalNodes.at 20 rfl) (by decide) ?_
        exact ih (w + 1) _ (by omega) (by omega) hC2 hS2 (fun v g1 g2 => by
          by_cases e : v = w
          · rw [e]
            exact Nat.le_zero.mp c26
          · exact h0 v g1 (by omega))
      · rw [show (0 : Int32) = nI 0 from rfl, nI_leI (hB w (by omega) (by omega)) (by decide)] at c26
        refine go_aload_0 (DX5_fatalNodes.at 15 rfl) ?_
        refine go_getfield (DX5_fatalNodes.at 16 rfl) fX5_43 hC2.1 rfl ?_
        refine go_getfield (DX5_fatalNodes.at 17 rfl) fX5_230 q16.1 rfl ?_
        exact go_iret (DX5_fatalNodes.at 18 rfl) rfl rfl (RI.mk ⟨hC2, Or.inr ⟨w, by omega, by omega, h0, fun e => c26 (Nat.le_of_eq e), rfl⟩⟩)
  refine go_iconst (v := nI 1) (DX5_fatalNodes.at 0 rfl) (by decide) ?_
  refine go_istore_1 (DX5_fatalNodes.at 1 rfl) ?_
  exact loop 4 1 h (by omega) (by omega) hC hS (fun v g1 g2 => by omega)

end CL
