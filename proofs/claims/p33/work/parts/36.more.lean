/-! THE CLASS: the queue's places, the text, the search, the culprit -/
/-- what a search for w cells has counted and the least of the nodes -/
noncomputable abbrev frun (C : Nat → Nat → Nat) (g s sh T w : Nat) : Nat × Nat := List.foldl (ntF C g s sh T) (0, 0) (dl (nc g s) (nc g s) (min w 4) 0)
section CL
variable {E : AEnv} {d : Nat} {h h' : List va_E} {b : Nat} {N B S : RP} {n : Nat} {Hs : Nat → RP} {tk : Nat} {o X : Nat → Int32} {G : Nat → Option va_E} {σ : Rows} {g s T sh : Nat}
theorem c_waiting {x : Int32} {Q : Nat} (hC : ClAt G h b N B S n Hs tk o X) (hS : StAt h (b + 1) σ) (hQ : σ 0 8 = nI Q) (hQ2 : Q ≤ 160) (hd : 1 ≤ d) : Calls E mX5_waiting d 0 0 [.ref b, .int x] h (RI (fun r h' => h' = h ∧ ((x < 0 ∧ r = (-2)) ∨ (∃ j, j < Q ∧ x = nI j ∧ r = σ 1 j) ∨ (0 ≤ x ∧ ¬ inR x Q ∧ r = (-5))))) := by
  refine Calls.of (ls := [some (.ref b), some (.int x)]) (by decide +kernel) rfl (Nat.le_of_ble_eq_true rfl) (cat_ok rfl) ?_
  refine go_iload_1 (DX5_waiting.at 0 rfl) ?_
  refine go_if_ge 7 (DX5_waiting.at 1 rfl) (by decide) (fun c1 => ?_) (fun c1 => ?_)
  · refine go_iload_1 (DX5_waiting.at 4 rfl) ?_
    refine go_aload_0 (DX5_waiting.at 5 rfl) ?_
    refine go_getfield (DX5_waiting.at 6 rfl) fX5_10 hC.1 rfl ?_
    refine go_getfield (DX5_waiting.at 7 rfl) fX5_131 hS.1 rfl ?_
    refine go_icmp_ge 32 (DX5_waiting.at 8 rfl) (by decide) (fun c15 => ?_) (fun c15 => ?_)
    · rw [hQ] at c15
      refine go_bipush (v := (-5)) (DX5_waiting.at 15 rfl) (by decide) ?_
      exact go_iret (DX5_waiting.at 16 rfl) rfl rfl (RI.mk ⟨rfl, by first | exact Or.inr (Or.inl ⟨j, hj, rfl, rfl⟩) | exact Or.inr (Or.inr ⟨c1, fun q => absurd q.2 (Int32.not_lt.mpr c15), rfl⟩)⟩)
    · rw [hQ] at c15
      obtain ⟨j, hj, rfl⟩ := inR_ex (by omega) (show inR x Q from ⟨c1, Int32.not_le.mp c15⟩)
      refine go_aload_0 (DX5_waiting.at 9 rfl) ?_
      refine go_getfield (DX5_waiting.at 10 rfl) fX5_10 hC.1 rfl ?_
      refine go_getfield (DX5_waiting.at 11 rfl) fX5_165 hS.1 rfl ?_
      refine go_iload_1 (DX5_waiting.at 12 rfl) ?_
      refine go_cSx2 (DX5_waiting.at 13 rfl) nX5_155 vX5_at (by omega) (c_at (Or.inl hS.2.1) (by omega) (by decide)) (Nat.le_of_ble_eq_true rfl) ?_
      refine go_goto 34 (DX5_waiting.at 14 rfl) (by decide) ?_
      exact go_iret (DX5_waiting.at 16 rfl) rfl rfl (RI.mk ⟨rfl, by first | exact Or.inr (Or.inl ⟨j, hj, rfl, rfl⟩) | exact Or.inr (Or.inr ⟨c1, fun q => absurd q.2 (Int32.not_lt.mpr c15), rfl⟩)⟩)
  · refine go_bipush (v := (-2)) (DX5_waiting.at 2 rfl) (by decide) ?_
    exact go_iret (DX5_waiting.at 3 rfl) rfl rfl (RI.mk ⟨rfl, Or.inl ⟨Int32.not_le.mp c1, rfl⟩⟩)

theorem c_culprit {x : Int32} {C : Nat → Nat → Nat} {V : Nat → Nat → Nat} {Mx : Nat → Nat} (hC : ClAt G h b N B S n Hs tk o X) (hS : StAt h (b + 1) σ) (hL : LayX σ g s T sh) (hX : ColX σ (nc g s) C) (hM : ∀ t, t < T → σ 3 t = nI (Mx t) ∧ Mx t < 2 ^ 20) (hV : ∀ t, t < T → Mx t = 0 → ∀ c, c < nc g s → σ 2 (t * 20 + c) = nI (V t c) ∧ V t c < 16) (hd : 4 ≤ d) : Calls E mX5_culprit d 0 0 [.ref b, .int x] h (RI (fun r h' => h' = h ∧ ((¬ inR x T ∧ r = (-1)) ∨ ∃ t, t < T ∧ x = nI t ∧ ((Mx t ≠ 0 ∧ r = (-4)) ∨ (Mx t = 0 ∧ ((∃ c, c < nc g s ∧ r = nI c ∧ CU C (vsum C (V t) (2 ^ nc g s - 1) (nc g s)) (hcv g s c) c ∧ ∀ j, j < c → ¬ CU C (vsum C (V t) (2 ^ nc g s - 1) (nc g s)) (hcv g s j) j) ∨ (r = (-5) ∧ ∀ j, j < nc g s → ¬ CU C (vsum C (V t) (2 ^ nc g s - 1) (nc g s)) (hcv g s j) j))))))) := by
  refine Calls.of (ls := [some (.ref b), some (.int x)]) (by decide +kernel) rfl (Nat.le_of_ble_eq_true rfl) (cat_ok rfl) ?_
  have hn20 := hL.2.2.2.2.nc
  have hT8 : T ≤ 8 := hL.2.2.2.2.2.2.2.2.2.2.1
  refine go_aload_0 (DX5_culprit.at 0 rfl) ?_
  refine go_getfield (DX5_culprit.at 1 rfl) fX5_10 hC.1 rfl ?_
  refine go_iload_1 (DX5_culprit.at 2 rfl) ?_
  refine go_cVx1 (DX5_culprit.at 3 rfl) nX5_159 vX4_hasStripe (by omega) (c_hasStripe hS hL) hS.1 rfl (Nat.le_of_ble_eq_true rfl) ?_
  refine go_if_ne 13 (DX5_culprit.at 4 rfl) (by decide) (fun c8 => ?_) (fun c8 => ?_)
  · rw [bP_eq0, Classical.not_not] at c8
    obtain ⟨t, ht, rfl⟩ := inR_ex (by omega) c8
    obtain ⟨m1, m2⟩ := hM t ht
    refine go_aload_0 (DX5_culprit.at 7 rfl) ?_
    refine go_getfield (DX5_culprit.at 8 rfl) fX5_10 hC.1 rfl ?_
    refine go_iload_1 (DX5_culprit.at 9 rfl) ?_
    refine go_cVx1 (DX5_culprit.at 10 rfl) nX5_162 vX4_missingIn (by omega) (c_missingIn hS (by omega) (by omega)) hS.1 rfl (Nat.le_of_ble_eq_true rfl) ?_
    refine go_if_eq 29 (DX5_culprit.at 11 rfl) (by decide) (fun c21 => ?_) (fun c21 => ?_)
    · rw [m1, nI_eq0 (by omega)] at c21
      refine go_aload_0 (DX5_culprit.at 14 rfl) ?_
      refine go_getfield (DX5_culprit.at 15 rfl) fX5_10 hC.1 rfl ?_
      refine go_iload_1 (DX5_culprit.at 16 rfl) ?_
      refine go_cVi1 (DX5_culprit.at 17 rfl) nX5_216 vX4_culpritIn (by omega) (c_culpritIn hS hL hX (by omega) (hV t ht c21) (by omega)) hS.1 rfl (Nat.le_of_ble_eq_true rfl) (fun x34 h34 q34 => ?_)
      exact go_iret (DX5_culprit.at 18 rfl) rfl rfl (RI.mk (by first | exact ⟨rfl, Or.inr ⟨t, ht, rfl, Or.inl ⟨c21, rfl⟩⟩⟩ | exact ⟨q34.1, Or.inr ⟨t, ht, rfl, Or.inr ⟨c21, q34.2⟩⟩⟩))
    · rw [m1, nI_eq0 (by omega)] at c21
      refine go_bipush (v := (-4)) (DX5_culprit.at 12 rfl) (by decide) ?_
      refine go_goto 37 (DX5_culprit.at 13 rfl) (by decide) ?_
      exact go_iret (DX5_culprit.at 18 rfl) rfl rfl (RI.mk (by first | exact ⟨rfl, Or.inr ⟨t, ht, rfl, Or.inl ⟨c21, rfl⟩⟩⟩ | exact ⟨q34.1, Or.inr ⟨t, ht, rfl, Or.inr ⟨c21, q34.2⟩⟩⟩))
  · rw [bP_eq0] at c8
    
    refine go_iconst (v := (-1)) (DX5_culprit.at 5 rfl) (by decide) ?_
    exact go_iret (DX5_culprit.at 6 rfl) rfl rfl (RI.mk ⟨rfl, Or.inl ⟨c8, rfl⟩⟩)

end CL
