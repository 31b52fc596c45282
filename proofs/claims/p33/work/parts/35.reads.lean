/-! THE CLASS: what there is -/
section CL
variable {E : AEnv} {d : Nat} {h h' : List va_E} {b : Nat} {N B S : RP} {n : Nat} {Hs : Nat → RP} {tk : Nat} {o X : Nat → Int32} {G : Nat → Option va_E} {σ : Rows} {g s T sh : Nat}
theorem c_value {x y : Int32} {Mx : Nat → Nat} (hC : ClAt G h b N B S n Hs tk o X) (hS : StAt h (b + 1) σ) (hL : LayX σ g s T sh) (hM : ∀ t, t < T → σ 3 t = nI (Mx t) ∧ Mx t < 2 ^ 20) (hd : 3 ≤ d) : Calls E mX5_value d 0 0 [.ref b, .int x, .int y] h (RI (fun r h' => h' = h ∧ ((¬ (inR x T ∧ inR y (nc g s)) ∧ r = (-1)) ∨ ∃ t c, t < T ∧ c < nc g s ∧ x = nI t ∧ y = nI c ∧ ((bit (Mx t) c ∧ r = (-5)) ∨ (¬ bit (Mx t) c ∧ r = σ 2 (t * 20 + c)))))) := by
  refine Calls.of (ls := [some (.ref b), some (.int x), some (.int y)]) (by decide +kernel) rfl (Nat.le_of_ble_eq_true rfl) (cat_ok rfl) ?_
  have hn20 := hL.2.2.2.2.nc
  have hT8 : T ≤ 8 := hL.2.2.2.2.2.2.2.2.2.2.1
  refine go_aload_0 (DX5_value.at 0 rfl) ?_
  refine go_getfield (DX5_value.at 1 rfl) fX5_10 hC.1 rfl ?_
  refine go_iload_1 (DX5_value.at 2 rfl) ?_
  refine go_iload_2 (DX5_value.at 3 rfl) ?_
  refine go_cVx2 (DX5_value.at 4 rfl) nX5_134 vX4_hasCell (by omega) (c_hasCell hS hL (by omega)) hS.1 rfl (Nat.le_of_ble_eq_true rfl) ?_
  refine go_if_ne 14 (DX5_value.at 5 rfl) (by decide) (fun c9 => ?_) (fun c9 => ?_)
  · rw [bP_eq0, Classical.not_not] at c9
    obtain ⟨⟨t, ht, rfl⟩, ⟨c, hc, rfl⟩⟩ := And.intro (inR_ex (by omega) c9.1) (inR_ex (by omega) c9.2)
    obtain ⟨m1, m2⟩ := hM t ht
    refine go_aload_0 (DX5_value.at 8 rfl) ?_
    refine go_getfield (DX5_value.at 9 rfl) fX5_10 hC.1 rfl ?_
    refine go_iload_1 (DX5_value.at 10 rfl) ?_
    refine go_iload_2 (DX5_value.at 11 rfl) ?_
    refine go_cVx2 (DX5_value.at 12 rfl) nX5_138 vX4_isMissing (by omega) (c_isMissing hS (by omega) (by omega) m1 (by omega) (by omega)) hS.1 rfl (Nat.le_of_ble_eq_true rfl) ?_
    refine go_if_eq 31 (DX5_value.at 13 rfl) (by decide) (fun c23 => ?_) (fun c23 => ?_)
    · rw [bP_eq0] at c23
      
      refine go_aload_0 (DX5_value.at 16 rfl) ?_
      refine go_getfield (DX5_value.at 17 rfl) fX5_10 hC.1 rfl ?_
      refine go_iload_1 (DX5_value.at 18 rfl) ?_
      refine go_iload_2 (DX5_value.at 19 rfl) ?_
      refine go_cVx2 (DX5_value.at 20 rfl) nX5_141 vX4_valueOf (by omega) (c_valueOf hS (by omega) (by omega) (by omega)) hS.1 rfl (Nat.le_of_ble_eq_true rfl) ?_
      exact go_iret (DX5_value.at 21 rfl) rfl rfl (RI.mk ⟨rfl, Or.inr ⟨t, c, ht, hc, rfl, rfl, by first | exact Or.inl ⟨c23, rfl⟩ | exact Or.inr ⟨c23, rfl⟩⟩⟩)
    · rw [bP_eq0, Classical.not_not] at c23
      
      refine go_bipush (v := (-5)) (DX5_value.at 14 rfl) (by decide) ?_
      refine go_goto 40 (DX5_value.at 15 rfl) (by decide) ?_
      exact go_iret (DX5_value.at 21 rfl) rfl rfl (RI.mk ⟨rfl, Or.inr ⟨t, c, ht, hc, rfl, rfl, by first | exact Or.inl ⟨c23, rfl⟩ | exact Or.inr ⟨c23, rfl⟩⟩⟩)
  · rw [bP_eq0] at c9
    
    refine go_iconst (v := (-1)) (DX5_value.at 6 rfl) (by decide) ?_
    exact go_iret (DX5_value.at 7 rfl) rfl rfl (RI.mk ⟨rfl, Or.inl ⟨c9, rfl⟩⟩)

theorem c_node {x y : Int32} (hC : ClAt G h b N B S n Hs tk o X) (hS : StAt h (b + 1) σ) (hL : LayX σ g s T sh) (hd : 3 ≤ d) : Calls E mX5_node d 0 0 [.ref b, .int x, .int y] h (RI (fun r h' => h' = h ∧ ((¬ (inR x T ∧ inR y (nc g s)) ∧ r = (-1)) ∨ ∃ t c, t < T ∧ c < nc g s ∧ x = nI t ∧ y = nI c ∧ r = nI ((c + t * sh) % nc g s)))) := by
  refine Calls.of (ls := [some (.ref b), some (.int x), some (.int y)]) (by decide +kernel) rfl (Nat.le_of_ble_eq_true rfl) (cat_ok rfl) ?_
  have hn20 := hL.2.2.2.2.nc
  have hT8 : T ≤ 8 := hL.2.2.2.2.2.2.2.2.2.2.1
  refine go_aload_0 (DX5_node.at 0 rfl) ?_
  refine go_getfield (DX5_node.at 1 rfl) fX5_10 hC.1 rfl ?_
  refine go_iload_1 (DX5_node.at 2 rfl) ?_
  refine go_iload_2 (DX5_node.at 3 rfl) ?_
  refine go_cVx2 (DX5_node.at 4 rfl) nX5_134 vX4_hasCell (by omega) (c_hasCell hS hL (by omega)) hS.1 rfl (Nat.le_of_ble_eq_true rfl) ?_
  refine go_if_eq 24 (DX5_node.at 5 rfl) (by decide) (fun c9 => ?_) (fun c9 => ?_)
  · rw [bP_eq0] at c9
    
    refine go_iconst (v := (-1)) (DX5_node.at 12 rfl) (by decide) ?_
    exact go_iret (DX5_node.at 13 rfl) rfl rfl (RI.mk ⟨rfl, by first | exact Or.inl ⟨c9, rfl⟩ | exact Or.inr ⟨t, c, ht, hc, rfl, rfl, rfl⟩⟩)
  · rw [bP_eq0, Classical.not_not] at c9
    obtain ⟨⟨t, ht, rfl⟩, ⟨c, hc, rfl⟩⟩ := And.intro (inR_ex (by omega) c9.1) (inR_ex (by omega) c9.2)
    refine go_aload_0 (DX5_node.at 6 rfl) ?_
    refine go_getfield (DX5_node.at 7 rfl) fX5_10 hC.1 rfl ?_
    refine go_iload_1 (DX5_node.at 8 rfl) ?_
    refine go_iload_2 (DX5_node.at 9 rfl) ?_
    refine go_cVx2 (DX5_node.at 10 rfl) nX5_144 vX4_nodeOf (by omega) (c_nodeOf hS hL (by omega) (by omega) (by omega)) hS.1 rfl (Nat.le_of_ble_eq_true rfl) ?_
    refine go_goto 25 (DX5_node.at 11 rfl) (by decide) ?_
    exact go_iret (DX5_node.at 13 rfl) rfl rfl (RI.mk ⟨rfl, by first | exact Or.inl ⟨c9, rfl⟩ | exact Or.inr ⟨t, c, ht, hc, rfl, rfl, rfl⟩⟩)

theorem c_load {x : Int32} (hC : ClAt G h b N B S n Hs tk o X) (hS : StAt h (b + 1) σ) (hL : LayX σ g s T sh) (hd : 3 ≤ d) : Calls E mX5_load d 0 0 [.ref b, .int x] h (RI (fun r h' => h' = h ∧ ((¬ inR x (nc g s) ∧ r = (-1)) ∨ ∃ c, c < nc g s ∧ x = nI c ∧ r = σ 4 c))) := by
  refine Calls.of (ls := [some (.ref b), some (.int x)]) (by decide +kernel) rfl (Nat.le_of_ble_eq_true rfl) (cat_ok rfl) ?_
  have hn20 := hL.2.2.2.2.nc
  have hT8 : T ≤ 8 := hL.2.2.2.2.2.2.2.2.2.2.1
  refine go_aload_0 (DX5_load.at 0 rfl) ?_
  refine go_getfield (DX5_load.at 1 rfl) fX5_10 hC.1 rfl ?_
  refine go_iload_1 (DX5_load.at 2 rfl) ?_
  refine go_cVx1 (DX5_load.at 3 rfl) nX5_147 vX4_hasNode (by omega) (c_hasNode hS hL (by omega)) hS.1 rfl (Nat.le_of_ble_eq_true rfl) ?_
  refine go_if_eq 25 (DX5_load.at 4 rfl) (by decide) (fun c8 => ?_) (fun c8 => ?_)
  · rw [bP_eq0] at c8
    
    refine go_iconst (v := (-1)) (DX5_load.at 11 rfl) (by decide) ?_
    exact go_iret (DX5_load.at 12 rfl) rfl rfl (RI.mk ⟨rfl, by first | exact Or.inl ⟨c8, rfl⟩ | exact Or.inr ⟨c, hc, rfl, rfl⟩⟩)
  · rw [bP_eq0, Classical.not_not] at c8
    obtain ⟨c, hc, rfl⟩ := inR_ex (by omega) c8
    refine go_aload_0 (DX5_load.at 5 rfl) ?_
    refine go_getfield (DX5_load.at 6 rfl) fX5_10 hC.1 rfl ?_
    refine go_getfield (DX5_load.at 7 rfl) fX5_151 hS.1 rfl ?_
    refine go_iload_1 (DX5_load.at 8 rfl) ?_
    refine go_cSx2 (DX5_load.at 9 rfl) nX5_155 vX5_at (by omega) (c_at (Or.inl hS.2.2.2.2.1) (by omega) (by decide)) (Nat.le_of_ble_eq_true rfl) ?_
    refine go_goto 26 (DX5_load.at 10 rfl) (by decide) ?_
    exact go_iret (DX5_load.at 12 rfl) rfl rfl (RI.mk ⟨rfl, by first | exact Or.inl ⟨c8, rfl⟩ | exact Or.inr ⟨c, hc, rfl, rfl⟩⟩)

theorem c_lost {x : Int32} (hC : ClAt G h b N B S n Hs tk o X) (hS : StAt h (b + 1) σ) (hL : LayX σ g s T sh) (hd : 3 ≤ d) : Calls E mX5_lost d 0 0 [.ref b, .int x] h (RI (fun r h' => h' = h ∧ ((¬ inR x T ∧ r = (-1)) ∨ ∃ t, t < T ∧ x = nI t ∧ r = σ 3 t))) := by
  refine Calls.of (ls := [some (.ref b), some (.int x)]) (by decide +kernel) rfl (Nat.le_of_ble_eq_true rfl) (cat_ok rfl) ?_
  have hn20 := hL.2.2.2.2.nc
  have hT8 : T ≤ 8 := hL.2.2.2.2.2.2.2.2.2.2.1
  refine go_aload_0 (DX5_lost.at 0 rfl) ?_
  refine go_getfield (DX5_lost.at 1 rfl) fX5_10 hC.1 rfl ?_
  refine go_iload_1 (DX5_lost.at 2 rfl) ?_
  refine go_cVx1 (DX5_lost.at 3 rfl) nX5_159 vX4_hasStripe (by omega) (c_hasStripe hS hL) hS.1 rfl (Nat.le_of_ble_eq_true rfl) ?_
  refine go_if_eq 22 (DX5_lost.at 4 rfl) (by decide) (fun c8 => ?_) (fun c8 => ?_)
  · rw [bP_eq0] at c8
    
    refine go_iconst (v := (-1)) (DX5_lost.at 10 rfl) (by decide) ?_
    exact go_iret (DX5_lost.at 11 rfl) rfl rfl (RI.mk ⟨rfl, by first | exact Or.inl ⟨c8, rfl⟩ | exact Or.inr ⟨t, ht, rfl, rfl⟩⟩)
  · rw [bP_eq0, Classical.not_not] at c8
    obtain ⟨t, ht, rfl⟩ := inR_ex (by omega) c8
    refine go_aload_0 (DX5_lost.at 5 rfl) ?_
    refine go_getfield (DX5_lost.at 6 rfl) fX5_10 hC.1 rfl ?_
    refine go_iload_1 (DX5_lost.at 7 rfl) ?_
    refine go_cVx1 (DX5_lost.at 8 rfl) nX5_162 vX4_missingIn (by omega) (c_missingIn hS (by omega) (by omega)) hS.1 rfl (Nat.le_of_ble_eq_true rfl) ?_
    refine go_goto 23 (DX5_lost.at 9 rfl) (by decide) ?_
    exact go_iret (DX5_lost.at 11 rfl) rfl rfl (RI.mk ⟨rfl, by first | exact Or.inl ⟨c8, rfl⟩ | exact Or.inr ⟨t, ht, rfl, rfl⟩⟩)

end CL
