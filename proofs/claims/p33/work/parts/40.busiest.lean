/-! THE CLASS: the busiest node -/
/-- best and most, of the first j loads -/
def BzI (L : Nat → Nat) (j : Nat) (x : Int32) (m : Nat) : Prop := (x = (-5) ∧ m = 0 ∧ ∀ i, i < j → L i = 0) ∨ ∃ c, c < j ∧ x = nI c ∧ m = L c ∧ 0 < L c ∧ (∀ i, i < j → L i ≤ L c) ∧ ∀ i, i < c → L i < L c
theorem BzI.up {L : Nat → Nat} {j m : Nat} {x : Int32} (q : BzI L j x m) (h : m < L j) : BzI L (j + 1) (nI j) (L j) := by
  rcases q with ⟨-, rfl, q⟩ | ⟨c, hc, -, rfl, h0, h1, h2⟩
  · exact Or.inr ⟨j, by omega, rfl, rfl, h, fun i hi => if e : i = j then Nat.le_of_eq (congrArg L e) else (by rw [q i (by omega)]; omega), fun i hi => by rw [q i hi]; exact h⟩
  · exact Or.inr ⟨j, by omega, rfl, rfl, by omega, fun i hi => if e : i = j then Nat.le_of_eq (congrArg L e) else (by have := h1 i (by omega); omega), fun i hi => by have := h1 i hi; omega⟩
theorem BzI.no {L : Nat → Nat} {j m : Nat} {x : Int32} (q : BzI L j x m) (h : ¬ m < L j) : BzI L (j + 1) x m := by
  rcases q with ⟨e, rfl, q⟩ | ⟨c, hc, e, rfl, h0, h1, h2⟩
  · exact Or.inl ⟨e, rfl, fun i hi => if e : i = j then (by have := congrArg L e; omega) else q i (by omega)⟩
  · exact Or.inr ⟨c, by omega, e, rfl, h0, fun i hi => if e : i = j then (by have := congrArg L e; omega) else h1 i (by omega), h2⟩
section CL
variable {E : AEnv} {d : Nat} {h h' : List va_E} {b : Nat} {N B S : RP} {n : Nat} {Hs : Nat → RP} {tk : Nat} {o X : Nat → Int32} {G : Nat → Option va_E} {σ : Rows} {g s T sh : Nat}
theorem c_busiest {L : Nat → Nat} (hC : ClAt G h b N B S n Hs tk o X) (hS : StAt h (b + 1) σ) (hL : LayX σ g s T sh) (hLd : ∀ j, j < nc g s → σ 4 j = nI (L j) ∧ L j < 2 ^ 31) (hd : 2 ≤ d) : Calls E mX5_busiest d 0 0 [.ref b] h (RI (fun r h' => h' = h ∧ ∃ m, BzI L (nc g s) r m)) := by
  refine Calls.of (ls := [some (.ref b), none, none, none]) (by decide +kernel) rfl (Nat.le_of_ble_eq_true rfl) (cat_ok rfl) ?_
  have hn20 := hL.2.2.2.2.nc
  have loop : ∀ (m j : Nat) (x : Int32) (mm : Nat), j + m = nc g s → mm < 2 ^ 31 → BzI L j x mm → Go E mX5_busiest d 0 0 7 [some (.ref b), some (.int x), some (.int (nI mm)), some (.int (nI j))] [] h (RI (fun r h' => h' = h ∧ ∃ m, BzI L (nc g s) r m)) := by
    intro m
    induction m with
    | zero =>
      intro j x mm hj hm hI
      obtain rfl : j = nc g s := by omega
      refine go_iload_3 (DX5_busiest.at 6 rfl) ?_
      refine go_aload_0 (DX5_busiest.at 7 rfl) ?_
      refine go_getfield (DX5_busiest.at 8 rfl) fX5_10 hC.1 rfl ?_
      refine go_cVx0 (DX5_busiest.at 9 rfl) nX5_66 vX4_cellCount (by omega) (c_cellCount hS hL) hS.1 rfl (Nat.le_of_ble_eq_true rfl) ?_
      refine go_icmp_ge 53 (DX5_busiest.at 10 rfl) (by decide) (fun c15 => ?_) (fun c15 => absurd (Int32.le_refl _) c15)
      refine go_iload_1 (DX5_busiest.at 28 rfl) ?_
      exact go_iret (DX5_busiest.at 29 rfl) rfl rfl (RI.mk ⟨rfl, mm, hI⟩)
    | succ m ih =>
      intro j x mm hj hm hI
      refine go_iload_3 (DX5_busiest.at 6 rfl) ?_
      refine go_aload_0 (DX5_busiest.at 7 rfl) ?_
      refine go_getfield (DX5_busiest.at 8 rfl) fX5_10 hC.1 rfl ?_
      refine go_cVx0 (DX5_busiest.at 9 rfl) nX5_66 vX4_cellCount (by omega) (c_cellCount hS hL) hS.1 rfl (Nat.le_of_ble_eq_true rfl) ?_
      refine go_icmp_ge 53 (DX5_busiest.at 10 rfl) (by decide) (fun c15 => absurd ((nI_leI (by omega) (by omega)).mp c15) (by omega)) (fun c15 => ?_)
      refine go_aload_0 (DX5_busiest.at 11 rfl) ?_
      refine go_getfield (DX5_busiest.at 12 rfl) fX5_10 hC.1 rfl ?_
      refine go_getfield (DX5_busiest.at 13 rfl) fX5_151 hS.1 rfl ?_
      refine go_iload_3 (DX5_busiest.at 14 rfl) ?_
      refine go_cSx2 (DX5_busiest.at 15 rfl) nX5_155 vX5_at (by omega) (c_at (Or.inl hS.2.2.2.2.1) (show j < 20 by omega) (by decide)) (Nat.le_of_ble_eq_true rfl) ?_
      rw [(hLd j (by omega)).1]
      refine go_iload_2 (DX5_busiest.at 16 rfl) ?_
      refine go_icmp_le 47 (DX5_busiest.at 17 rfl) (by decide) (fun c30 => ?_) (fun c30 => ?_)
      · rw [nI_leI (by have := hLd j (by omega); omega) hm] at c30
        refine go_iincN_3 (DX5_busiest.at 26 rfl) ?_
        refine go_goto 7 (DX5_busiest.at 27 rfl) (by decide) ?_
        first | exact ih (j + 1) x mm (by omega) hm (hI.no (by omega)) | exact ih (j + 1) (nI j) (L j) (by omega) (hLd j (by omega)).2 (hI.up (by omega))
      · rw [nI_leI (by have := hLd j (by omega); omega) hm] at c30
        refine go_aload_0 (DX5_busiest.at 18 rfl) ?_
        refine go_getfield (DX5_busiest.at 19 rfl) fX5_10 hC.1 rfl ?_
        refine go_getfield (DX5_busiest.at 20 rfl) fX5_151 hS.1 rfl ?_
        refine go_iload_3 (DX5_busiest.at 21 rfl) ?_
        refine go_cSx2 (DX5_busiest.at 22 rfl) nX5_155 vX5_at (by omega) (c_at (Or.inl hS.2.2.2.2.1) (show j < 20 by omega) (by decide)) (Nat.le_of_ble_eq_true rfl) ?_
        rw [(hLd j (by omega)).1]
        refine go_istore_2 (DX5_busiest.at 23 rfl) ?_
        refine go_iload_3 (DX5_busiest.at 24 rfl) ?_
        refine go_istore_1 (DX5_busiest.at 25 rfl) ?_
        refine go_iincN_3 (DX5_busiest.at 26 rfl) ?_
        refine go_goto 7 (DX5_busiest.at 27 rfl) (by decide) ?_
        first | exact ih (j + 1) x mm (by omega) hm (hI.no (by omega)) | exact ih (j + 1) (nI j) (L j) (by omega) (hLd j (by omega)).2 (hI.up (by omega))
  refine go_bipush (v := (-5)) (DX5_busiest.at 0 rfl) (by decide) ?_
  refine go_istore_1 (DX5_busiest.at 1 rfl) ?_
  refine go_iconst (v := nI 0) (DX5_busiest.at 2 rfl) (by decide) ?_
  refine go_istore_2 (DX5_busiest.at 3 rfl) ?_
  refine go_iconst (v := nI 0) (DX5_busiest.at 4 rfl) (by decide) ?_
  refine go_istore_3 (DX5_busiest.at 5 rfl) ?_
  exact loop (nc g s) 0 (-5) 0 (by omega) (by decide) (Or.inl ⟨rfl, rfl, fun i hi => absurd hi (Nat.not_lt_zero i)⟩)

end CL
