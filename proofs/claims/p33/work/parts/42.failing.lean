/-! THE CLASS: the checks that fail -/
def flg (v : Nat → Nat) : Nat → Nat
  | 0 => 0
  | j + 1 => if v j = 0 then flg v j else flg v j ||| 1 * 2 ^ j
section CL
variable {E : AEnv} {d : Nat} {h h' : List va_E} {b : Nat} {N B S : RP} {n : Nat} {Hs : Nat → RP} {tk : Nat} {o X : Nat → Int32} {G : Nat → Option va_E} {σ : Rows} {g s T sh : Nat}
theorem c_failing {x : Int32} {C : Nat → Nat → Nat} {V : Nat → Nat → Nat} {Mx : Nat → Nat} (hC : ClAt G h b N B S n Hs tk o X) (hS : StAt h (b + 1) σ) (hL : LayX σ g s T sh) (hX : ColX σ (nc g s) C) (hM : ∀ t, t < T → σ 3 t = nI (Mx t) ∧ Mx t < 2 ^ 20) (hV : ∀ t, t < T → Mx t = 0 → ∀ c, c < nc g s → σ 2 (t * 20 + c) = nI (V t c) ∧ V t c < 16) (hd : 4 ≤ d) : Calls E mX5_failing d 0 0 [.ref b, .int x] h (RI (fun r h' => h' = h ∧ ((¬ inR x T ∧ r = (-1)) ∨ ∃ t, t < T ∧ x = nI t ∧ ((Mx t ≠ 0 ∧ r = (-4)) ∨ (Mx t = 0 ∧ r = nI (flg (vsum C (V t) (2 ^ nc g s - 1) (nc g s)) 6)))))) := by
  refine Calls.of (ls := [some (.ref b), some (.int x), none, none, none]) (by decide +kernel) rfl (Nat.le_of_ble_eq_true rfl) (cat_ok rfl) ?_
  have hn20 := hL.2.2.2.2.nc
  have hT8 : T ≤ 8 := hL.2.2.2.2.2.2.2.2.2.2.1
  have h2n : 2 ^ nc g s ≤ 2 ^ 20 := Nat.pow_le_pow_right (by decide) hn20.2
  refine go_aload_0 (DX5_failing.at 0 rfl) ?_
  refine go_getfield (DX5_failing.at 1 rfl) fX5_10 hC.1 rfl ?_
  refine go_iload_1 (DX5_failing.at 2 rfl) ?_
  refine go_cVx1 (DX5_failing.at 3 rfl) nX5_159 vX4_hasStripe (by omega) (c_hasStripe hS hL) hS.1 rfl (Nat.le_of_ble_eq_true rfl) ?_
  refine go_if_ne 13 (DX5_failing.at 4 rfl) (by decide) (fun c8 => ?_) (fun c8 => ?_)
  · rw [bP_eq0, Classical.not_not] at c8
    obtain ⟨t, ht, rfl⟩ := inR_ex (by omega) c8
    obtain ⟨m1, m2⟩ := hM t ht
    refine go_aload_0 (DX5_failing.at 7 rfl) ?_
    refine go_getfield (DX5_failing.at 8 rfl) fX5_10 hC.1 rfl ?_
    refine go_iload_1 (DX5_failing.at 9 rfl) ?_
    refine go_cVx1 (DX5_failing.at 10 rfl) nX5_162 vX4_missingIn (by omega) (c_missingIn hS (by omega) (by omega)) hS.1 rfl (Nat.le_of_ble_eq_true rfl) ?_
    refine go_if_eq 27 (DX5_failing.at 11 rfl) (by decide) (fun c21 => ?_) (fun c21 => ?_)
    · rw [m1, nI_eq0 (by omega)] at c21
      refine go_aload_0 (DX5_failing.at 14 rfl) ?_
      refine go_getfield (DX5_failing.at 15 rfl) fX5_10 hC.1 rfl ?_
      refine go_iload_1 (DX5_failing.at 16 rfl) ?_
      refine go_aload_0 (DX5_failing.at 17 rfl) ?_
      refine go_getfield (DX5_failing.at 18 rfl) fX5_10 hC.1 rfl ?_
      refine go_cVx0 (DX5_failing.at 19 rfl) nX5_168 vX4_allCells (by omega) (c_allCells hS hL (by omega)) hS.1 rfl (Nat.le_of_ble_eq_true rfl) ?_
      refine go_cVx2 (DX5_failing.at 20 rfl) nX5_171 vX4_sumsOver (by omega) (c_sumsOver hS hL hX (show t < 8 by omega) (by omega) (fun c hc _ => hV t ht c21 c hc) (by omega)) hS.1 rfl (Nat.le_of_ble_eq_true rfl) ?_
      refine go_istore_2 (DX5_failing.at 21 rfl) ?_
      refine go_iconst (v := nI 0) (DX5_failing.at 22 rfl) (by decide) ?_
      refine go_istore_3 (DX5_failing.at 23 rfl) ?_
      refine go_iconst (v := nI 0) (DX5_failing.at 24 rfl) (by decide) ?_
      refine go_istore_4 (DX5_failing.at 25 rfl) ?_
      have hv : ∀ i, i < 6 → vsum C (V t) (2 ^ nc g s - 1) (nc g s) i < 16 := vsum_lt (fun c hc => (hX c hc).2) (fun c hc _ => (hV t ht c21 c hc).2) _ (Nat.le_refl _)
      generalize hvv : vsum C (V t) (2 ^ nc g s - 1) (nc g s) = v at hv
      have loop : ∀ (m j : Nat), j + m = 6 → Go E mX5_failing d 0 0 48 [some (.ref b), some (.int (nI t)), some (.int (nI (pq 6 v))), some (.int (nI (flg v j))), some (.int (nI j))] [] h (RI (fun r h' => h' = h ∧ ((¬ inR (nI t) T ∧ r = (-1)) ∨ ∃ t', t' < T ∧ nI t = nI t' ∧ ((Mx t' ≠ 0 ∧ r = (-4)) ∨ (Mx t' = 0 ∧ r = nI (flg (vsum C (V t') (2 ^ nc g s - 1) (nc g s)) 6)))))) := by
        intro m
        induction m with
        | zero =>
          intro j hj
          obtain rfl : j = 6 := by omega
          refine go_iload_4 (DX5_failing.at 26 rfl) ?_
          refine go_bipush (v := nI 6) (DX5_failing.at 27 rfl) (by decide) ?_
          refine go_icmp_ge 77 (DX5_failing.at 28 rfl) (by decide) (fun c52 => ?_) (fun c52 => absurd (Int32.le_refl _) c52)
          refine go_iload_3 (DX5_failing.at 41 rfl) ?_
          exact go_iret (DX5_failing.at 42 rfl) rfl rfl (RI.mk ⟨rfl, Or.inr ⟨t, ht, rfl, Or.inr ⟨c21, by rw [hvv]⟩⟩⟩)
        | succ m ih =>
          intro j hj
          refine go_iload_4 (DX5_failing.at 26 rfl) ?_
          refine go_bipush (v := nI 6) (DX5_failing.at 27 rfl) (by decide) ?_
          refine go_icmp_ge 77 (DX5_failing.at 28 rfl) (by decide) (fun c52 => absurd ((nI_leI (by decide) (by omega)).mp c52) (by omega)) (fun c52 => ?_)
          refine go_iload_2 (DX5_failing.at 29 rfl) ?_
          refine go_iload_4 (DX5_failing.at 30 rfl) ?_
          refine go_cSx2 (DX5_failing.at 31 rfl) nX5_174 vX5_element (by omega) (c_element hv (show j < 6 by omega)) (Nat.le_of_ble_eq_true rfl) ?_
          refine go_if_eq 71 (DX5_failing.at 32 rfl) (by decide) (fun c61 => ?_) (fun c61 => ?_)
          · rw [nI_eq0 (by have := hv j (by omega); omega)] at c61
            refine go_iincN_4 (DX5_failing.at 39 rfl) ?_
            refine go_goto 48 (DX5_failing.at 40 rfl) (by decide) ?_
            have K := ih (j + 1) (by omega)
            first | (rw [show flg v (j + 1) = flg v j from if_pos c61] at K; exact K) | (rw [show flg v (j + 1) = flg v j ||| 1 * 2 ^ j from if_neg c61] at K; exact K)
          · rw [nI_eq0 (by have := hv j (by omega); omega)] at c61
            refine go_iload_3 (DX5_failing.at 33 rfl) ?_
            refine go_iconst (v := nI 1) (DX5_failing.at 34 rfl) (by decide) ?_
            refine go_iload_4 (DX5_failing.at 35 rfl) ?_
            refine go_ishl (DX5_failing.at 36 rfl) ?_
            rw [nx_shlW 1 (by omega)]
            refine go_ior (DX5_failing.at 37 rfl) ?_
            rw [nx_or]
            refine go_istore_3 (DX5_failing.at 38 rfl) ?_
            refine go_iincN_4 (DX5_failing.at 39 rfl) ?_
            refine go_goto 48 (DX5_failing.at 40 rfl) (by decide) ?_
            have K := ih (j + 1) (by omega)
            first | (rw [show flg v (j + 1) = flg v j from if_pos c61] at K; exact K) | (rw [show flg v (j + 1) = flg v j ||| 1 * 2 ^ j from if_neg c61] at K; exact K)
      exact loop 6 0 (by omega)
    · rw [m1, nI_eq0 (by omega)] at c21
      refine go_bipush (v := (-4)) (DX5_failing.at 12 rfl) (by decide) ?_
      exact go_iret (DX5_failing.at 13 rfl) rfl rfl (RI.mk ⟨rfl, Or.inr ⟨t, ht, rfl, Or.inl ⟨c21, rfl⟩⟩⟩)
  · rw [bP_eq0] at c8
    refine go_iconst (v := (-1)) (DX5_failing.at 5 rfl) (by decide) ?_
    exact go_iret (DX5_failing.at 6 rfl) rfl rfl (RI.mk ⟨rfl, Or.inl ⟨c8, rfl⟩⟩)

end CL
