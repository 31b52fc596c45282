/-! THE CLASS: what a loss would do -/
theorem and_out (M k : Nat) (hM : M < 2 ^ 31) (hk : k ≤ 20) : M &&& ((2 ^ k - 1) ^^^ 4294967295) = 0 ↔ M < 2 ^ k := by
  have e : (4294967295 : Nat) = 2 ^ 32 - 1 := by decide
  rw [e]
  constructor
  · intro h
    apply Nat.lt_of_not_le
    intro hge
    obtain ⟨i, hi, hb⟩ := Nat.exists_ge_and_testBit_of_ge_two_pow hge
    have hi31 : i < 31 := by
      apply Nat.lt_of_not_le
      intro q
      have : M < 2 ^ i := Nat.lt_of_lt_of_le hM (Nat.pow_le_pow_right (by decide) q)
      rw [Nat.testBit_lt_two_pow this] at hb
      cases hb
    have := congrArg (fun z => z.testBit i) h
    rw [Nat.testBit_and, Nat.testBit_xor, Nat.testBit_two_pow_sub_one, Nat.testBit_two_pow_sub_one, hb, Nat.zero_testBit, decide_eq_false (by omega), decide_eq_true (by omega)] at this
    cases this
  · intro h
    apply Nat.eq_of_testBit_eq
    intro i
    rw [Nat.testBit_and, Nat.testBit_xor, Nat.testBit_two_pow_sub_one, Nat.testBit_two_pow_sub_one, Nat.zero_testBit]
    by_cases q : i < k
    · rw [decide_eq_true q, decide_eq_true (by omega)]
      simp
    · have : M < 2 ^ i := Nat.lt_of_lt_of_le h (Nat.pow_le_pow_right (by decide) (by omega))
      rw [Nat.testBit_lt_two_pow this]
      rfl
theorem nn_ex (x : Int32) (h : ¬ x < 0) : ∃ M, M < 2 ^ 31 ∧ x = nI M := by
  have h0 : 0 ≤ x.toInt := by
    rw [Int32.lt_iff_toInt_lt] at h
    have : (0 : Int32).toInt = 0 := by decide
    omega
  have h1 : x.toInt < 2 ^ 31 := x.toInt_lt
  refine ⟨x.toInt.toNat, by omega, ?_⟩
  apply Int32.toInt_inj.mp
  show x.toInt = (Int32.ofNat x.toInt.toNat).toInt
  rw [Int32.toInt_ofNat_of_lt (by omega)]
  omega
section CL
variable {E : AEnv} {d : Nat} {h h' : List va_E} {b : Nat} {N B S : RP} {n : Nat} {Hs : Nat → RP} {tk : Nat} {o X : Nat → Int32} {G : Nat → Option va_E} {σ : Rows} {g s T sh : Nat}
theorem c_survives {x : Int32} {C : Nat → Nat → Nat} (hC : ClAt G h b N B S n Hs tk o X) (hS : StAt h (b + 1) σ) (hL : LayX σ g s T sh) (hX : ColX σ (nc g s) C) (hd : 4 ≤ d) : Calls E mX5_survives d 0 0 [.ref b, .int x] h (RI (fun r h' => (¬ inR x (2 ^ nc g s) ∧ r = (-2) ∧ h' = h) ∨ ∃ M, M < 2 ^ nc g s ∧ x = nI M ∧ r = bP (IndP C M (nc g s)) ∧ ClAt G h' b N B S n Hs tk o X)) := by
  refine Calls.of (ls := [some (.ref b), some (.int x)]) (by decide +kernel) rfl (Nat.le_of_ble_eq_true rfl) (cat_ok rfl) ?_
  have hn20 := hL.2.2.2.2.nc
  have h2n : 2 ^ nc g s ≤ 2 ^ 20 := Nat.pow_le_pow_right (by decide) hn20.2
  have hpl := hC.2.2.2.2.2.2.2.1
  obtain ⟨s0, t0, hp, r0, cf0, lf0, hB0⟩ := hpl
  refine go_iload_1 (DX5_survives.at 0 rfl) ?_
  refine go_if_lt 18 (DX5_survives.at 1 rfl) (by decide) (fun c1 => ?_) (fun c1 => ?_)
  · refine go_bipush (v := (-2)) (DX5_survives.at 10 rfl) (by decide) ?_
    exact go_iret (DX5_survives.at 11 rfl) rfl rfl (RI.mk (Or.inl ⟨fun q => by first | exact absurd c1 (Int32.not_lt.mpr q.1) | (obtain ⟨j, hj, e⟩ := inR_ex (by omega) q; rw [nI_eq hM (by omega)] at e; omega), rfl, rfl⟩))
  · obtain ⟨M, hM, rfl⟩ := nn_ex x c1
    refine go_iload_1 (DX5_survives.at 2 rfl) ?_
    refine go_aload_0 (DX5_survives.at 3 rfl) ?_
    refine go_getfield (DX5_survives.at 4 rfl) fX5_10 hC.1 rfl ?_
    refine go_cVx0 (DX5_survives.at 5 rfl) nX5_168 vX4_allCells (by omega) (c_allCells hS hL (by omega)) hS.1 rfl (Nat.le_of_ble_eq_true rfl) ?_
    refine go_iconst (v := (-1)) (DX5_survives.at 6 rfl) (by decide) ?_
    refine go_ixor (DX5_survives.at 7 rfl) ?_
    refine go_iand (DX5_survives.at 8 rfl) ?_
    refine go_if_eq 21 (DX5_survives.at 9 rfl) (by decide) (fun c15 => ?_) (fun c15 => ?_)
    · rw [not_nI, nx_and, nI_eq0 (Nat.lt_of_le_of_lt Nat.and_le_left hM), and_out M _ hM hn20.2] at c15
      have hM2 := c15
      refine go_aload_0 (DX5_survives.at 12 rfl) ?_
      refine go_getfield (DX5_survives.at 13 rfl) fX5_36 hC.1 rfl ?_
      refine go_aload_0 (DX5_survives.at 14 rfl) ?_
      refine go_getfield (DX5_survives.at 15 rfl) fX5_10 hC.1 rfl ?_
      refine go_iload_1 (DX5_survives.at 16 rfl) ?_
      refine go_cVi2 (DX5_survives.at 17 rfl) nX5_219 vX2_canMendAll (by omega) (c_canMendAll hp hB0 hS hL hX hM2 (by omega) (by omega)) hp rfl (Nat.le_of_ble_eq_true rfl) (fun x30 h30 q30 => ?_)
      obtain ⟨u, ⟨s1, t1, q1⟩, q2⟩ := q30
      have hC2 := hC.toPlan ⟨q1, u⟩
      refine go_if_eq 40 (DX5_survives.at 18 rfl) (by decide) (fun c33 => ?_) (fun c33 => ?_)
      · rw [q2, bP_eq0] at c33
        refine go_iconst (v := nI 0) (DX5_survives.at 21 rfl) (by decide) ?_
        exact go_iret (DX5_survives.at 22 rfl) rfl rfl (RI.mk (Or.inr ⟨M, hM2, rfl, by first | exact (bP_t c33).symm | exact (bP_f c33).symm, hC2⟩))
      · rw [q2, bP_eq0, Classical.not_not] at c33
        refine go_iconst (v := nI 1) (DX5_survives.at 19 rfl) (by decide) ?_
        refine go_goto 41 (DX5_survives.at 20 rfl) (by decide) ?_
        exact go_iret (DX5_survives.at 22 rfl) rfl rfl (RI.mk (Or.inr ⟨M, hM2, rfl, by first | exact (bP_t c33).symm | exact (bP_f c33).symm, hC2⟩))
    · rw [not_nI, nx_and, nI_eq0 (Nat.lt_of_le_of_lt Nat.and_le_left hM), and_out M _ hM hn20.2] at c15
      refine go_bipush (v := (-2)) (DX5_survives.at 10 rfl) (by decide) ?_
      exact go_iret (DX5_survives.at 11 rfl) rfl rfl (RI.mk (Or.inl ⟨fun q => by first | exact absurd c1 (Int32.not_lt.mpr q.1) | (obtain ⟨j, hj, e⟩ := inR_ex (by omega) q; rw [nI_eq hM (by omega)] at e; omega), rfl, rfl⟩))

end CL
