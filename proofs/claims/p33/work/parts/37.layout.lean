/-! THE CLASS: at the start; totals; a new layout -/
theorem ClNew.cl {G : Nat → Option va_E} {h : List va_E} {b : Nat} {Hs : Nat → RP} (q : ClNew h b) (fr : Frm G b h) : ClAt G h b StNew StNew StNew 0 Hs 0 (fun _ => 0) (fun _ => 0) := by
  obtain ⟨q0, ⟨q1, q2, q3, q4, q5, q6⟩, F, hF, hT⟩ := q
  exact ⟨q0, by omega, q1, q2, q3, ⟨F, fun i => i, hF, fun i hi => ⟨hi, (hT i hi).1⟩, fun i j _ _ e => e, fun i hi => by
    obtain ⟨σ, s, -⟩ := (hT i hi).2
    exact ⟨σ, s⟩, fun i hi => absurd hi (Nat.not_lt_zero i)⟩, q4, ⟨_, _, q5⟩, fr, _, _, _, _, q6⟩
theorem StNew.rc : RC StNew := by
  intro σ σ' ⟨e1, e2⟩ ⟨⟨l1, l2, l3, l4, l5⟩, h1, h2, h3⟩
  refine ⟨⟨(e1 0 (by omega)).trans l1, (e1 1 (by omega)).trans l2, (e1 2 (by omega)).trans l3, (e1 3 (by omega)).trans l4, l5⟩, fun i g1 g2 => (e1 i g2).trans (h1 i g1 g2), fun a g1 g2 j hj => (e2 a (by omega) (by omega) j hj).trans (h2 a g1 g2 j hj), fun c hc => ⟨(e2 5 (by omega) (by omega) c (by have : nc 2 3 = 10 := rfl; show c < 20; omega)).trans (h3 c hc).1, (h3 c hc).2⟩⟩
/-- what total answers for j -/
def totv (σ : Rows) (g s : Nat) (n : Nat) (o : Nat → Int32) (j : Nat) : Int32 := if j < 4 then σ 0 j else if j = 4 then nI (nc g s) else if j = 5 then σ 0 8 else if j < 10 then σ 0 (j - 2) else if j = 10 then nI n else o 1
section CL
variable {E : AEnv} {d : Nat} {h h' : List va_E} {b : Nat} {N B S : RP} {n : Nat} {Hs : Nat → RP} {tk : Nat} {o X : Nat → Int32} {G : Nat → Option va_E} {σ : Rows} {g s T sh : Nat}
theorem c_total {j : Nat} (hj : j < 12) (hC : ClAt G h b N B S n Hs tk o X) (hS : StAt h (b + 1) σ) (hL : LayX σ g s T sh) (hd : 2 ≤ d) : Calls E mX5_total d 0 0 [.ref b, .int (nI j)] h (RX (totv σ g s n o j) h) := by
  refine Calls.of (ls := [some (.ref b), some (.int (nI j))]) (by decide +kernel) rfl (Nat.le_of_ble_eq_true rfl) (cat_ok rfl) ?_
  refine go_iload_1 (DX5_total.at 0 rfl) ?_
  rcases (show j = 0 ∨ j = 1 ∨ j = 2 ∨ j = 3 ∨ j = 4 ∨ j = 5 ∨ j = 6 ∨ j = 7 ∨ j = 8 ∨ j = 9 ∨ j = 10 ∨ j = 11 by omega) with rfl | rfl | rfl | rfl | rfl | rfl | rfl | rfl | rfl | rfl | rfl | rfl
  · refine go_tableIn (off := 63) 64 (DX5_total.at 1 rfl) (by decide) (by decide) rfl (by decide) ?_
    refine go_aload_0 (DX5_total.at 2 rfl) ?_
    refine go_getfield (DX5_total.at 3 rfl) fX5_10 hC.1 rfl ?_
    refine go_getfield (DX5_total.at 4 rfl) fX5_177 hS.1 rfl ?_
    exact go_iret (DX5_total.at 5 rfl) rfl rfl (RX.mk rfl rfl)
  · refine go_tableIn (off := 71) 72 (DX5_total.at 1 rfl) (by decide) (by decide) rfl (by decide) ?_
    refine go_aload_0 (DX5_total.at 6 rfl) ?_
    refine go_getfield (DX5_total.at 7 rfl) fX5_10 hC.1 rfl ?_
    refine go_getfield (DX5_total.at 8 rfl) fX5_180 hS.1 rfl ?_
    exact go_iret (DX5_total.at 9 rfl) rfl rfl (RX.mk rfl rfl)
  · refine go_tableIn (off := 79) 80 (DX5_total.at 1 rfl) (by decide) (by decide) rfl (by decide) ?_
    refine go_aload_0 (DX5_total.at 10 rfl) ?_
    refine go_getfield (DX5_total.at 11 rfl) fX5_10 hC.1 rfl ?_
    refine go_getfield (DX5_total.at 12 rfl) fX5_183 hS.1 rfl ?_
    exact go_iret (DX5_total.at 13 rfl) rfl rfl (RX.mk rfl rfl)
  · refine go_tableIn (off := 87) 88 (DX5_total.at 1 rfl) (by decide) (by decide) rfl (by decide) ?_
    refine go_aload_0 (DX5_total.at 14 rfl) ?_
    refine go_getfield (DX5_total.at 15 rfl) fX5_10 hC.1 rfl ?_
    refine go_getfield (DX5_total.at 16 rfl) fX5_186 hS.1 rfl ?_
    exact go_iret (DX5_total.at 17 rfl) rfl rfl (RX.mk rfl rfl)
  · refine go_tableIn (off := 95) 96 (DX5_total.at 1 rfl) (by decide) (by decide) rfl (by decide) ?_
    refine go_aload_0 (DX5_total.at 18 rfl) ?_
    refine go_getfield (DX5_total.at 19 rfl) fX5_10 hC.1 rfl ?_
    refine go_cVx0 (DX5_total.at 20 rfl) nX5_66 vX4_cellCount (by omega) (c_cellCount hS hL) hS.1 rfl (Nat.le_of_ble_eq_true rfl) ?_
    exact go_iret (DX5_total.at 21 rfl) rfl rfl (RX.mk rfl rfl)
  · refine go_tableIn (off := 103) 104 (DX5_total.at 1 rfl) (by decide) (by decide) rfl (by decide) ?_
    refine go_aload_0 (DX5_total.at 22 rfl) ?_
    refine go_getfield (DX5_total.at 23 rfl) fX5_10 hC.1 rfl ?_
    refine go_getfield (DX5_total.at 24 rfl) fX5_131 hS.1 rfl ?_
    exact go_iret (DX5_total.at 25 rfl) rfl rfl (RX.mk rfl rfl)
  · refine go_tableIn (off := 111) 112 (DX5_total.at 1 rfl) (by decide) (by decide) rfl (by decide) ?_
    refine go_aload_0 (DX5_total.at 26 rfl) ?_
    refine go_getfield (DX5_total.at 27 rfl) fX5_10 hC.1 rfl ?_
    refine go_getfield (DX5_total.at 28 rfl) fX5_189 hS.1 rfl ?_
    exact go_iret (DX5_total.at 29 rfl) rfl rfl (RX.mk rfl rfl)
  · refine go_tableIn (off := 119) 120 (DX5_total.at 1 rfl) (by decide) (by decide) rfl (by decide) ?_
    refine go_aload_0 (DX5_total.at 30 rfl) ?_
    refine go_getfield (DX5_total.at 31 rfl) fX5_10 hC.1 rfl ?_
    refine go_getfield (DX5_total.at 32 rfl) fX5_192 hS.1 rfl ?_
    exact go_iret (DX5_total.at 33 rfl) rfl rfl (RX.mk rfl rfl)
  · refine go_tableIn (off := 127) 128 (DX5_total.at 1 rfl) (by decide) (by decide) rfl (by decide) ?_
    refine go_aload_0 (DX5_total.at 34 rfl) ?_
    refine go_getfield (DX5_total.at 35 rfl) fX5_10 hC.1 rfl ?_
    refine go_getfield (DX5_total.at 36 rfl) fX5_195 hS.1 rfl ?_
    exact go_iret (DX5_total.at 37 rfl) rfl rfl (RX.mk rfl rfl)
  · refine go_tableIn (off := 135) 136 (DX5_total.at 1 rfl) (by decide) (by decide) rfl (by decide) ?_
    refine go_aload_0 (DX5_total.at 38 rfl) ?_
    refine go_getfield (DX5_total.at 39 rfl) fX5_10 hC.1 rfl ?_
    refine go_getfield (DX5_total.at 40 rfl) fX5_198 hS.1 rfl ?_
    exact go_iret (DX5_total.at 41 rfl) rfl rfl (RX.mk rfl rfl)
  · refine go_tableIn (off := 143) 144 (DX5_total.at 1 rfl) (by decide) (by decide) rfl (by decide) ?_
    refine go_aload_0 (DX5_total.at 42 rfl) ?_
    refine go_getfield (DX5_total.at 43 rfl) fX5_47 hC.1 rfl ?_
    exact go_iret (DX5_total.at 44 rfl) rfl rfl (RX.mk rfl rfl)
  · refine go_tableIn (off := 148) 149 (DX5_total.at 1 rfl) (by decide) (by decide) rfl (by decide) ?_
    refine go_aload_0 (DX5_total.at 45 rfl) ?_
    refine go_getfield (DX5_total.at 46 rfl) fX5_29 hC.1 rfl ?_
    refine go_getfield (DX5_total.at 47 rfl) fX5_104 hC.2.2.2.2.2.2.1.1 rfl ?_
    exact go_iret (DX5_total.at 48 rfl) rfl rfl (RX.mk rfl rfl)

theorem c_totalOut {x : Int32} (hx : ¬ inR x 12) : Calls E mX5_total d 0 0 [.ref b, .int x] h (RX (-2) h) := by
  refine Calls.of (ls := [some (.ref b), some (.int x)]) (by decide +kernel) rfl (Nat.le_of_ble_eq_true rfl) (cat_ok rfl) ?_
  have key : x.toInt < 0 ∨ 11 < x.toInt := by
    by_cases q : x < 0
    · exact Or.inl (Int32.lt_iff_toInt_lt.mp q)
    · have q2 : ¬ x < nI 12 := fun q2 => hx ⟨Int32.not_lt.mp q, q2⟩
      rw [Int32.lt_iff_toInt_lt, show (nI 12).toInt = 12 from by decide] at q2
      exact Or.inr (by omega)
  refine go_iload_1 (DX5_total.at 0 rfl) ?_
  refine go_tableOut 157 (DX5_total.at 1 rfl) key (by decide) ?_
  refine go_bipush (v := (-2)) (DX5_total.at 49 rfl) (by decide) ?_
  exact go_iret (DX5_total.at 50 rfl) rfl rfl (RX.mk rfl rfl)

/-- a state that was laid out anew out of an N state -/
def LaidOut (N : RP) (g s T sh : Nat) : RP := fun σ' => ∃ σ, N σ ∧ LayX σ' g s T sh ∧ (∀ k, 4 ≤ k → k < 8 → σ' 0 k = σ 0 k) ∧ σ' 0 8 = nI 0 ∧ (∀ a, 2 ≤ a → a ≤ 4 → ∀ j, j < nA a → σ' a j = nI 0) ∧ ColX σ' (nc g s) (colv g s)
theorem c_setLayout {x y z w : Int32} (hC : ClAt G h b N B S n Hs tk o X) (hN : RC N) (hd : 6 ≤ d) : Calls E mX5_setLayout d 0 0 [.ref b, .int x, .int y, .int z, .int w] h (RI (fun r h' => (¬ ((nI 1 ≤ x ∧ x ≤ nI 4) ∧ (nI 2 ≤ y ∧ y ≤ nI 6) ∧ ¬ nI 15 < x * y ∧ (nI 1 ≤ z ∧ z ≤ nI 8) ∧ (nI 0 ≤ w ∧ w ≤ nI 5)) ∧ r = (-2) ∧ h' = h) ∨ ∃ g s T sh, x = nI g ∧ y = nI s ∧ z = nI T ∧ w = nI sh ∧ LayOK g s T sh ∧ r = nI (nc g s) ∧ ClAt G h' b (LaidOut N g s T sh) N S (recN n) (recH n Hs N) tk o X)) := by
  refine Calls.of (ls := [some (.ref b), some (.int x), some (.int y), some (.int z), some (.int w)]) (by decide +kernel) rfl (Nat.le_of_ble_eq_true rfl) (cat_ok rfl) ?_
  refine go_iload_1 (DX5_setLayout.at 0 rfl) ?_
  refine go_iconst (v := nI 1) (DX5_setLayout.at 1 rfl) (by decide) ?_
  refine go_iconst (v := nI 4) (DX5_setLayout.at 2 rfl) (by decide) ?_
  refine go_cSx3 (DX5_setLayout.at 3 rfl) nX5_55 vX5_isWithin (by omega) c_isWithin (Nat.le_of_ble_eq_true rfl) ?_
  refine go_if_eq 47 (DX5_setLayout.at 4 rfl) (by decide) (fun c6 => ?_) (fun c6 => ?_)
  · rw [bI_eq0] at c6
    refine go_bipush (v := (-2)) (DX5_setLayout.at 25 rfl) (by decide) ?_
    exact go_iret (DX5_setLayout.at 26 rfl) rfl rfl (RI.mk (Or.inl ⟨by first | exact fun q => c6 q.1 | exact fun q => c16 q.2.1 | exact fun q => q.2.2.1 c24 | exact fun q => c34 q.2.2.2.1 | exact fun q => c44 q.2.2.2.2, rfl, rfl⟩))
  · rw [bI_eq0, Classical.not_not] at c6
    refine go_iload_2 (DX5_setLayout.at 5 rfl) ?_
    refine go_iconst (v := nI 2) (DX5_setLayout.at 6 rfl) (by decide) ?_
    refine go_bipush (v := nI 6) (DX5_setLayout.at 7 rfl) (by decide) ?_
    refine go_cSx3 (DX5_setLayout.at 8 rfl) nX5_55 vX5_isWithin (by omega) c_isWithin (Nat.le_of_ble_eq_true rfl) ?_
    refine go_if_eq 47 (DX5_setLayout.at 9 rfl) (by decide) (fun c16 => ?_) (fun c16 => ?_)
    · rw [bI_eq0] at c16
      refine go_bipush (v := (-2)) (DX5_setLayout.at 25 rfl) (by decide) ?_
      exact go_iret (DX5_setLayout.at 26 rfl) rfl rfl (RI.mk (Or.inl ⟨by first | exact fun q => c6 q.1 | exact fun q => c16 q.2.1 | exact fun q => q.2.2.1 c24 | exact fun q => c34 q.2.2.2.1 | exact fun q => c44 q.2.2.2.2, rfl, rfl⟩))
    · rw [bI_eq0, Classical.not_not] at c16
      refine go_iload_1 (DX5_setLayout.at 10 rfl) ?_
      refine go_iload_2 (DX5_setLayout.at 11 rfl) ?_
      refine go_imul (DX5_setLayout.at 12 rfl) ?_
      refine go_bipush (v := nI 15) (DX5_setLayout.at 13 rfl) (by decide) ?_
      refine go_icmp_gt 47 (DX5_setLayout.at 14 rfl) (by decide) (fun c24 => ?_) (fun c24 => ?_)
      · refine go_bipush (v := (-2)) (DX5_setLayout.at 25 rfl) (by decide) ?_
        exact go_iret (DX5_setLayout.at 26 rfl) rfl rfl (RI.mk (Or.inl ⟨by first | exact fun q => c6 q.1 | exact fun q => c16 q.2.1 | exact fun q => q.2.2.1 c24 | exact fun q => c34 q.2.2.2.1 | exact fun q => c44 q.2.2.2.2, rfl, rfl⟩))
      · refine go_iload_3 (DX5_setLayout.at 15 rfl) ?_
        refine go_iconst (v := nI 1) (DX5_setLayout.at 16 rfl) (by decide) ?_
        refine go_bipush (v := nI 8) (DX5_setLayout.at 17 rfl) (by decide) ?_
        refine go_cSx3 (DX5_setLayout.at 18 rfl) nX5_55 vX5_isWithin (by omega) c_isWithin (Nat.le_of_ble_eq_true rfl) ?_
        refine go_if_eq 47 (DX5_setLayout.at 19 rfl) (by decide) (fun c34 => ?_) (fun c34 => ?_)
        · rw [bI_eq0] at c34
          refine go_bipush (v := (-2)) (DX5_setLayout.at 25 rfl) (by decide) ?_
          exact go_iret (DX5_setLayout.at 26 rfl) rfl rfl (RI.mk (Or.inl ⟨by first | exact fun q => c6 q.1 | exact fun q => c16 q.2.1 | exact fun q => q.2.2.1 c24 | exact fun q => c34 q.2.2.2.1 | exact fun q => c44 q.2.2.2.2, rfl, rfl⟩))
        · rw [bI_eq0, Classical.not_not] at c34
          refine go_iload_4 (DX5_setLayout.at 20 rfl) ?_
          refine go_iconst (v := nI 0) (DX5_setLayout.at 21 rfl) (by decide) ?_
          refine go_iconst (v := nI 5) (DX5_setLayout.at 22 rfl) (by decide) ?_
          refine go_cSx3 (DX5_setLayout.at 23 rfl) nX5_55 vX5_isWithin (by omega) c_isWithin (Nat.le_of_ble_eq_true rfl) ?_
          refine go_if_ne 50 (DX5_setLayout.at 24 rfl) (by decide) (fun c44 => ?_) (fun c44 => ?_)
          · rw [bI_eq0, Classical.not_not] at c44
            obtain ⟨g, hg, rfl⟩ := inR_ex (n := 5) (by decide) (show inR x 5 from ⟨Int32.le_trans (by decide) c6.1, Int32.lt_of_le_of_lt c6.2 (by decide)⟩)
            obtain ⟨s, hs, rfl⟩ := inR_ex (n := 7) (by decide) (show inR y 7 from ⟨Int32.le_trans (by decide) c16.1, Int32.lt_of_le_of_lt c16.2 (by decide)⟩)
            obtain ⟨T, hT, rfl⟩ := inR_ex (n := 9) (by decide) (show inR z 9 from ⟨Int32.le_trans (by decide) c34.1, Int32.lt_of_le_of_lt c34.2 (by decide)⟩)
            obtain ⟨sh, hsh, rfl⟩ := inR_ex (n := 6) (by decide) (show inR w 6 from ⟨Int32.le_trans (by decide) c44.1, Int32.lt_of_le_of_lt c44.2 (by decide)⟩)
            have hgs : g * s ≤ 28 := Nat.le_trans (Nat.mul_le_mul (show g ≤ 4 by omega) (show s ≤ 6 by omega)) (by decide)
            rw [pk_mul, nI_ltI (by decide) (by omega)] at c24
            rw [nI_leI (by decide) (by omega)] at c6 c16 c34
            have hLO : LayOK g s T sh := ⟨c6.1, by omega, c16.1, by omega, by omega, c34.1, by omega, by omega⟩
            obtain ⟨σ0, s0, w0⟩ := hC.2.2.1
            refine go_aload_0 (DX5_setLayout.at 27 rfl) ?_
            refine go_cVv0 (DX5_setLayout.at 28 rfl) nX5_59 vX5_begin (by omega) (c_begin hC hN (by omega)) hC.1 rfl (Nat.le_of_ble_eq_true rfl) (fun h51 q51 => ?_)
            obtain ⟨σn, sn, wn⟩ := q51.2.2.1
            refine go_aload_0 (DX5_setLayout.at 29 rfl) ?_
            refine go_getfield (DX5_setLayout.at 30 rfl) fX5_10 q51.1 rfl ?_
            refine go_iload_1 (DX5_setLayout.at 31 rfl) ?_
            refine go_iload_2 (DX5_setLayout.at 32 rfl) ?_
            refine go_iload_3 (DX5_setLayout.at 33 rfl) ?_
            refine go_iload_4 (DX5_setLayout.at 34 rfl) ?_
            refine go_cVv4 (DX5_setLayout.at 35 rfl) nX5_62 vX4_layOut (by omega) (c_layOut sn hLO (by omega)) sn.1 rfl (Nat.le_of_ble_eq_true rfl) (fun h63 q63 => ?_)
            obtain ⟨σ', u, hLX, k1, k2, k3, k4⟩ := q63
            have hC2 : ClAt G h63 b (LaidOut N g s T sh) N S n Hs tk o X := q51.toNow u ⟨σn, wn, hLX, k1, k2, k3, k4⟩
            refine go_aload_0 (DX5_setLayout.at 36 rfl) ?_
            refine go_aload_0 (DX5_setLayout.at 37 rfl) ?_
            refine go_getfield (DX5_setLayout.at 38 rfl) fX5_10 hC2.1 rfl ?_
            refine go_cVx0 (DX5_setLayout.at 39 rfl) nX5_66 vX4_cellCount (by omega) (c_cellCount u.1 hLX) u.1.1 rfl (Nat.le_of_ble_eq_true rfl) ?_
            refine go_cVi1 (DX5_setLayout.at 40 rfl) nX5_70 vX5_finish (by omega) (c_finishYes hC2 hN (nI_le0 (by have := hLO.nc; omega)) (by omega)) hC2.1 rfl (Nat.le_of_ble_eq_true rfl) (fun x74 h74 q74 => ?_)
            exact go_iret (DX5_setLayout.at 41 rfl) rfl rfl (RI.mk (Or.inr ⟨g, s, T, sh, rfl, rfl, rfl, rfl, hLO, q74.1, q74.2⟩))
          · rw [bI_eq0] at c44
            refine go_bipush (v := (-2)) (DX5_setLayout.at 25 rfl) (by decide) ?_
            exact go_iret (DX5_setLayout.at 26 rfl) rfl rfl (RI.mk (Or.inl ⟨by first | exact fun q => c6 q.1 | exact fun q => c16 q.2.1 | exact fun q => q.2.2.1 c24 | exact fun q => c34 q.2.2.2.1 | exact fun q => c44 q.2.2.2.2, rfl, rfl⟩))

end CL
