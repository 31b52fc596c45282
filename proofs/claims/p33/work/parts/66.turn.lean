/-! THE LAW: one turn, from its ways on -/
theorem un_ok {Z : Zt} {R : Int32 × Ab} (h : ¬ R.1 < 0) : ¬ (unZ (chZ Z R).2).1 < 0 ∧ zA (unZ (chZ Z R).2).2 = zA Z := by
  rw [chZ_yes h]
  have hz : zn (R.2, (recN (zn Z), recA (zn Z) (zH Z) (zA Z)), Z.2.2) = recN (zn Z) := rfl
  have hp : recN (zn Z) ≠ 0 ∧ recN (zn Z) ≤ 4 := by
    unfold recN
    split <;> omega
  unfold unZ
  rw [hz, if_neg hp.1]
  refine ⟨nI_pos (by omega), ?_⟩
  show recA (zn Z) (zH Z) (zA Z) (recN (zn Z) - 1) = zA Z
  by_cases q : zn Z < 4
  · have e1 : recN (zn Z) = zn Z + 1 := if_pos q
    rw [e1]
    unfold recA
    exact if_pos (by rw [if_pos q, Nat.add_sub_cancel])
  · have e1 : recN (zn Z) = 4 := if_neg q
    rw [e1]
    unfold recA
    exact if_pos (by
      show (3 : Nat) = _
      exact (if_neg q).symm)
theorem as_wn {A : Ab} {t c : Nat} (hA : AOK A) (ht : t < aT A) (hc : c < nc (aG A) (aS A)) (hb : bit (aM A t) c) : asF A (nI t) (nI c) (fun w _ _ => nI w) 0 = wnF A t c := by
  rcases way_cases A t c with ⟨w, src, X, hw⟩ | hw
  · rw [asF_s hA ht hc hb hw, wnF_s hb hw]
  · rw [asF_0 hA ht hc hb hw, wnF_0 hb hw]
section LW
variable {E : AEnv} {d : Nat} {h : List va_E} {ρ : Nat → Nat → Int32} {A : Ab} {Z : Zt} {Ψ : Pst} {fi x11 x12 x13 : Int32} {k t c v turn : Nat}
theorem l_609 {Z' : Zt} {w14 : Int64} (hd : 10 ≤ d) (hC : Cnd A k t c v) (hW : ∀ t', t' < aT A → ρ 5 t' = wnF A t' (ccA A k c t')) (h60 : ρ 6 0 = nI k) (h61 : ρ 6 1 = nI t) (h62 : ρ 6 2 = nI c) (h63 : ρ 6 3 = nI v) (hK : Cw A) (hL : LA h ρ) (hR : LR A ρ) (hZ : CZ (fun j => h[j]?) Z' h 0) (eZ : zA Z' = stp A (opR A k t c v))
    (K : ∀ h1 ρ1, CZ (fun j => h1[j]?) Z' h1 0 → LA h1 ρ1 → LR (zA Z') ρ1 → Cw (zA Z') → Go E mL_law d 0 0 167 [some (.ref (BIGN + 2)), some (.ref 0), some (.ref 52), some (.ref 53), some (.ref 54), some (.ref 55), some (.ref 56), some (.ref 57), some (.ref 58), some (.int fi), some (.int (nI (turn + 1))), some (.int x11), some (.int x12), some (.int x13), some (.long w14), none, some (.int (opR A k t c v).1)] [] h1 Ψ) : Go E mL_law d 0 0 609 [some (.ref (BIGN + 2)), some (.ref 0), some (.ref 52), some (.ref 53), some (.ref 54), some (.ref 55), some (.ref 56), some (.ref 57), some (.ref 58), some (.int fi), some (.int (nI turn)), some (.int x11), some (.int x12), some (.int x13), some (.long w14), none, some (.int (opR A k t c v).1)] [] h Ψ := by
  refine go_iload_16 (DW7.at 11 rfl) ?_
  refine go_aload_7 (DW7.at 12 rfl) ?_
  refine go_aload_8 (DW7.at 13 rfl) ?_
  refine go_aload_2 (DW7.at 14 rfl) ?_
  refine go_aload_3 (DW7.at 15 rfl) ?_
  refine go_aload_4 (DW7.at 16 rfl) ?_
  refine go_aload_5 (DW7.at 17 rfl) ?_
  refine go_aload_6 (DW7.at 18 rfl) ?_
  refine go_cSi8 (DW7.at 19 rfl) nL_160 vL_does (by omega) (c_does hC hW rfl h60 h61 h62 h63 hK hL hR (by omega)) (Nat.le_of_ble_eq_true rfl) (fun x623 h623 q623 => ?_)
  obtain ⟨e623, O1, ρ1, L1, R1⟩ := q623
  subst e623
  have Z1 := hZ.keep O1 (by omega)
  have hK1 := op_cw hR.1 hK hC
  refine go_if_eq 644 (DW7.at 20 rfl) (by decide) (fun c626 => absurd c626 (by decide)) (fun c626 => ?_)
  refine go_aload_1 (DW7.at 21 rfl) ?_
  refine go_aload_2 (DW7.at 22 rfl) ?_
  refine go_aload_3 (DW7.at 23 rfl) ?_
  refine go_aload_4 (DW7.at 24 rfl) ?_
  refine go_aload_5 (DW7.at 25 rfl) ?_
  refine go_aload_6 (DW7.at 26 rfl) ?_
  refine go_cSi6 (DW7.at 27 rfl) nL_141 vL_isSo (by omega) (c_isSo hK1 eZ Z1 L1 R1 (by omega)) (Nat.le_of_ble_eq_true rfl) (fun x638 h638 q638 => ?_)
  obtain ⟨e638, Z2⟩ := q638
  subst e638
  refine go_if_ne 646 (DW7.at 28 rfl) (by decide) (fun c641 => ?_) (fun c641 => absurd c641 (by decide))
  refine go_iincN_10 (DW7.at 31 rfl) ?_
  refine go_goto 167 (DW7.at 32 rfl) (by decide) ?_
  exact K h638 ρ1 (Z2.re (fun _ _ => rfl)) (L1.cz Z2) (by rw [eZ]; exact R1) (by rw [eZ]; exact hK1)
theorem l_509 {u14 u15 u16 : Option Value} (hd : 10 ≤ d) (hC : Cnd A k t c v) (h60 : ρ 6 0 = nI k) (h61 : ρ 6 1 = nI t) (h62 : ρ 6 2 = nI c) (h63 : ρ 6 3 = nI v) (hL : LA h ρ) (hR : LR A ρ) (hZ : CZ (fun j => h[j]?) Z h 0) (eA : zA Z = A)
    (K : ∀ h1 Z' w14, CZ (fun j => h1[j]?) Z' h1 0 → zA Z' = stp A (opR A k t c v) → LA h1 ρ → Go E mL_law d 0 0 609 [some (.ref (BIGN + 2)), some (.ref 0), some (.ref 52), some (.ref 53), some (.ref 54), some (.ref 55), some (.ref 56), some (.ref 57), some (.ref 58), some (.int fi), some (.int (nI turn)), some (.int x11), some (.int x12), some (.int x13), some (.long w14), none, some (.int (opR A k t c v).1)] [] h1 Ψ) : Go E mL_law d 0 0 509 [some (.ref (BIGN + 2)), some (.ref 0), some (.ref 52), some (.ref 53), some (.ref 54), some (.ref 55), some (.ref 56), some (.ref 57), some (.ref 58), some (.int fi), some (.int (nI turn)), some (.int x11), some (.int x12), some (.int x13), u14, u15, u16] [] h Ψ := by
  refine go_aload_1 (DW6.at 3 rfl) ?_
  refine go_cSl1 (DW6.at 4 rfl) nL_149 vL_told (by omega) (c_told hZ (by rw [eA]; exact hR.1) (by omega)) (Nat.le_of_ble_eq_true rfl) (fun x510 h510 q510 => ?_)
  obtain ⟨e510, Z510⟩ := q510
  subst e510
  have L510 := hL.cz Z510
  refine go_lstore_14 (DW6.at 5 rfl) ?_
  refine go_aload_1 (DW6.at 6 rfl) ?_
  refine go_aload_8 (DW6.at 7 rfl) ?_
  refine go_iconst (v := nI 0) (DW6.at 8 rfl) (by decide) ?_
  refine go_ialdL 6 (DW6.at 9 rfl) L510 (by decide) (show 0 < 4 by decide) ?_
  rw [h60]
  refine go_aload_8 (DW6.at 10 rfl) ?_
  refine go_iconst (v := nI 1) (DW6.at 11 rfl) (by decide) ?_
  refine go_ialdL 6 (DW6.at 12 rfl) L510 (by decide) (show 1 < 4 by decide) ?_
  rw [h61]
  refine go_aload_8 (DW6.at 13 rfl) ?_
  refine go_iconst (v := nI 2) (DW6.at 14 rfl) (by decide) ?_
  refine go_ialdL 6 (DW6.at 15 rfl) L510 (by decide) (show 2 < 4 by decide) ?_
  rw [h62]
  refine go_aload_8 (DW6.at 16 rfl) ?_
  refine go_iconst (v := nI 3) (DW6.at 17 rfl) (by decide) ?_
  refine go_ialdL 6 (DW6.at 18 rfl) L510 (by decide) (show 3 < 4 by decide) ?_
  rw [h63]
  refine go_cSi5 (DW6.at 19 rfl) nL_153 vL_call (by omega) (c_call (k := k) (t := t) (c := c) (v := v) hC.1 Z510 (by omega)) (Nat.le_of_ble_eq_true rfl) (fun x532 h532 q532 => ?_)
  obtain ⟨e532, Z532⟩ := q532
  rw [eA] at e532 Z532
  rw [chZ_1] at e532
  subst e532
  obtain ⟨n532, k532, o532⟩ := Z532.obj
  have eA1 : zA (chZ Z (opR A k t c v)).2 = stp A (opR A k t c v) := by rw [chZ_A, eA]
  refine go_istore_16 (DW6.at 20 rfl) ?_
  refine go_iload_16 (DW6.at 21 rfl) ?_
  refine go_if_ge 555 (DW6.at 22 rfl) (by decide) (fun c539 => ?_) (fun c539 => ?_)
  · have hneg : ¬ (opR A k t c v).1 < 0 := Int32.not_lt.mpr c539
    have hu := un_ok (Z := Z) hneg
    have eP : CZ (fun j => h[j]?) (chZ Z (opR A k t c v)).2 h532 0 ∧ zA (chZ Z (opR A k t c v)).2 = stp A (opR A k t c v) := ⟨Z532, eA1⟩
    refine go_iload_11 (DW6.at 29 rfl) ?_
    refine go_bipush (v := nI 20) (DW6.at 30 rfl) (by decide) ?_
    refine go_ishr (DW6.at 31 rfl) ?_
    refine go_iconst (v := nI 3) (DW6.at 32 rfl) (by decide) ?_
    refine go_iand (DW6.at 33 rfl) ?_
    refine go_if_ne 609 (DW6.at 34 rfl) (by decide) (fun c562 => ?_) (fun c562 => ?_)
    · exact K _ _ _ (eP.1.re (fun _ _ => rfl)) eP.2 (hL.cz eP.1)
    · refine go_aload_1 (DW6.at 35 rfl) ?_
      refine go_cVi0 (DW6.at 36 rfl) nL_157 vX5_undo (by omega) (z_undo Z532 (by omega)) o532 rfl (Nat.le_of_ble_eq_true rfl) (fun x566 h566 q566 => ?_)
      obtain ⟨e566, Z566⟩ := q566
      subst e566
      refine go_if_lt 607 (DW6.at 37 rfl) (by decide) (fun c569 => absurd c569 hu.1) (fun c569 => ?_)
      refine go_aload_1 (DW6.at 38 rfl) ?_
      refine go_cSl1 (DW6.at 39 rfl) nL_149 vL_told (by omega) (c_told Z566 (by rw [hu.2, eA]; exact hR.1) (by omega)) (Nat.le_of_ble_eq_true rfl) (fun x573 h573 q573 => ?_)
      obtain ⟨e573, Z573⟩ := q573
      subst e573
      have L573 := hL.cz Z573
      have eT : tdF (unZ (chZ Z (opR A k t c v)).2).2 = tdF Z := tdF_cg hu.2
      refine go_lload_14 (DW6.at 40 rfl) ?_
      refine go_lcmp (DW6.at 41 rfl) ?_
      refine go_if_ne 607 (DW6.at 42 rfl) (by decide) (fun c579 => absurd ((lg_cmp_eq _ _).mpr eT) c579) (fun c579 => ?_)
      refine go_aload_1 (DW6.at 43 rfl) ?_
      refine go_aload_8 (DW6.at 44 rfl) ?_
      refine go_iconst (v := nI 0) (DW6.at 45 rfl) (by decide) ?_
      refine go_ialdL 6 (DW6.at 46 rfl) L573 (by decide) (show 0 < 4 by decide) ?_
      rw [h60]
      refine go_aload_8 (DW6.at 47 rfl) ?_
      refine go_iconst (v := nI 1) (DW6.at 48 rfl) (by decide) ?_
      refine go_ialdL 6 (DW6.at 49 rfl) L573 (by decide) (show 1 < 4 by decide) ?_
      rw [h61]
      refine go_aload_8 (DW7.at 0 rfl) ?_
      refine go_iconst (v := nI 2) (DW7.at 1 rfl) (by decide) ?_
      refine go_ialdL 6 (DW7.at 2 rfl) L573 (by decide) (show 2 < 4 by decide) ?_
      rw [h62]
      refine go_aload_8 (DW7.at 3 rfl) ?_
      refine go_iconst (v := nI 3) (DW7.at 4 rfl) (by decide) ?_
      refine go_ialdL 6 (DW7.at 5 rfl) L573 (by decide) (show 3 < 4 by decide) ?_
      rw [h63]
      refine go_cSi5 (DW7.at 6 rfl) nL_153 vL_call (by omega) (c_call (k := k) (t := t) (c := c) (v := v) hC.1 Z573 (by omega)) (Nat.le_of_ble_eq_true rfl) (fun x599 h599 q599 => ?_)
      obtain ⟨e599, Z599⟩ := q599
      rw [hu.2, eA] at e599 Z599
      rw [chZ_1] at e599
      subst e599
      refine go_iload_16 (DW7.at 7 rfl) ?_
      refine go_icmp_eq 609 (DW7.at 8 rfl) (by decide) (fun c604 => ?_) (fun c604 => absurd rfl c604)
      have eP : CZ (fun j => h[j]?) (chZ (unZ (chZ Z (opR A k t c v)).2).2 (opR A k t c v)).2 h599 0 ∧ zA (chZ (unZ (chZ Z (opR A k t c v)).2).2 (opR A k t c v)).2 = stp A (opR A k t c v) := ⟨Z599, by rw [chZ_A, hu.2, eA]⟩
      exact K _ _ _ (eP.1.re (fun _ _ => rfl)) eP.2 (hL.cz eP.1)
  · have hneg : (opR A k t c v).1 < 0 := Int32.not_le.mp c539
    have eN : stp A (opR A k t c v) = A := cI_t hneg
    refine go_aload_1 (DW6.at 23 rfl) ?_
    refine go_cSl1 (DW6.at 24 rfl) nL_149 vL_told (by omega) (c_told Z532 (by rw [eA1, eN]; exact hR.1) (by omega)) (Nat.le_of_ble_eq_true rfl) (fun x543 h543 q543 => ?_)
    obtain ⟨e543, Z543⟩ := q543
    subst e543
    have eT : tdF (chZ Z (opR A k t c v)).2 = tdF Z := tdF_cg (by rw [eA1, eN, eA])
    refine go_lload_14 (DW6.at 25 rfl) ?_
    refine go_lcmp (DW6.at 26 rfl) ?_
    refine go_if_eq 609 (DW6.at 27 rfl) (by decide) (fun c549 => ?_) (fun c549 => absurd ((lg_cmp_eq _ _).mpr eT) c549)
    have eP : CZ (fun j => h[j]?) (chZ Z (opR A k t c v)).2 h543 0 ∧ zA (chZ Z (opR A k t c v)).2 = stp A (opR A k t c v) := ⟨Z543, eA1⟩
    exact K _ _ _ (eP.1.re (fun _ _ => rfl)) eP.2 (hL.cz eP.1)
theorem l_391 {u14 u15 u16 : Option Value} (hd : 10 ≤ d) (hC : Cnd A k t c v) (h60 : ρ 6 0 = nI k) (h62 : ρ 6 2 = nI c) (hK : Cw A) (hL : LA h ρ) (hR : LR A ρ) (hZ : CZ (fun j => h[j]?) Z h 0) (eA : zA Z = A)
    (K : ∀ h1 ρ1 (w14 w15 w16 : Option Value), CZ (fun j => h1[j]?) Z h1 0 → LA h1 ρ1 → (∀ a, a ≠ 5 → ρ1 a = ρ a) → (∀ t', t' < aT A → ρ1 5 t' = wnF A t' (ccA A k c t')) → Go E mL_law d 0 0 509 [some (.ref (BIGN + 2)), some (.ref 0), some (.ref 52), some (.ref 53), some (.ref 54), some (.ref 55), some (.ref 56), some (.ref 57), some (.ref 58), some (.int fi), some (.int (nI turn)), some (.int x11), some (.int x12), some (.int x13), w14, w15, w16] [] h1 Ψ) : Go E mL_law d 0 0 391 [some (.ref (BIGN + 2)), some (.ref 0), some (.ref 52), some (.ref 53), some (.ref 54), some (.ref 55), some (.ref 56), some (.ref 57), some (.ref 58), some (.int fi), some (.int (nI turn)), some (.int x11), some (.int x12), some (.int x13), u14, u15, u16] [] h Ψ := by
  have hA := hR.1
  have hY := hR.2.1
  have hLO := hY.1
  have hT3 : aT A ≤ 3 := hY.2.1
  have hn := hLO.nc
  have hg4 : aG A ≤ 4 := hLO.2.1
  have hg1 : 1 ≤ aG A := hLO.1
  have hs6 : aS A ≤ 6 := hLO.2.2.2.1
  have hs2 : 2 ≤ aS A := hLO.2.2.1
  have hgs : aG A * aS A ≤ 15 := hLO.2.2.2.2.1
  have hH5 : aH A ≤ 5 := hLO.2.2.2.2.2.2.2
  have hT1 : 1 ≤ aT A := hLO.2.2.2.2.2.1
  have en : nc (aG A) (aS A) = aG A * aS A + aG A + 2 := rfl
  have hk6 := hC.1
  have loop : ∀ (m j : Nat) (h1 : List va_E) (ρ1 : Nat → Nat → Int32) (w15 w16 : Option Value), CZ (fun j => h1[j]?) Z h1 0 → LA h1 ρ1 → (∀ a, a ≠ 5 → ρ1 a = ρ a) → (∀ t', t' < j → ρ1 5 t' = wnF A t' (ccA A k c t')) → j + m = aT A → Go E mL_law d 0 0 394 [some (.ref (BIGN + 2)), some (.ref 0), some (.ref 52), some (.ref 53), some (.ref 54), some (.ref 55), some (.ref 56), some (.ref 57), some (.ref 58), some (.int fi), some (.int (nI turn)), some (.int x11), some (.int x12), some (.int x13), some (.int (nI j)), w15, w16] [] h1 Ψ := by
    intro m
    induction m with
    | zero =>
      intro j h1 ρ1 w15 w16 Z1 L1 eo e5 hm
      have hY1 : LY A ρ1 := hY.up (fun k hk => by rw [eo 0 (by decide)])
      have ej : j = aT A := by omega
      subst ej
      refine go_iload_14 (DW4.at 40 rfl) ?_
      refine go_aload_2 (DW4.at 41 rfl) ?_
      refine go_iconst (v := nI 2) (DW4.at 42 rfl) (by decide) ?_
      refine go_ialdL 0 (DW4.at 43 rfl) L1 (by decide) (show 2 < 9 by decide) ?_
      rw [hY1.2.2.2.2.1]
      refine go_icmp_ge 509 (DW4.at 44 rfl) (by decide) (fun c399 => ?_) (fun c399 => absurd (Int32.le_refl _) c399)
      exact K h1 ρ1 _ _ _ Z1 L1 eo e5
    | succ m ih =>
      intro j h1 ρ1 w15 w16 Z1 L1 eo e5 hm
      have hj : j < aT A := by omega
      have hY1 : LY A ρ1 := hY.up (fun k hk => by rw [eo 0 (by decide)])
      have R1 : LR A ρ1 := hR.cg (fun a ha => eo a (by omega))
      have hM20 := hA.m20 hj
      obtain ⟨n1, k1, o1⟩ := Z1.obj
      have t427 : ∀ x : Nat, x = ccA A k c j → Go E mL_law d 0 0 427 [some (.ref (BIGN + 2)), some (.ref 0), some (.ref 52), some (.ref 53), some (.ref 54), some (.ref 55), some (.ref 56), some (.ref 57), some (.ref 58), some (.int fi), some (.int (nI turn)), some (.int x11), some (.int x12), some (.int x13), some (.int (nI j)), w15, w16] [.int (nI x)] h1 Ψ := by
        intro x hx
        have hx20 : x < 21 := by
          rw [hx]
          unfold ccA
          by_cases q : k = 4
          · rw [if_pos q]
            have h1 : cnA A c j < nc (aG A) (aS A) := con_lt (by omega)
            omega
          · rw [if_neg q]
            have h1 : c ≤ nc (aG A) (aS A) := by
              obtain ⟨-, -, -, h0, h24, h135, -⟩ := hC
              rcases (show k = 0 ∨ (k = 2 ∨ k = 4) ∨ (k = 1 ∨ k = 3 ∨ k = 5) by omega) with q1 | q1 | q1
              · have := h0 q1
                omega
              · exact h24 q1
              · exact Nat.le_of_lt (h135 q1)
            omega
        have t457 : ∀ b : Int32, ((b = nI 1 ∧ bit (aM A j) x) ∨ (b = nI 0 ∧ ¬ bit (aM A j) x)) → Go E mL_law d 0 0 457 [some (.ref (BIGN + 2)), some (.ref 0), some (.ref 52), some (.ref 53), some (.ref 54), some (.ref 55), some (.ref 56), some (.ref 57), some (.ref 58), some (.int fi), some (.int (nI turn)), some (.int x11), some (.int x12), some (.int x13), some (.int (nI j)), some (.int (nI x)), w16] [.int b] h1 Ψ := by
          intro b hbb
          rcases hbb with ⟨eb, hb⟩ | ⟨eb, hb⟩
          · subst eb
            have hxc := bit_big (hA.2.1 j hj) hb
            refine go_istore_16 (DW5.at 27 rfl) ?_
            refine go_iload_16 (DW5.at 28 rfl) ?_
            refine go_if_eq 481 (DW5.at 29 rfl) (by decide) (fun c461 => absurd c461 (by decide)) (fun c461 => ?_)
            refine go_aload_1 (DW5.at 30 rfl) ?_
            refine go_iload_14 (DW5.at 31 rfl) ?_
            refine go_iload_15 (DW5.at 32 rfl) ?_
            refine go_aload_2 (DW5.at 33 rfl) ?_
            refine go_aload_3 (DW5.at 34 rfl) ?_
            refine go_aload_4 (DW5.at 35 rfl) ?_
            refine go_cSi6 (DW5.at 36 rfl) nL_145 vL_isWay (by omega) (c_isWay hj hxc hb hK eA Z1 L1 R1 (by omega)) (Nat.le_of_ble_eq_true rfl) (fun x473 h473 q473 => ?_)
            obtain ⟨e473, Z473⟩ := q473
            subst e473
            obtain ⟨n473, k473, o473⟩ := Z473.obj
            have L473 := L1.cz Z473
            refine go_if_ne 481 (DW5.at 37 rfl) (by decide) (fun c476 => ?_) (fun c476 => absurd c476 (by decide))
            refine go_aload_7 (DW5.at 40 rfl) ?_
            refine go_iload_14 (DW5.at 41 rfl) ?_
            refine go_iload_16 (DW5.at 42 rfl) ?_
            refine go_if_eq 501 (DW5.at 43 rfl) (by decide) (fun c487 => absurd c487 (by decide)) (fun c487 => ?_)
            refine go_aload_1 (DW5.at 44 rfl) ?_
            refine go_iload_14 (DW5.at 45 rfl) ?_
            refine go_iload_15 (DW5.at 46 rfl) ?_
            refine go_cVi2 (DW5.at 47 rfl) nL_31 vX5_way (by omega) (z_way Z473 (by omega)) o473 rfl (Nat.le_of_ble_eq_true rfl) (fun x495 h495 q495 => ?_)
            obtain ⟨e495, Z495⟩ := q495
            rw [eA, as_wn hA hj hxc hb] at e495
            subst e495
            have L495 := L1.cz Z495
            refine go_goto 502 (DW5.at 48 rfl) (by decide) ?_
            refine go_iastL 5 (DW6.at 0 rfl) L495 (by decide) (show j < 3 by omega) (fun h2 L2 O2 => ?_)
            refine go_iincN_14 (DW6.at 1 rfl) ?_
            refine go_goto 394 (DW6.at 2 rfl) (by decide) ?_
            exact ih (j + 1) _ _ _ _ (Z495.keep O2 (by omega)) L2 (fun a ha => by rw [rset_n ha]; exact eo a ha) (fun t' ht' => by
              rw [rset_s]
              by_cases e : t' = j
              · rw [e, pk_us, ← hx]
              · rw [pk_un e]
                exact e5 t' (by omega)) (by omega)
          · subst eb
            refine go_istore_16 (DW5.at 27 rfl) ?_
            refine go_iload_16 (DW5.at 28 rfl) ?_
            refine go_if_eq 481 (DW5.at 29 rfl) (by decide) (fun c461 => ?_) (fun c461 => absurd (show nI 0 = 0 by decide) c461)
            refine go_aload_7 (DW5.at 40 rfl) ?_
            refine go_iload_14 (DW5.at 41 rfl) ?_
            refine go_iload_16 (DW5.at 42 rfl) ?_
            refine go_if_eq 501 (DW5.at 43 rfl) (by decide) (fun c487 => ?_) (fun c487 => absurd (show nI 0 = 0 by decide) c487)
            refine go_iconst (v := (-1)) (DW5.at 49 rfl) (by decide) ?_
            refine go_iastL 5 (DW6.at 0 rfl) L1 (by decide) (show j < 3 by omega) (fun h2 L2 O2 => ?_)
            refine go_iincN_14 (DW6.at 1 rfl) ?_
            refine go_goto 394 (DW6.at 2 rfl) (by decide) ?_
            exact ih (j + 1) _ _ _ _ (Z1.keep O2 (by omega)) L2 (fun a ha => by rw [rset_n ha]; exact eo a ha) (fun t' ht' => by
              rw [rset_s]
              by_cases e : t' = j
              · rw [e, pk_us, ← hx]
                exact (wnF_n hb).symm
              · rw [pk_un e]
                exact e5 t' (by omega)) (by omega)
        refine go_istore_15 (DW5.at 10 rfl) ?_
        refine go_iload_15 (DW5.at 11 rfl) ?_
        refine go_aload_2 (DW5.at 12 rfl) ?_
        refine go_cSx1 (DW5.at 13 rfl) nL_16 vL_all (by omega) (c_all L1 hY1) (Nat.le_of_ble_eq_true rfl) ?_
        refine go_icmp_ge 456 (DW5.at 14 rfl) (by decide) (fun c435 => ?_) (fun c435 => ?_)
        · rw [nI_leI (by omega) (by omega)] at c435
          have fin : ¬ bit (aM A j) x := fun q => by have := bit_big (hA.2.1 j hj) q; omega
          refine go_iconst (v := nI 0) (DW5.at 26 rfl) (by decide) ?_
          exact t457 _ (by first | exact Or.inl ⟨rfl, fin⟩ | exact Or.inr ⟨rfl, fin⟩)
        · rw [nI_leI (by omega) (by omega)] at c435
          refine go_aload_4 (DW5.at 15 rfl) ?_
          refine go_iload_14 (DW5.at 16 rfl) ?_
          refine go_ialdL 2 (DW5.at 17 rfl) L1 (by decide) (show j < 3 by omega) ?_
          rw [R1.2.2.2.2.2.1 j hj]
          refine go_iload_15 (DW5.at 18 rfl) ?_
          refine go_ishr (DW5.at 19 rfl) ?_
          refine go_iconst (v := nI 1) (DW5.at 20 rfl) (by decide) ?_
          refine go_iand (DW5.at 21 rfl) ?_
          rw [nx_bit (by omega) (by omega)]
          refine go_iconst (v := nI 1) (DW5.at 22 rfl) (by decide) ?_
          refine go_icmp_ne 456 (DW5.at 23 rfl) (by decide) (fun c449 => ?_) (fun c449 => ?_)
          · have fin : ¬ bit (aM A j) x := fun q => c449 (congrArg nI (show aM A j / 2 ^ x % 2 = 1 from q))
            refine go_iconst (v := nI 0) (DW5.at 26 rfl) (by decide) ?_
            exact t457 _ (by first | exact Or.inl ⟨rfl, fin⟩ | exact Or.inr ⟨rfl, fin⟩)
          · have fin : bit (aM A j) x := (nI_eq (by omega) (by decide)).mp c449
            refine go_iconst (v := nI 1) (DW5.at 24 rfl) (by decide) ?_
            refine go_goto 457 (DW5.at 25 rfl) (by decide) ?_
            exact t457 _ (by first | exact Or.inl ⟨rfl, fin⟩ | exact Or.inr ⟨rfl, fin⟩)
      refine go_iload_14 (DW4.at 40 rfl) ?_
      refine go_aload_2 (DW4.at 41 rfl) ?_
      refine go_iconst (v := nI 2) (DW4.at 42 rfl) (by decide) ?_
      refine go_ialdL 0 (DW4.at 43 rfl) L1 (by decide) (show 2 < 9 by decide) ?_
      rw [hY1.2.2.2.2.1]
      refine go_icmp_ge 509 (DW4.at 44 rfl) (by decide) (fun c399 => absurd c399 (by rw [nI_leI (by omega) (by omega)]; omega)) (fun c399 => ?_)
      refine go_aload_8 (DW4.at 45 rfl) ?_
      refine go_iconst (v := nI 0) (DW4.at 46 rfl) (by decide) ?_
      refine go_ialdL 6 (DW4.at 47 rfl) L1 (by decide) (show 0 < 4 by decide) ?_
      rw [eo 6 (by decide), h60]
      refine go_iconst (v := nI 4) (DW4.at 48 rfl) (by decide) ?_
      refine go_icmp_ne 423 (DW4.at 49 rfl) (by decide) (fun c407 => ?_) (fun c407 => ?_)
      · rw [nI_eq (by omega) (by decide)] at c407
        refine go_aload_8 (DW5.at 7 rfl) ?_
        refine go_iconst (v := nI 2) (DW5.at 8 rfl) (by decide) ?_
        refine go_ialdL 6 (DW5.at 9 rfl) L1 (by decide) (show 2 < 4 by decide) ?_
        rw [eo 6 (by decide), h62]
        exact t427 _ (by first | exact (if_pos c407).symm | exact (if_neg c407).symm)
      · rw [nI_eq (by omega) (by decide)] at c407
        refine go_aload_8 (DW5.at 0 rfl) ?_
        refine go_iconst (v := nI 2) (DW5.at 1 rfl) (by decide) ?_
        refine go_ialdL 6 (DW5.at 2 rfl) L1 (by decide) (show 2 < 4 by decide) ?_
        rw [eo 6 (by decide), h62]
        refine go_iload_14 (DW5.at 3 rfl) ?_
        refine go_aload_2 (DW5.at 4 rfl) ?_
        refine go_cSx3 (DW5.at 5 rfl) nL_126 vL_cellOn (by omega) (c_lcellOn hj (hC.2.2.2.2.1 (Or.inr c407)) L1 hY1 (by omega)) (Nat.le_of_ble_eq_true rfl) ?_
        refine go_goto 427 (DW5.at 6 rfl) (by decide) ?_
        exact t427 _ (by first | exact (if_pos c407).symm | exact (if_neg c407).symm)
  refine go_iconst (v := nI 0) (DW4.at 38 rfl) (by decide) ?_
  refine go_istore_14 (DW4.at 39 rfl) ?_
  exact loop (aT A) 0 h ρ _ _ hZ hL (fun _ _ => rfl) (fun t' ht' => absurd ht' (Nat.not_lt_zero t')) (Nat.zero_add _)
end LW
