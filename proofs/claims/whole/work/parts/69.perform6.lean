/-! THE MODEL: orders are carried out -/
/-- rows 1, 6 and 10 alone have changed -/
def MV (ρ ρ' : Nat → Nat → Int32) : Prop := ∀ a, a ≠ 1 → a ≠ 6 → a ≠ 10 → ρ' a = ρ a
theorem MV.rf {ρ : Nat → Nat → Int32} : MV ρ ρ := fun _ _ _ _ => rfl
theorem MV.trans {ρ ρ' ρ2 : Nat → Nat → Int32} (u : MV ρ ρ') (v : MV ρ' ρ2) : MV ρ ρ2 := fun a h1 h2 h3 => (v a h1 h2 h3).trans (u a h1 h2 h3)
theorem MV.of {ρ ρ' : Nat → Nat → Int32} (u : MU ρ ρ') : MV ρ ρ' := fun a h1 _ h3 => u a h1 h3
theorem MV.r6 {ρ : Nat → Nat → Int32} {f : Nat → Int32} : MV ρ (rset ρ 6 f) := fun _ _ h2 _ => rset_n h2
theorem MV.tb {ρ ρ' : Nat → Nat → Int32} (u : MV ρ ρ') (h : MTb ρ) : MTb ρ' := by
  unfold MTb
  rw [u 7 (by decide) (by decide) (by decide), u 8 (by decide) (by decide) (by decide), u 9 (by decide) (by decide) (by decide)]
  exact h
theorem MRest.mv {Z : Zt} {i i' : Nat → Int32} {ρ ρ' : Nat → Nat → Int32} (h : MRest Z i ρ) (hi : ∀ s, s < 3 → i' s = i s) (u : MV ρ ρ') : MRest Z i' ρ' := h.keep hi (u 3 (by decide) (by decide) (by decide)) (u 4 (by decide) (by decide) (by decide)) (u 5 (by decide) (by decide) (by decide))
section M6
variable {E : AEnv} {d : Nat} {h h' : List va_E} {b : Nat} {i : Nat → Int32} {ρ : Nat → Nat → Int32} {G : Nat → Option va_E} {Y : Nat → Nat} {N p : Nat} {A : Ab}
theorem m_findFault (hM : MdAt G h b i ρ) (hT : TxtIs (ρ 5) Y N) (hN : i 2 = nI N) (hd : 6 ≤ d) : Calls E mX6_findFault d 0 0 [.ref b] h (RI (fun x h' => ∃ i' f, MdAt G h' b i' (rset ρ 6 f) ∧ (∀ s, s ≠ 3 → i' s = i s) ∧ ((∃ fl, (ffS Y N (N + 1) 0).1 = some fl ∧ x = nI fl) ∨ ((ffS Y N (N + 1) 0).1 = none ∧ x = -5)))) := by
  refine Calls.of (ls := [some (.ref b)]) (by decide +kernel) rfl (Nat.le_of_ble_eq_true rfl) (cat_ok rfl) ?_
  have hN60 := hT.1
  have loop : ∀ (mm p : Nat) (h : List va_E) (i1 : Nat → Int32) (f : Nat → Int32), p ≤ N → N < p + mm → MdAt G h b i1 (rset ρ 6 f) → (∀ s, s ≠ 3 → i1 s = i s) → i1 3 = nI p → Go E mX6_findFault d 0 0 5 [some (.ref b)] [] h (RI (fun x h' => ∃ i' f, MdAt G h' b i' (rset ρ 6 f) ∧ (∀ s, s ≠ 3 → i' s = i s) ∧ ((∃ fl, (ffS Y N mm p).1 = some fl ∧ x = nI fl) ∨ ((ffS Y N mm p).1 = none ∧ x = -5)))) := by
    intro mm
    induction mm with
    | zero =>
      intro p h i1 f h1 h2
      omega
    | succ mm ih =>
      intro p h i1 f hpN hm q hi hat
      refine go_aload_0 (DX6_findFault.at 3 rfl) ?_
      refine go_cVi0 (DX6_findFault.at 4 rfl) nX6_207 vX6_readsOrder (by omega) (m_readsOrder q hT ((hi 2 (by decide)).trans hN) hat (by omega) (by omega)) q.1 rfl (Nat.le_of_ble_eq_true rfl) (fun x6 h6 q6 => ?_)
      obtain ⟨i2, f2, q6, u6, q⟩ := q6
      rw [rset_rset] at q6
      have hi2 : ∀ s, s ≠ 3 → i2 s = i s := fun s hs => (u6.2 s hs).trans (hi s hs)
      rcases q with ⟨hok, rfl, -⟩ | ⟨hok, rfl⟩
      · have hpr := ordR_ok hok
        have hn6 : i2 2 = nI N := (hi2 2 (by decide)).trans hN
        refine go_if_eq 40 (DX6_findFault.at 5 rfl) (by decide) (fun c9 => absurd c9 (by decide)) (fun c9 => ?_)
        refine go_aload_0 (DX6_findFault.at 6 rfl) ?_
        refine go_getfield (DX6_findFault.at 7 rfl) fX6_185 q6.1 rfl ?_
        rw [u6.1]
        refine go_aload_0 (DX6_findFault.at 8 rfl) ?_
        refine go_getfield (DX6_findFault.at 9 rfl) fX6_182 q6.1 rfl ?_
        rw [hn6]
        refine go_icmp_ne 26 (DX6_findFault.at 10 rfl) (by decide) (fun c20 => ?_) (fun c20 => ?_)
        · rw [nI_eq (by omega) (by omega)] at c20
          refine go_aload_0 (DX6_findFault.at 13 rfl) ?_
          refine go_bipush (v := nI 59) (DX6_findFault.at 14 rfl) (by decide) ?_
          refine go_cVi1 (DX6_findFault.at 15 rfl) nX6_194 vX6_takes (by omega) (m_takes (p := (ordR Y N p).2) q6 hT hn6 u6.1 (by omega) (wn := 59) (by decide) (by omega)) q6.1 rfl (Nat.le_of_ble_eq_true rfl) (fun x29 h29 q29 => ?_)
          obtain ⟨i3, q29, ⟨k1, k2, rfl, u29⟩ | ⟨kn, rfl, u29⟩⟩ := q29
          · have eR : (ffS Y N (mm + 1) p).1 = (ffS Y N mm ((ordR Y N p).2 + 1)).1 := by rw [ffS, if_neg (by rw [hok]; decide), if_pos ⟨k1, k2⟩]
            rw [eR]
            refine go_if_ne 5 (DX6_findFault.at 16 rfl) (by decide) (fun c32 => ?_) (fun c32 => absurd c32 (by decide))
            exact ih ((ordR Y N p).2 + 1) _ _ _ (by omega) (by omega) q29 (fun s hs => (u29.2 s hs).trans (hi2 s hs)) u29.1
          · have eR : ffS Y N (mm + 1) p = (some (ordR Y N p).2, 1) := by rw [ffS, if_neg (by rw [hok]; decide), if_neg kn, if_pos (by omega)]
            rw [eR]
            refine go_if_ne 5 (DX6_findFault.at 16 rfl) (by decide) (fun c32 => absurd rfl c32) (fun c32 => ?_)
            refine go_aload_0 (DX6_findFault.at 17 rfl) ?_
            refine go_getfield (DX6_findFault.at 18 rfl) fX6_185 q29.1 rfl ?_
            rw [u29.1]
            exact go_iret (DX6_findFault.at 19 rfl) rfl rfl (RI.mk ⟨i3, f2, q29, fun s hs => (u29.2 s hs).trans (hi2 s hs), Or.inl ⟨_, rfl, rfl⟩⟩)
          
        · rw [nI_eq (by omega) (by omega)] at c20
          have eR : ffS Y N (mm + 1) p = (none, 1) := by rw [ffS, if_neg (by rw [hok]; decide), if_neg (by omega), if_neg (by omega)]
          rw [eR]
          refine go_bipush (v := (-5)) (DX6_findFault.at 11 rfl) (by decide) ?_
          exact go_iret (DX6_findFault.at 12 rfl) rfl rfl (RI.mk ⟨i2, f2, q6, hi2, Or.inr ⟨rfl, rfl⟩⟩)
      · have eR : ffS Y N (mm + 1) p = (some (ordR Y N p).2, 0) := by rw [ffS, if_pos hok]
        rw [eR]
        refine go_if_eq 40 (DX6_findFault.at 5 rfl) (by decide) (fun c9 => ?_) (fun c9 => absurd rfl c9)
        refine go_aload_0 (DX6_findFault.at 20 rfl) ?_
        refine go_getfield (DX6_findFault.at 21 rfl) fX6_185 q6.1 rfl ?_
        rw [u6.1]
        exact go_iret (DX6_findFault.at 22 rfl) rfl rfl (RI.mk ⟨i2, f2, q6, hi2, Or.inl ⟨_, rfl, rfl⟩⟩)
      
  refine go_aload_0 (DX6_findFault.at 0 rfl) ?_
  refine go_iconst (v := nI 0) (DX6_findFault.at 1 rfl) (by decide) ?_
  refine go_putM6 (kf := 8) (s := 3) (DX6_findFault.at 2 rfl) fX6_185 (by decide) hM (fun h2 q2 => ?_)
  exact loop (N + 1) 0 h2 _ (ρ 6) (Nat.zero_le _) (by omega) (by rw [rset_self]; exact q2) (fun s hs => pk_un hs) pk_us

theorem m_carryOut (hX : MX G h b i ρ A) (hok : (ordR Y N p).1 = true) (hn : Y p = 110 → ρ 6 0 = nI (nmv Y N (p + 1))) (hx : Y p ≠ 110 → ρ 6 0 = nI (Y (p + 1) - 48) ∧ ρ 6 1 = nI (nmv Y N (p + 3)) ∧ (Y p = 119 → ρ 6 2 = nI (nmv Y N (nme Y N (p + 3) + 1)))) (hd : 9 ≤ d) : Calls E mX6_carryOut d 0 0 [.ref b, .int (nI (Y p))] h (RI (fun r h' => ∃ ρ', MdAt G h' b i ρ' ∧ MU ρ ρ' ∧ r = (exO Y N p A).1 ∧ RepM (exO Y N p A).2 (ρ' 1))) := by
  refine Calls.of (ls := [some (.ref b), some (.int (nI (Y p)))]) (by decide +kernel) rfl (Nat.le_of_ble_eq_true rfl) (cat_ok rfl) ?_
  have hM := hX.1
  obtain ⟨hpN, hk⟩ := ordR_kind hok
  rcases hk with hk | hk | hk | hk
  · refine go_iload_1 (DX6_carryOut.at 0 rfl) ?_
    rw [hk]
    refine go_lookup (off := 75) 76 (DX6_carryOut.at 1 rfl) rfl (by decide +kernel) (by decide) ?_
    refine go_aload_0 (DX6_carryOut.at 28 rfl) ?_
    refine go_aload_0 (DX6_carryOut.at 29 rfl) ?_
    refine go_getfield (DX6_carryOut.at 30 rfl) fX6_25 hM.1 rfl ?_
    refine go_iconst (v := nI 0) (DX6_carryOut.at 31 rfl) (by decide) ?_
    refine go_ialdM (DX6_carryOut.at 32 rfl) (hM.2.1 6 (by decide)) (show 0 < 3 by decide) (by decide) ?_
    rw [hn hk]
    refine go_cVi1 (DX6_carryOut.at 33 rfl) nX6_164 vX6_loseAll (by omega) (m_loseAll hX (by omega)) hM.1 rfl (Nat.le_of_ble_eq_true rfl) (fun x83 h83 q83 => ?_)
    exact go_iret (DX6_carryOut.at 34 rfl) rfl rfl (RI.mk (by rw [show exO Y N p A = lsF A (nI (nmv Y N (p + 1))) from if_pos hk]; exact q83))
  · refine go_iload_1 (DX6_carryOut.at 0 rfl) ?_
    rw [hk]
    refine go_lookup (off := 35) 36 (DX6_carryOut.at 1 rfl) rfl (by decide +kernel) (by decide) ?_
    refine go_aload_0 (DX6_carryOut.at 2 rfl) ?_
    refine go_aload_0 (DX6_carryOut.at 3 rfl) ?_
    refine go_getfield (DX6_carryOut.at 4 rfl) fX6_25 hM.1 rfl ?_
    refine go_iconst (v := nI 0) (DX6_carryOut.at 5 rfl) (by decide) ?_
    refine go_ialdM (DX6_carryOut.at 6 rfl) (hM.2.1 6 (by decide)) (show 0 < 3 by decide) (by decide) ?_
    rw [(hx (by omega)).1]
    refine go_aload_0 (DX6_carryOut.at 7 rfl) ?_
    refine go_getfield (DX6_carryOut.at 8 rfl) fX6_25 hM.1 rfl ?_
    refine go_iconst (v := nI 1) (DX6_carryOut.at 9 rfl) (by decide) ?_
    refine go_ialdM (DX6_carryOut.at 10 rfl) (hM.2.1 6 (by decide)) (show 1 < 3 by decide) (by decide) ?_
    rw [(hx (by omega)).2.1]
    refine go_aload_0 (DX6_carryOut.at 11 rfl) ?_
    refine go_getfield (DX6_carryOut.at 12 rfl) fX6_25 hM.1 rfl ?_
    refine go_iconst (v := nI 2) (DX6_carryOut.at 13 rfl) (by decide) ?_
    refine go_ialdM (DX6_carryOut.at 14 rfl) (hM.2.1 6 (by decide)) (show 2 < 3 by decide) (by decide) ?_
    rw [(hx (by omega)).2.2 hk]
    refine go_cVi3 (DX6_carryOut.at 15 rfl) nX6_155 vX6_writeCell (by omega) (m_writeCell hX (by omega)) hM.1 rfl (Nat.le_of_ble_eq_true rfl) (fun x55 h55 q55 => ?_)
    exact go_iret (DX6_carryOut.at 16 rfl) rfl rfl (RI.mk (by rw [show exO Y N p A = wrF A (nI (Y (p + 1) - 48)) (nI (nmv Y N (p + 3))) (nI (nmv Y N (nme Y N (p + 3) + 1))) from by unfold exO; rw [if_neg (by omega), if_pos hk]]; exact q55))
  · refine go_iload_1 (DX6_carryOut.at 0 rfl) ?_
    rw [hk]
    refine go_lookup (off := 58) 59 (DX6_carryOut.at 1 rfl) rfl (by decide +kernel) (by decide) ?_
    refine go_aload_0 (DX6_carryOut.at 17 rfl) ?_
    refine go_aload_0 (DX6_carryOut.at 18 rfl) ?_
    refine go_getfield (DX6_carryOut.at 19 rfl) fX6_25 hM.1 rfl ?_
    refine go_iconst (v := nI 0) (DX6_carryOut.at 20 rfl) (by decide) ?_
    refine go_ialdM (DX6_carryOut.at 21 rfl) (hM.2.1 6 (by decide)) (show 0 < 3 by decide) (by decide) ?_
    rw [(hx (by omega)).1]
    refine go_aload_0 (DX6_carryOut.at 22 rfl) ?_
    refine go_getfield (DX6_carryOut.at 23 rfl) fX6_25 hM.1 rfl ?_
    refine go_iconst (v := nI 1) (DX6_carryOut.at 24 rfl) (by decide) ?_
    refine go_ialdM (DX6_carryOut.at 25 rfl) (hM.2.1 6 (by decide)) (show 1 < 3 by decide) (by decide) ?_
    rw [(hx (by omega)).2.1]
    refine go_cVi2 (DX6_carryOut.at 26 rfl) nX6_161 vX6_loseCell (by omega) (m_loseCell hX (by omega)) hM.1 rfl (Nat.le_of_ble_eq_true rfl) (fun x72 h72 q72 => ?_)
    exact go_iret (DX6_carryOut.at 27 rfl) rfl rfl (RI.mk (by rw [show exO Y N p A = loF A (nI (Y (p + 1) - 48)) (nI (nmv Y N (p + 3))) from by unfold exO; rw [if_neg (by omega), if_neg (by omega), if_pos hk]]; exact q72))
  · refine go_iload_1 (DX6_carryOut.at 0 rfl) ?_
    rw [hk]
    refine go_lookup (off := 86) 87 (DX6_carryOut.at 1 rfl) rfl (by decide +kernel) (by decide) ?_
    refine go_aload_0 (DX6_carryOut.at 35 rfl) ?_
    refine go_aload_0 (DX6_carryOut.at 36 rfl) ?_
    refine go_getfield (DX6_carryOut.at 37 rfl) fX6_25 hM.1 rfl ?_
    refine go_iconst (v := nI 0) (DX6_carryOut.at 38 rfl) (by decide) ?_
    refine go_ialdM (DX6_carryOut.at 39 rfl) (hM.2.1 6 (by decide)) (show 0 < 3 by decide) (by decide) ?_
    rw [(hx (by omega)).1]
    refine go_aload_0 (DX6_carryOut.at 40 rfl) ?_
    refine go_getfield (DX6_carryOut.at 41 rfl) fX6_25 hM.1 rfl ?_
    refine go_iconst (v := nI 1) (DX6_carryOut.at 42 rfl) (by decide) ?_
    refine go_ialdM (DX6_carryOut.at 43 rfl) (hM.2.1 6 (by decide)) (show 1 < 3 by decide) (by decide) ?_
    rw [(hx (by omega)).2.1]
    refine go_cVi2 (DX6_carryOut.at 44 rfl) nX6_152 vX6_mendCell (by omega) (m_mendCell hX (by omega)) hM.1 rfl (Nat.le_of_ble_eq_true rfl) (fun x100 h100 q100 => ?_)
    exact go_iret (DX6_carryOut.at 45 rfl) rfl rfl (RI.mk (by rw [show exO Y N p A = mdF A (nI (Y (p + 1) - 48)) (nI (nmv Y N (p + 3))) from by unfold exO; rw [if_neg (by omega), if_neg (by omega), if_neg (by omega)]]; exact q100))

end M6
section M7
variable {E : AEnv} {d : Nat} {h h' : List va_E} {b : Nat} {G : Nat → Option va_E} {Z : Zt}
theorem y_perform (hZ : MZ G Z h b) (hd : 10 ≤ d) : Calls E mX6_perform d 0 0 [.ref b] h (RI (fun r h' => r = (chZ Z (pfF (zY Z) (zN Z) (zA Z))).1 ∧ MZ G (chZ Z (pfF (zY Z) (zN Z) (zA Z))).2 h' b)) := by
  refine Calls.of (ls := [some (.ref b), none, none, none, none, none]) (by decide +kernel) rfl (Nat.le_of_ble_eq_true rfl) (cat_ok rfl) ?_
  obtain ⟨i, ρ, hX, hZr⟩ := hZ
  have hM := hX.1
  have hN := hZr.2.2.2.2.2.2.1
  have hT := hZr.2.2.2.2.2.2.2
  have hN60 := hT.1
  refine go_aload_0 (DX6_perform.at 0 rfl) ?_
  refine go_cVi0 (DX6_perform.at 1 rfl) nX6_210 vX6_findFault (by omega) (m_findFault hM hT hN (by omega)) hM.1 rfl (Nat.le_of_ble_eq_true rfl) (fun x1 h1 q1 => ?_)
  obtain ⟨i1, f1, q1, gi, hf⟩ := q1
  have hX1 : MX G h1 b i1 (rset ρ 6 f1) (zA Z) := ⟨q1, hX.2.1, hX.2.2⟩
  have hZ1 : MRest Z i1 (rset ρ 6 f1) := hZr.mv (fun s hs => gi s (by omega)) MV.r6
  have hN1 : i1 2 = nI (zN Z) := (gi 2 (by decide)).trans hN
  rcases hf with ⟨fl, hf, rfl⟩ | ⟨hf, rfl⟩
  · have e : pfF (zY Z) (zN Z) (zA Z) = (-100 - nI fl, zA Z) := by
      unfold pfF
      rw [hf]
    have hfN : fl ≤ 100 := ffS_le hN60 hf
    rw [e, chZ_m (m100 hfN)]
    refine go_istore_1 (DX6_perform.at 2 rfl) ?_
    refine go_iload_1 (DX6_perform.at 3 rfl) ?_
    refine go_bipush (v := (-5)) (DX6_perform.at 4 rfl) (by decide) ?_
    refine go_icmp_eq 16 (DX6_perform.at 5 rfl) (by decide) (fun c8 => absurd c8 (nI_m5 (by omega))) (fun c8 => ?_)
    refine go_bipush (v := (-100)) (DX6_perform.at 6 rfl) (by decide) ?_
    refine go_iload_1 (DX6_perform.at 7 rfl) ?_
    refine go_isub (DX6_perform.at 8 rfl) ?_
    exact go_iret (DX6_perform.at 9 rfl) rfl rfl (RI.mk ⟨rfl, i1, _, hX1, hZ1⟩)
  · refine go_istore_1 (DX6_perform.at 2 rfl) ?_
    refine go_iload_1 (DX6_perform.at 3 rfl) ?_
    refine go_bipush (v := (-5)) (DX6_perform.at 4 rfl) (by decide) ?_
    refine go_icmp_eq 16 (DX6_perform.at 5 rfl) (by decide) (fun c8 => ?_) (fun c8 => absurd rfl c8)
    refine go_aload_0 (DX6_perform.at 10 rfl) ?_
    refine go_cVv0 (DX6_perform.at 11 rfl) nX6_77 vX6_remember (by omega) (m_remember q1) q1.1 rfl (Nat.le_of_ble_eq_true rfl) (fun h17 q17 => ?_)
    obtain ⟨g2, hg2, q17⟩ := q17
    have hB2 : RepM (zA Z) (rset (rset ρ 6 f1) 2 g2 2) := by
      rw [rset_s]
      exact hX1.2.2.congr hg2
    have hZ2 : MRest Z i1 (rset (rset ρ 6 f1) 2 g2) := hZ1.keep (fun _ _ => rfl) (rset_n (by decide)) (rset_n (by decide)) (rset_n (by decide))
    have hX2 : MX G h17 b i1 (rset (rset ρ 6 f1) 2 g2) (zA Z) := ⟨q17, hX1.2.1, hX1.2.2⟩
    have hT2 := hX2.2.1
    have hTx : TxtIs (rset (rset ρ 6 f1) 2 g2 5) (zY Z) (zN Z) := hT
    clear hM hX hZr hN hX1 hZ1 gi hT
    generalize rset (rset ρ 6 f1) 2 g2 = ρ2 at q17 hB2 hZ2 hX2 hT2 hTx
    refine go_aload_0 (DX6_perform.at 12 rfl) ?_
    refine go_iconst (v := nI 0) (DX6_perform.at 13 rfl) (by decide) ?_
    refine go_putM6 (kf := 8) (s := 3) (DX6_perform.at 14 rfl) fX6_185 (by decide) q17 (fun h22 q22 => ?_)
    refine go_iconst (v := nI 0) (DX6_perform.at 15 rfl) (by decide) ?_
    refine go_istore_2 (DX6_perform.at 16 rfl) ?_
    have e : pfF (zY Z) (zN Z) (zA Z) = cI ((prG (zY Z) (zN Z) (ffS (zY Z) (zN Z) (zN Z + 1) 0).2 0 (zA Z)).1 < 0) (prG (zY Z) (zN Z) (ffS (zY Z) (zN Z) (zN Z + 1) 0).2 0 (zA Z)) (nI (ffS (zY Z) (zN Z) (zN Z + 1) 0).2, (prG (zY Z) (zN Z) (ffS (zY Z) (zN Z) (zN Z + 1) 0).2 0 (zA Z)).2) := by
      unfold pfF
      rw [hf]
    rw [e]
    have hK60 := ffS_cnt (Y := zY Z) (N := zN Z) (zN Z + 1) 0 (Nat.zero_le _)
    generalize hKK : (ffS (zY Z) (zN Z) (zN Z + 1) 0).2 = K at hK60 ⊢
    generalize hR0 : prG (zY Z) (zN Z) K 0 (zA Z) = R
    generalize hYY : zY Z = Y at hf hKK hR0 hTx
    generalize hNN : zN Z = N at hf hKK hR0 hTx hN60 hN1 hK60
    have hN := hN1
    generalize hii : i1 = i at hN hX2 hZ2 q22
    have fin : ∀ (A : Ab) (h : List va_E) (i1 : Nat → Int32) (ρ1 : Nat → Nat → Int32) (x3 x4 x5 : Option Value), MX G h b i1 ρ1 A → MV ρ2 ρ1 → (∀ s, s ≠ 3 → i1 s = i s) → R = (0, A) → Go E mX6_perform d 0 0 101 [some (.ref b), some (.int (-5)), some (.int (nI K)), x3, x4, x5] [] h (RI (fun r h' => (R.1 < 0 ∧ r = R.1 ∧ MZ G Z h' b) ∨ (¬ R.1 < 0 ∧ r = (chZ Z (nI K, R.2)).1 ∧ MZ G (chZ Z (nI K, R.2)).2 h' b))) := by
      intro A h i1 ρ1 x3 x4 x5 hX1 hu hi hRR
      subst hRR
      refine go_aload_0 (DX6_perform.at 56 rfl) ?_
      refine go_iload_2 (DX6_perform.at 57 rfl) ?_
      refine go_cVi1 (DX6_perform.at 58 rfl) nX6_80 vX6_changed (by omega) (m_changedZ (R := (nI K, A)) hX1.1 (hu.tb hT2) (by rw [hu 2 (by decide) (by decide) (by decide)]; exact hB2) (hZ2.mv (fun s hs => hi s (by omega)) hu) hX1.2.2 (NG.pos (by omega))) hX1.1.1 rfl (Nat.le_of_ble_eq_true rfl) (fun x103 h103 q103 => ?_)
      exact go_iret (DX6_perform.at 59 rfl) rfl rfl (RI.mk (Or.inr ⟨(show ¬ (0 : Int32) < 0 from by decide), q103⟩))
    have loop : ∀ (f p done : Nat) (A : Ab) (h : List va_E) (i1 : Nat → Int32) (ρ1 : Nat → Nat → Int32) (x3 x4 x5 : Option Value), MX G h b i1 ρ1 A → MV ρ2 ρ1 → (∀ s, s ≠ 3 → i1 s = i s) → i1 3 = nI p → p ≤ N → (ffS Y N f p).1 = none → done + (ffS Y N f p).2 = K → prG Y N (ffS Y N f p).2 p A = R → Go E mX6_perform d 0 0 27 [some (.ref b), some (.int (-5)), some (.int (nI done)), x3, x4, x5] [] h (RI (fun r h' => (R.1 < 0 ∧ r = R.1 ∧ MZ G Z h' b) ∨ (¬ R.1 < 0 ∧ r = (chZ Z (nI K, R.2)).1 ∧ MZ G (chZ Z (nI K, R.2)).2 h' b))) := by
      intro f
      induction f with
      | zero =>
        intro p done A h i1 ρ1 x3 x4 x5 _ _ _ _ _ hno
        cases hno
      | succ f ih =>
        intro p done A h i1 ρ1 x3 x4 x5 hX1 hu hi hat hpN hno hcnt hRR
        have hok : (ordR Y N p).1 = true := by
          cases e : (ordR Y N p).1 with
          | true => rfl
          | false =>
            rw [ffS, if_pos e] at hno
            cases hno
        have hor := ordR_ok hok
        have hpl : p < N := (ordR_kind hok).1
        have hlen : i1 2 = nI N := (hi 2 (by decide)).trans hN
        have hT1 : TxtIs (ρ1 5) Y N := by
          rw [hu 5 (by decide) (by decide) (by decide)]
          exact hTx
        have hm2 : (ffS Y N (f + 1) p).2 = (ffS Y N (f + 1) p).2 - 1 + 1 := by
          have : 1 ≤ (ffS Y N (f + 1) p).2 := by
            rw [ffS, if_neg (by rw [hok]; decide)]
            split
            · show 1 ≤ (ffS Y N f ((ordR Y N p).2 + 1)).2 + 1
              omega
            · split
              · exact Nat.le_refl 1
              · exact Nat.le_refl 1
          omega
        refine go_aload_0 (DX6_perform.at 17 rfl) ?_
        refine go_getfield (DX6_perform.at 18 rfl) fX6_185 hX1.1.1 rfl ?_
        rw [hat]
        refine go_aload_0 (DX6_perform.at 19 rfl) ?_
        refine go_getfield (DX6_perform.at 20 rfl) fX6_182 hX1.1.1 rfl ?_
        rw [hlen]
        refine go_icmp_ge 101 (DX6_perform.at 21 rfl) (by decide) (fun c35 => absurd ((nI_leI (by omega) (by omega)).mp c35) (by omega)) (fun c35 => ?_)
        refine go_aload_0 (DX6_perform.at 22 rfl) ?_
        refine go_cVx0 (DX6_perform.at 23 rfl) nX6_188 vX6_next (by omega) (m_next hX1.1 hT1 hlen hat (by omega)) hX1.1.1 rfl (Nat.le_of_ble_eq_true rfl) ?_
        rw [if_pos hpl]
        refine go_istore_3 (DX6_perform.at 24 rfl) ?_
        refine go_aload_0 (DX6_perform.at 25 rfl) ?_
        refine go_cVi0 (DX6_perform.at 26 rfl) nX6_207 vX6_readsOrder (by omega) (m_readsOrder hX1.1 hT1 hlen hat (by omega) (by omega)) hX1.1.1 rfl (Nat.le_of_ble_eq_true rfl) (fun x44 h44 q44 => ?_)
        obtain ⟨i2, f2, q44, u44, q⟩ := q44
        rcases q with ⟨-, rfl, hn, hx⟩ | ⟨hbad, -⟩
        · have hX2 : MX G h44 b i2 (rset ρ1 6 f2) A := ⟨q44, hX1.2.1, hX1.2.2⟩
          have hi2 : ∀ s, s ≠ 3 → i2 s = i s := fun s hs => (u44.2 s hs).trans (hi s hs)
          have hu2 : MV ρ2 (rset ρ1 6 f2) := hu.trans MV.r6
          refine go_istore_4 (DX6_perform.at 27 rfl) ?_
          refine go_aload_0 (DX6_perform.at 28 rfl) ?_
          refine go_iload_3 (DX6_perform.at 29 rfl) ?_
          refine go_cVi1 (DX6_perform.at 30 rfl) nX6_213 vX6_carryOut (by omega) (m_carryOut hX2 hok hn hx (by omega)) q44.1 rfl (Nat.le_of_ble_eq_true rfl) (fun x51 h51 q51 => ?_)
          obtain ⟨ρ3, q51, u51, e51, r51⟩ := q51
          have hu3 := hu2.trans (MV.of u51)
          subst e51
          by_cases he : errI (exO Y N p A).1
          · have hRe : R = exO Y N p A := by rw [← hRR, hm2, prG_yes he]
            refine go_istore_5 (DX6_perform.at 31 rfl) ?_
            refine go_iload_5 (DX6_perform.at 32 rfl) ?_
            refine go_if_ge 75 (DX6_perform.at 33 rfl) (by decide) (fun c58 => absurd c58 (Int32.not_le.mpr he.1)) (fun c58 => ?_)
            refine go_iload_5 (DX6_perform.at 34 rfl) ?_
            refine go_bipush (v := (-5)) (DX6_perform.at 35 rfl) (by decide) ?_
            refine go_icmp_eq 75 (DX6_perform.at 36 rfl) (by decide) (fun c65 => absurd c65 he.2) (fun c65 => ?_)
            refine go_aload_0 (DX6_perform.at 37 rfl) ?_
            refine go_cVv0 (DX6_perform.at 38 rfl) nX6_170 vX6_takeBack (by omega) (m_takeBack q51) q51.1 rfl (Nat.le_of_ble_eq_true rfl) (fun h69 q69 => ?_)
            obtain ⟨f4, g4, q69⟩ := q69
            have hB3 : RepM (zA Z) (ρ3 2) := by
              rw [hu3 2 (by decide) (by decide) (by decide)]
              exact hB2
            refine go_iload_5 (DX6_perform.at 39 rfl) ?_
            exact go_iret (DX6_perform.at 40 rfl) rfl rfl (RI.mk (Or.inl ⟨by rw [hRe]; exact he.1, by rw [hRe], i2, _, ⟨q69, hu3.tb hT2, by rw [rset_s]; exact hB3.congr g4⟩, (hZ2.mv (fun s hs => hi2 s (by omega)) hu3).mu MU.r1⟩))
          · by_cases hz : (exO Y N p A).1 = -5
            · refine go_istore_5 (DX6_perform.at 31 rfl) ?_
              refine go_iload_5 (DX6_perform.at 32 rfl) ?_
              refine go_if_ge 75 (DX6_perform.at 33 rfl) (by decide) (fun c58 => absurd c58 (by rw [hz]; decide)) (fun c58 => ?_)
              refine go_iload_5 (DX6_perform.at 34 rfl) ?_
              refine go_bipush (v := (-5)) (DX6_perform.at 35 rfl) (by decide) ?_
              refine go_icmp_eq 75 (DX6_perform.at 36 rfl) (by decide) (fun c65 => ?_) (fun c65 => absurd hz c65)
              refine go_iload_2 (DX6_perform.at 41 rfl) ?_
              refine go_iload_4 (DX6_perform.at 42 rfl) ?_
              refine go_if_eq 85 (DX6_perform.at 43 rfl) (by decide) (fun c78 => absurd c78 (by decide)) (fun c78 => ?_)
              refine go_iconst (v := nI 1) (DX6_perform.at 44 rfl) (by decide) ?_
              refine go_goto 86 (DX6_perform.at 45 rfl) (by decide) ?_
              refine go_iadd (DX6_perform.at 47 rfl) ?_
              rw [nI_add]
              refine go_istore_2 (DX6_perform.at 48 rfl) ?_
              refine go_aload_0 (DX6_perform.at 49 rfl) ?_
              refine go_dup (DX6_perform.at 50 rfl) rfl ?_
              refine go_getfield (DX6_perform.at 51 rfl) fX6_185 q51.1 rfl ?_
              rw [u44.1]
              refine go_iconst (v := nI 1) (DX6_perform.at 52 rfl) (by decide) ?_
              refine go_iadd (DX6_perform.at 53 rfl) ?_
              rw [nI_add]
              refine go_putM6 (kf := 8) (s := 3) (DX6_perform.at 54 rfl) fX6_185 (by decide) q51 (fun h95 q95 => ?_)
              refine go_goto 27 (DX6_perform.at 55 rfl) (by decide) ?_
              have hRe : prG Y N (ffS Y N (f + 1) p).2 p A = prG Y N ((ffS Y N (f + 1) p).2 - 1) ((ordR Y N p).2 + 1) (exO Y N p A).2 := by
                rw [hm2, prG_no he]
                rfl
              have hX4 : MX G h95 b (upd i2 3 (nI ((ordR Y N p).2 + 1))) ρ3 (exO Y N p A).2 := ⟨q95, u51.tb hX2.2.1, r51⟩
              have hi4 : ∀ s, s ≠ 3 → upd i2 3 (nI ((ordR Y N p).2 + 1)) s = i s := fun s hs => (pk_un hs).trans (hi2 s hs)
              generalize hA4 : (exO Y N p A).2 = A4 at hX4 hRe
              by_cases k : (ordR Y N p).2 < N
              · have kc : Y (ordR Y N p).2 = 59 := Classical.byContradiction (fun w => by
                  rw [ffS, if_neg (by rw [hok]; decide), if_neg (fun v => w v.2), if_pos k] at hno
                  cases hno)
                have eR : ffS Y N (f + 1) p = ((ffS Y N f ((ordR Y N p).2 + 1)).1, (ffS Y N f ((ordR Y N p).2 + 1)).2 + 1) := by rw [ffS, if_neg (by rw [hok]; decide), if_pos ⟨k, kc⟩]
                rw [eR] at hRe hm2 hcnt hno
                rw [eR] at hRR
                exact ih ((ordR Y N p).2 + 1) (done + 1) A4 _ _ _ _ _ _ hX4 hu3 hi4 pk_us (by omega) hno (by dsimp only at hcnt; omega) (by rw [← hRR]; exact hRe.symm)
              · have eR : ffS Y N (f + 1) p = (none, 1) := by rw [ffS, if_neg (by rw [hok]; decide), if_neg (fun v => k v.1), if_neg k]
                rw [eR] at hRe hcnt hRR
                obtain rfl : K = done + 1 := hcnt.symm
                refine go_aload_0 (DX6_perform.at 17 rfl) ?_
                refine go_getfield (DX6_perform.at 18 rfl) fX6_185 hX4.1.1 rfl ?_
                rw [pk_us]
                refine go_aload_0 (DX6_perform.at 19 rfl) ?_
                refine go_getfield (DX6_perform.at 20 rfl) fX6_182 hX4.1.1 rfl ?_
                rw [hi4 2 (by decide), hN]
                refine go_icmp_ge 101 (DX6_perform.at 21 rfl) (by decide) (fun c35 => ?_) (fun c35 => absurd (nI_le (by omega) (by omega)) c35)
                exact fin A4 _ _ _ _ _ _ hX4 hu3 hi4 (by rw [← hRR]; exact hRe)
            · refine go_istore_5 (DX6_perform.at 31 rfl) ?_
              refine go_iload_5 (DX6_perform.at 32 rfl) ?_
              refine go_if_ge 75 (DX6_perform.at 33 rfl) (by decide) (fun c58 => ?_) (fun c58 => absurd (Int32.not_le.mp c58) (fun q => he ⟨q, hz⟩))
              refine go_iload_2 (DX6_perform.at 41 rfl) ?_
              refine go_iload_4 (DX6_perform.at 42 rfl) ?_
              refine go_if_eq 85 (DX6_perform.at 43 rfl) (by decide) (fun c78 => absurd c78 (by decide)) (fun c78 => ?_)
              refine go_iconst (v := nI 1) (DX6_perform.at 44 rfl) (by decide) ?_
              refine go_goto 86 (DX6_perform.at 45 rfl) (by decide) ?_
              refine go_iadd (DX6_perform.at 47 rfl) ?_
              rw [nI_add]
              refine go_istore_2 (DX6_perform.at 48 rfl) ?_
              refine go_aload_0 (DX6_perform.at 49 rfl) ?_
              refine go_dup (DX6_perform.at 50 rfl) rfl ?_
              refine go_getfield (DX6_perform.at 51 rfl) fX6_185 q51.1 rfl ?_
              rw [u44.1]
              refine go_iconst (v := nI 1) (DX6_perform.at 52 rfl) (by decide) ?_
              refine go_iadd (DX6_perform.at 53 rfl) ?_
              rw [nI_add]
              refine go_putM6 (kf := 8) (s := 3) (DX6_perform.at 54 rfl) fX6_185 (by decide) q51 (fun h95 q95 => ?_)
              refine go_goto 27 (DX6_perform.at 55 rfl) (by decide) ?_
              have hRe : prG Y N (ffS Y N (f + 1) p).2 p A = prG Y N ((ffS Y N (f + 1) p).2 - 1) ((ordR Y N p).2 + 1) (exO Y N p A).2 := by
                rw [hm2, prG_no he]
                rfl
              have hX4 : MX G h95 b (upd i2 3 (nI ((ordR Y N p).2 + 1))) ρ3 (exO Y N p A).2 := ⟨q95, u51.tb hX2.2.1, r51⟩
              have hi4 : ∀ s, s ≠ 3 → upd i2 3 (nI ((ordR Y N p).2 + 1)) s = i s := fun s hs => (pk_un hs).trans (hi2 s hs)
              generalize hA4 : (exO Y N p A).2 = A4 at hX4 hRe
              by_cases k : (ordR Y N p).2 < N
              · have kc : Y (ordR Y N p).2 = 59 := Classical.byContradiction (fun w => by
                  rw [ffS, if_neg (by rw [hok]; decide), if_neg (fun v => w v.2), if_pos k] at hno
                  cases hno)
                have eR : ffS Y N (f + 1) p = ((ffS Y N f ((ordR Y N p).2 + 1)).1, (ffS Y N f ((ordR Y N p).2 + 1)).2 + 1) := by rw [ffS, if_neg (by rw [hok]; decide), if_pos ⟨k, kc⟩]
                rw [eR] at hRe hm2 hcnt hno
                rw [eR] at hRR
                exact ih ((ordR Y N p).2 + 1) (done + 1) A4 _ _ _ _ _ _ hX4 hu3 hi4 pk_us (by omega) hno (by dsimp only at hcnt; omega) (by rw [← hRR]; exact hRe.symm)
              · have eR : ffS Y N (f + 1) p = (none, 1) := by rw [ffS, if_neg (by rw [hok]; decide), if_neg (fun v => k v.1), if_neg k]
                rw [eR] at hRe hcnt hRR
                obtain rfl : K = done + 1 := hcnt.symm
                refine go_aload_0 (DX6_perform.at 17 rfl) ?_
                refine go_getfield (DX6_perform.at 18 rfl) fX6_185 hX4.1.1 rfl ?_
                rw [pk_us]
                refine go_aload_0 (DX6_perform.at 19 rfl) ?_
                refine go_getfield (DX6_perform.at 20 rfl) fX6_182 hX4.1.1 rfl ?_
                rw [hi4 2 (by decide), hN]
                refine go_icmp_ge 101 (DX6_perform.at 21 rfl) (by decide) (fun c35 => ?_) (fun c35 => absurd (nI_le (by omega) (by omega)) c35)
                exact fin A4 _ _ _ _ _ _ hX4 hu3 hi4 (by rw [← hRR]; exact hRe)
          
        · rw [hok] at hbad
          cases hbad
        
    refine Go.weaken (loop (N + 1) 0 0 (zA Z) _ _ ρ2 _ _ _ (⟨q22, hX2.2⟩ : MX G h22 b _ ρ2 (zA Z)) MV.rf (fun s hs => pk_un hs) pk_us (Nat.zero_le _) hf (by rw [hKK, Nat.zero_add]) (by rw [hKK]; exact hR0)) ?_
    rintro r h1 ⟨y, rfl, ⟨g1, rfl, g3⟩ | ⟨g1, g3⟩⟩
    · rw [cI_t g1, chZ_no g1]
      exact RI.mk ⟨rfl, g3⟩
    · rw [cI_f g1]
      exact RI.mk g3
  

end M7
