/-! THE CLASS: history -/
section CL
variable {E : AEnv} {d : Nat} {h h' : List va_E} {b : Nat} {N B S : RP} {n : Nat} {Hs : Nat → RP} {tk : Nat} {o X : Nat → Int32} {G : Nat → Option va_E}
theorem ClAt.toHist {Hs' : Nat → RP} (q : ClAt G h b N B S n Hs tk o X) (u : Only (b + 19) (b + 20) h h') (hh : HsP h' b n Hs') : ClAt G h' b N B S n Hs' tk o X := by
  obtain ⟨q0, qn, q1, q2, q3, q4, q5, ⟨s, t, q6⟩, fr, w, fd, l, rf, q7⟩ := q
  exact ⟨u.at (by omega) q0, qn, q1.keep u (by omega), q2.keep u (by omega), q3.keep u (by omega), hh, q5.keep u (by omega), ⟨s, t, q6.keep u (by omega)⟩, fr.up u (by omega) (by omega), w, fd, l, rf, q7.keep u (by omega)⟩
theorem c_dropOldest (hC : ClAt G h b N B S 4 Hs tk o X) : Calls E mX5_dropOldest d 0 0 [.ref b] h (RV (fun h' => ClAt G h' b N B S 3 (fun i => Hs (i + 1)) tk o X)) := by
  refine Calls.of (ls := [some (.ref b), none, none]) (by decide +kernel) rfl (Nat.le_of_ble_eq_true rfl) (cat_ok rfl) ?_
  have hH := hC.2.2.2.2.2.1
  obtain ⟨F, p, hF, hp, hj, hs, hst⟩ := hH
  obtain ⟨σ0, s0⟩ := hs (p 0) (hp 0 (by omega)).1
  have loop : ∀ (m j : Nat) (h1 : List va_E) (F1 : Nat → Option Nat), j + m = 4 → 1 ≤ j → Only (b + 19) (b + 20) h h1 → h1[b + 19]? = some (hsA F1) → (∀ i, i < 4 → F1 i = if i + 1 < j then F (i + 1) else F i) → Go E mX5_dropOldest d 0 0 17 [some (.ref b), some (.ref (b + 28 + 6 * p 0)), some (.int (nI j))] [] h1 (RV (fun h' => ClAt G h' b N B S 3 (fun i => Hs (i + 1)) tk o X)) := by
    intro m
    induction m with
    | zero =>
      intro j h1 F1 hm h1j u1 hF1 hT
      have hO1 := u1.at (by omega) hC.1
      have hs0 := s0.keep u1 (by omega)
      obtain rfl : j = 4 := by omega
      refine go_iload_2 (DX5_dropOldest.at 11 rfl) ?_
      refine go_aload_0 (DX5_dropOldest.at 12 rfl) ?_
      refine go_getfield (DX5_dropOldest.at 13 rfl) fX5_22 hO1 rfl ?_
      refine go_alenS (v := nI 4) (DX5_dropOldest.at 14 rfl) hF1 rfl ?_
      refine go_icmp_ge 46 (DX5_dropOldest.at 15 rfl) (by decide) (fun c23 => ?_) (fun c23 => absurd (by decide) c23)
      refine go_aload_0 (DX5_dropOldest.at 28 rfl) ?_
      refine go_getfield (DX5_dropOldest.at 29 rfl) fX5_22 hO1 rfl ?_
      refine go_aload_0 (DX5_dropOldest.at 30 rfl) ?_
      refine go_getfield (DX5_dropOldest.at 31 rfl) fX5_22 hO1 rfl ?_
      refine go_alenS (v := nI 4) (DX5_dropOldest.at 32 rfl) hF1 rfl ?_
      refine go_iconst (v := nI 1) (DX5_dropOldest.at 33 rfl) (by decide) ?_
      refine go_isub (DX5_dropOldest.at 34 rfl) ?_
      rw [show nI 4 - nI 1 = nI 3 from by decide]
      refine go_aload_1 (DX5_dropOldest.at 35 rfl) ?_
      refine go_aastore (DX5_dropOldest.at 36 rfl) hF1 (vp_in_nI (show 3 < 4 by decide) (by decide)) hs0.1 ?_
      have hF3 := get_set (e := hsA (va_up F1 (nI 3).toNatClampNeg (some (b + 28 + 6 * p 0)))) hF1
      have u3 : Only (b + 19) (b + 20) h (h1.set (b + 19) (hsA (va_up F1 (nI 3).toNatClampNeg (some (b + 28 + 6 * p 0))))) := u1.trans (Only.set (by omega) (by omega))
      have hO3 := u3.at (by omega) hC.1
      have e3 : (nI 3).toNatClampNeg = 3 := by decide
      refine go_aload_0 (DX5_dropOldest.at 37 rfl) ?_
      refine go_aload_0 (DX5_dropOldest.at 38 rfl) ?_
      refine go_getfield (DX5_dropOldest.at 39 rfl) fX5_22 hO3 rfl ?_
      refine go_alenS (v := nI 4) (DX5_dropOldest.at 40 rfl) hF3 rfl ?_
      refine go_iconst (v := nI 1) (DX5_dropOldest.at 41 rfl) (by decide) ?_
      refine go_isub (DX5_dropOldest.at 42 rfl) ?_
      rw [show nI 4 - nI 1 = nI 3 from by decide]
      have hC3 : ClAt G _ b N B S 4 (fun i => if i < 3 then Hs (i + 1) else Hs 0) tk o X := hC.toHist u3 ⟨_, fun i => if i < 3 then p (i + 1) else p 0, hF3, fun i hi => by
        rw [e3]
        unfold va_up
        dsimp only
        by_cases q : i < 3
        · rw [if_pos q, if_neg (by omega), hT i hi, if_pos (by omega)]
          exact hp (i + 1) (by omega)
        · rw [if_neg q, if_pos (by omega)]
          exact ⟨(hp 0 (by omega)).1, rfl⟩, fun i k hi hk e => by
        dsimp only at e
        by_cases qi : i < 3
        · rw [if_pos qi] at e
          by_cases qk : k < 3
          · rw [if_pos qk] at e
            have := hj _ _ (by omega) (by omega) e
            omega
          · rw [if_neg qk] at e
            have := hj _ _ (by omega) (by omega) e
            omega
        · rw [if_neg qi] at e
          by_cases qk : k < 3
          · rw [if_pos qk] at e
            have := hj _ _ (by omega) (by omega) e
            omega
          · omega, fun q hq => by
        obtain ⟨σ, s⟩ := hs q hq
        exact ⟨σ, s.keep u3 (by omega)⟩, fun i hi => by
        dsimp only
        by_cases q : i < 3
        · rw [if_pos q, if_pos q]
          exact (hst (i + 1) (by omega)).keep u3 (by omega)
        · rw [if_neg q, if_neg q]
          exact (hst 0 (by omega)).keep u3 (by omega)⟩
      refine go_putfield (DX5_dropOldest.at 43 rfl) fX5_47 rfl rfl hO3 (Nat.le_of_ble_eq_true rfl) (fun w hw => by subst hw; exact ⟨rfl, rfl⟩) ?_
      have hC4 := hC3.toObj (n' := 3) (tk' := tk) (by omega) (fun _ g => by
        obtain ⟨F, p, g1, g2, g3, g4, g5⟩ := g
        exact ⟨F, p, g1, g2, g3, g4, fun i hi => g5 i (by omega)⟩)
      exact go_return (DX5_dropOldest.at 44 rfl) rfl (RV.mk ⟨hC4.1, hC4.2.1, hC4.2.2.1, hC4.2.2.2.1, hC4.2.2.2.2.1, by
  obtain ⟨F, p, g1, g2, g3, g4, g5⟩ := hC4.2.2.2.2.2.1
  exact ⟨F, p, g1, g2, g3, g4, fun i hi => by have := g5 i (by omega); dsimp only at this; rw [if_pos hi] at this; exact this⟩, hC4.2.2.2.2.2.2⟩)
    | succ m ih =>
      intro j h1 F1 hm h1j u1 hF1 hT
      have hO1 := u1.at (by omega) hC.1
      have ej : nI j - nI 1 = nI (j - 1) := pk_sub h1j
      have hF1j : F1 j = some (b + 28 + 6 * p j) := by rw [hT j (by omega), if_neg (by omega)]; exact (hp j (by omega)).2
      obtain ⟨σj, sj⟩ := hs (p j) (hp j (by omega)).1
      have hsj := sj.keep u1 (by omega)
      refine go_iload_2 (DX5_dropOldest.at 11 rfl) ?_
      refine go_aload_0 (DX5_dropOldest.at 12 rfl) ?_
      refine go_getfield (DX5_dropOldest.at 13 rfl) fX5_22 hO1 rfl ?_
      refine go_alenS (v := nI 4) (DX5_dropOldest.at 14 rfl) hF1 rfl ?_
      refine go_icmp_ge 46 (DX5_dropOldest.at 15 rfl) (by decide) (fun c23 => absurd ((nI_leI (by decide) (by omega)).mp c23) (by omega)) (fun c23 => ?_)
      refine go_aload_0 (DX5_dropOldest.at 16 rfl) ?_
      refine go_getfield (DX5_dropOldest.at 17 rfl) fX5_22 hO1 rfl ?_
      refine go_iload_2 (DX5_dropOldest.at 18 rfl) ?_
      refine go_iconst (v := nI 1) (DX5_dropOldest.at 19 rfl) (by decide) ?_
      refine go_isub (DX5_dropOldest.at 20 rfl) ?_
      refine go_aload_0 (DX5_dropOldest.at 21 rfl) ?_
      refine go_getfield (DX5_dropOldest.at 22 rfl) fX5_22 hO1 rfl ?_
      refine go_iload_2 (DX5_dropOldest.at 23 rfl) ?_
      refine go_aaload (DX5_dropOldest.at 24 rfl) hF1 (vp_in_nI (show j < 4 by omega) (by decide)) (by rw [nI_cl (by omega)]; exact hF1j) ?_
      refine go_aastore (DX5_dropOldest.at 25 rfl) hF1 (by rw [ej]; exact vp_in_nI (show j - 1 < 4 by omega) (by decide)) hsj.1 ?_
      rw [ej, nI_cl (by omega)]
      refine go_iincN_2 (DX5_dropOldest.at 26 rfl) ?_
      refine go_goto 17 (DX5_dropOldest.at 27 rfl) (by decide) ?_
      exact ih (j + 1) _ _ (by omega) (by omega) (u1.trans (Only.set (by omega) (by omega))) (get_set hF1) (fun i hi => by
        unfold va_up
        by_cases q : i = j - 1
        · rw [if_pos q, if_pos (by omega), show i + 1 = j by omega]
          exact (hp j (by omega)).2.symm
        · rw [if_neg q, hT i hi]
          by_cases q2 : i + 1 < j
          · rw [if_pos q2, if_pos (by omega)]
          · rw [if_neg q2, if_neg (by omega)])
  refine go_aload_0 (DX5_dropOldest.at 0 rfl) ?_
  refine go_getfield (DX5_dropOldest.at 1 rfl) fX5_22 hC.1 rfl ?_
  refine go_alenS (v := nI 4) (DX5_dropOldest.at 2 rfl) hF rfl ?_
  refine go_if_le 70 (DX5_dropOldest.at 3 rfl) (by decide) (fun c5 => absurd c5 (by decide)) (fun c5 => ?_)
  refine go_aload_0 (DX5_dropOldest.at 4 rfl) ?_
  refine go_getfield (DX5_dropOldest.at 5 rfl) fX5_22 hC.1 rfl ?_
  refine go_iconst (v := nI 0) (DX5_dropOldest.at 6 rfl) (by decide) ?_
  refine go_aaload (DX5_dropOldest.at 7 rfl) hF (vp_in_nI (show 0 < 4 by decide) (by decide)) (hp 0 (by omega)).2 ?_
  refine go_astore_1 (DX5_dropOldest.at 8 rfl) ?_
  refine go_iconst (v := nI 1) (DX5_dropOldest.at 9 rfl) (by decide) ?_
  refine go_istore_2 (DX5_dropOldest.at 10 rfl) ?_
  exact loop 3 1 h F (by omega) (by omega) Only.rf hF (fun i hi => by rw [if_neg (by omega)])

end CL
