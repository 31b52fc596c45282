/-! THE FAULT OF THE TEXT -/
theorem ordR_ok {Y : Nat → Nat} {N p : Nat} (h : (ordR Y N p).1 = true) : p + 2 ≤ (ordR Y N p).2 ∧ (ordR Y N p).2 ≤ N := by
  revert h
  unfold ordR
  split
  · split
    · rename_i q; intro _; have := nme_le (Y := Y) (N := N) (p := p + 1) q.1; exact ⟨by show p + 2 ≤ nme Y N (p + 1); omega, this.2⟩
    · intro h; cases h
  · split
    · split
      · split
        · split
          · rename_i q3
            have l3 := nme_le (Y := Y) (N := N) (p := p + 3) q3.1
            split
            · split
              · split
                · rename_i q5; intro _; have := nme_le (Y := Y) (N := N) (p := nme Y N (p + 3) + 1) q5.1; exact ⟨by show p + 2 ≤ nme Y N (nme Y N (p + 3) + 1); omega, this.2⟩
                · intro h; cases h
              · intro h; cases h
            · intro _; exact ⟨by show p + 2 ≤ nme Y N (p + 3); omega, l3.2⟩
          · intro h; cases h
        · intro h; cases h
      · intro h; cases h
    · intro h; cases h
theorem ordR_le {Y : Nat → Nat} {N p : Nat} (hp : p ≤ N) : (ordR Y N p).2 ≤ N := by
  unfold ordR
  split
  · rename_i q
    split
    · rename_i q1; exact (nme_le q1.1).2
    · show p + 1 ≤ N; omega
  · split
    · rename_i q
      split
      · rename_i q1
        split
        · rename_i q2
          split
          · rename_i q3
            have l3 := nme_le (Y := Y) (N := N) (p := p + 3) q3.1
            split
            · split
              · rename_i q4
                split
                · rename_i q5; exact (nme_le q5.1).2
                · show nme Y N (p + 3) + 1 ≤ N; omega
              · exact l3.2
            · exact l3.2
          · show p + 3 ≤ N; omega
        · show p + 2 ≤ N; have := q1.1; omega
      · show p + 1 ≤ N; omega
    · exact hp
/-- the fault of the text from p on, if there is one, and how many orders there are; m: more than the signs that are left -/
def ffS (Y : Nat → Nat) (N : Nat) : Nat → Nat → Option Nat × Nat
  | 0, p => (some p, 0)
  | m + 1, p => if (ordR Y N p).1 = false then (some (ordR Y N p).2, 0) else
      if (ordR Y N p).2 < N ∧ Y (ordR Y N p).2 = 59 then ((ffS Y N m ((ordR Y N p).2 + 1)).1, (ffS Y N m ((ordR Y N p).2 + 1)).2 + 1)
      else if (ordR Y N p).2 < N then (some (ordR Y N p).2, 1) else (none, 1)
section OR
variable {E : AEnv} {d : Nat} {h : List va_E} {b : Nat} {o X : Nat → Int32}
theorem c_findFault {Yt : Nat → Nat} {N : Nat} (hO : OrAt h b o X) (hT : TxtIs X Yt N) (hN : o 1 = nI N) (hd : 4 ≤ d) : Calls E mX1_findFault d 0 0 [.ref b] h (RI (fun x h' => ∃ o', OrU h b o' X h' ∧ o' 1 = o 1 ∧ ((∃ f, (ffS Yt N (N + 1) 0).1 = some f ∧ x = nI f) ∨ ((ffS Yt N (N + 1) 0).1 = none ∧ x = (-1) ∧ o' 3 = nI ((ffS Yt N (N + 1) 0).2))))) := by
  refine Calls.of (ls := [some (.ref b)]) (by decide +kernel) rfl (Nat.le_of_ble_eq_true rfl) (cat_ok rfl) ?_
  have hN60 := hT.1
  have loop : ∀ (m p c : Nat) (h1 : List va_E) (o1 : Nat → Int32), OrU h b o1 X h1 → o1 2 = nI p → o1 3 = nI c → o1 1 = nI N → p ≤ N → N < p + m → 2 * c ≤ p → Go E mX1_findFault d 0 0 9 [some (.ref b)] [] h1 (RI (fun x h' => ∃ o', OrU h b o' X h' ∧ o' 1 = o 1 ∧ ((∃ f, (ffS Yt N m p).1 = some f ∧ x = nI f) ∨ ((ffS Yt N m p).1 = none ∧ x = (-1) ∧ o' 3 = nI (c + (ffS Yt N m p).2))))) := by
    intro m
    induction m with
    | zero =>
      intro p c h1 o1 u _ _ _ h1p h2p
      omega
    | succ m ih =>
      intro p c h1 o1 u hp1 hc1 hN1 hpN hm hcp
      have hle := ordR_le (Y := Yt) hpN
      refine go_aload_0 (DX1_findFault.at 5 rfl) ?_
      refine go_cVi0 (DX1_findFault.at 6 rfl) nX1_43 vX1_readOrder (by omega) (c_readOrder u.1 hT hN1 hp1 (by omega) (by omega)) u.1.1 rfl (Nat.le_of_ble_eq_true rfl) (fun x10 h10 q10 => ?_)
      obtain ⟨o2, u10, e1, e3', e2, q10⟩ := q10
      have e3 : o2 3 = nI c := e3'.trans hc1
      rcases q10 with ⟨hok, rfl, -⟩ | ⟨hok, rfl⟩
      · have hpr := ordR_ok hok
        refine go_if_ne 21 (DX1_findFault.at 7 rfl) (by decide) (fun c13 => ?_) (fun c13 => absurd c13 (by decide))
        refine go_aload_0 (DX1_findFault.at 11 rfl) ?_
        refine go_dup (DX1_findFault.at 12 rfl) rfl ?_
        refine go_getfield (DX1_findFault.at 13 rfl) fX1_22 u10.1.1 rfl ?_
        rw [e3]
        refine go_iconst (v := nI 1) (DX1_findFault.at 14 rfl) (by decide) ?_
        refine go_iadd (DX1_findFault.at 15 rfl) ?_
        rw [nI_add]
        refine go_putOr (DX1_findFault.at 16 rfl) fX1_22 (by decide) u10.1 (fun h28 uh28 => ?_)
        refine go_aload_0 (DX1_findFault.at 17 rfl) ?_
        refine go_getfield (DX1_findFault.at 18 rfl) fX1_22 uh28.1.1 rfl ?_
        rw [show upd o2 3 (nI (c + 1)) 3 = nI (c + 1) from rfl]
        refine go_bipush (v := nI 60) (DX1_findFault.at 19 rfl) (by decide) ?_
        refine go_icmp_gt 49 (DX1_findFault.at 20 rfl) (by decide) (fun c37 => absurd c37 (nI_nlt (a := 60) (b := c + 1) (by omega) (by omega))) (fun c37 => ?_)
        refine go_aload_0 (DX1_findFault.at 21 rfl) ?_
        refine go_bipush (v := nI 59) (DX1_findFault.at 22 rfl) (by decide) ?_
        refine go_cVi1 (DX1_findFault.at 23 rfl) nX1_47 vX1_pass (by omega) (c_pass (p := (ordR Yt N p).2) (wn := 59) uh28.1 hT (show upd o2 3 (nI (c + 1)) 1 = nI N from e1.trans hN1) e2 (by omega) (by decide) (by omega)) uh28.1.1 rfl (Nat.le_of_ble_eq_true rfl) (fun x43 h43 q43 => ?_)
        rcases q43 with ⟨k1, k2, rfl, u43⟩ | ⟨g2, rfl, rfl⟩
        · refine go_if_ne 9 (DX1_findFault.at 24 rfl) (by decide) (fun c46 => ?_) (fun c46 => absurd c46 (by decide))
          have eR : ffS Yt N (m + 1) p = ((ffS Yt N m ((ordR Yt N p).2 + 1)).1, (ffS Yt N m ((ordR Yt N p).2 + 1)).2 + 1) := by rw [ffS, if_neg (by rw [hok]; decide), if_pos ⟨k1, k2⟩]
          rw [eR]
          have K := ih ((ordR Yt N p).2 + 1) (c + 1) h43 _ (u.then (u10.then (uh28.then u43))) rfl rfl (e1.trans hN1) (by omega) (by omega) (by omega)
          rw [show c + 1 + (ffS Yt N m ((ordR Yt N p).2 + 1)).2 = c + ((ffS Yt N m ((ordR Yt N p).2 + 1)).2 + 1) by omega] at K
          exact K
        · refine go_if_ne 9 (DX1_findFault.at 24 rfl) (by decide) (fun c46 => absurd (by decide) c46) (fun c46 => ?_)
          refine go_aload_0 (DX1_findFault.at 25 rfl) ?_
          refine go_getfield (DX1_findFault.at 26 rfl) fX1_19 uh28.1.1 rfl ?_
          refine go_aload_0 (DX1_findFault.at 27 rfl) ?_
          refine go_getfield (DX1_findFault.at 28 rfl) fX1_15 uh28.1.1 rfl ?_
          refine go_icmp_ge 67 (DX1_findFault.at 29 rfl) (by decide) (fun c57 => ?_) (fun c57 => ?_)
          · rw [show upd o2 3 (nI (c + 1)) 2 = nI (ordR Yt N p).2 from e2, show upd o2 3 (nI (c + 1)) 1 = nI N from e1.trans hN1, nI_leI (by omega) (by omega)] at c57
            have eR : ffS Yt N (m + 1) p = (none, 1) := by rw [ffS, if_neg (by rw [hok]; decide), if_neg g2, if_neg (by omega)]
            refine go_iconst (v := (-1)) (DX1_findFault.at 33 rfl) (by decide) ?_
            exact go_iret (DX1_findFault.at 34 rfl) rfl rfl (RI.mk ⟨_, u.then (u10.then uh28), e1.trans (hN1.trans hN.symm), by rw [eR]; first | exact Or.inl ⟨_, rfl, rfl⟩ | exact Or.inr ⟨rfl, rfl, rfl⟩⟩)
          · rw [show upd o2 3 (nI (c + 1)) 2 = nI (ordR Yt N p).2 from e2, show upd o2 3 (nI (c + 1)) 1 = nI N from e1.trans hN1, nI_leI (by omega) (by omega)] at c57
            have eR : ffS Yt N (m + 1) p = (some (ordR Yt N p).2, 1) := by rw [ffS, if_neg (by rw [hok]; decide), if_neg g2, if_pos (by omega)]
            refine go_aload_0 (DX1_findFault.at 30 rfl) ?_
            refine go_getfield (DX1_findFault.at 31 rfl) fX1_19 uh28.1.1 rfl ?_
            rw [show upd o2 3 (nI (c + 1)) 2 = nI (ordR Yt N p).2 from e2]
            refine go_goto 68 (DX1_findFault.at 32 rfl) (by decide) ?_
            exact go_iret (DX1_findFault.at 34 rfl) rfl rfl (RI.mk ⟨_, u.then (u10.then uh28), e1.trans (hN1.trans hN.symm), by rw [eR]; first | exact Or.inl ⟨_, rfl, rfl⟩ | exact Or.inr ⟨rfl, rfl, rfl⟩⟩)
      · have eR : ffS Yt N (m + 1) p = (some (ordR Yt N p).2, 0) := by rw [ffS, if_pos hok]
        refine go_if_ne 21 (DX1_findFault.at 7 rfl) (by decide) (fun c13 => absurd (by decide) c13) (fun c13 => ?_)
        refine go_aload_0 (DX1_findFault.at 8 rfl) ?_
        refine go_getfield (DX1_findFault.at 9 rfl) fX1_19 u10.1.1 rfl ?_
        rw [e2]
        exact go_iret (DX1_findFault.at 10 rfl) rfl rfl (RI.mk ⟨_, u.then u10, e1.trans (hN1.trans hN.symm), Or.inl ⟨_, by rw [eR], rfl⟩⟩)
  refine go_aload_0 (DX1_findFault.at 0 rfl) ?_
  refine go_cVv0 (DX1_findFault.at 1 rfl) nX1_40 vX1_goToStart (by omega) (c_goToStart_ hO) hO.1 rfl (Nat.le_of_ble_eq_true rfl) (fun h1 q1 => ?_)
  refine go_aload_0 (DX1_findFault.at 2 rfl) ?_
  refine go_iconst (v := nI 0) (DX1_findFault.at 3 rfl) (by decide) ?_
  refine go_putOr (DX1_findFault.at 4 rfl) fX1_22 (by decide) q1.1 (fun h6 u6 => ?_)
  have K := loop (N + 1) 0 0 h6 _ (q1.then u6) rfl rfl (show upd (upd o 2 (nI 0)) 3 (nI 0) 1 = nI N from hN) (by omega) (by omega) (by omega)
  rw [Nat.zero_add] at K
  exact K

end OR
