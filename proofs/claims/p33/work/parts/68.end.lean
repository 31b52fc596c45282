/-! THE LAW'S END: what survives comes back by work -/
theorem sv_in {A : Ab} {t : Nat} (hA : AOK A) (ht : t < aT A) : svF A (nI (aM A t)) = bP (IndP (colv (aG A) (aS A)) (aM A t) (nc (aG A) (aS A))) := by
  have hn := hA.1.nc
  have hp : 2 ^ nc (aG A) (aS A) ≤ 2 ^ 20 := Nat.pow_le_pow_right (by decide) hn.2
  have hM := hA.2.1 t ht
  unfold svF
  rw [cI_t ((inR_nI (by omega) (by omega)).mpr hM), nI_cl (by omega)]
theorem back_iff {A A3 : Ab} {t : Nat} (hA : AOK A) (hA3 : AOK A3) (hW : Wk A A3) (hq : ∀ x, x ∈ aQ A3 → ¬ IndP (colv (aG A) (aS A)) (aM A (x / 20)) (nc (aG A) (aS A))) (ht : t < aT A) : aM A3 t = 0 ↔ IndP (colv (aG A) (aS A)) (aM A t) (nc (aG A) (aS A)) := by
  obtain ⟨g1, g2, g3, g4⟩ := hW.g
  have hn := hA3.1.nc
  constructor
  · intro e
    exact (hW.2.2 t ht).mp (by rw [e]; exact IndP.zero)
  · intro hI
    refine eq_bits (fun x => ⟨fun q => ?_, fun q => absurd q (nbit0 x)⟩)
    exfalso
    have ht3 : t < aT A3 := by rw [g3]; exact ht
    have hx := bit_big (hA3.2.1 t ht3) q
    have hm := hq _ ((hA3.qin ht3 hx).mpr q)
    rw [show (20 * t + x) / 20 = t by omega] at hm
    exact hm hI
theorem wk50 {A : Ab} (h : ¬ aQ A = []) : wkF A (nI 50) = (nI (wkG 50 A).1, (wkG 50 A).2) := by
  unfold wkF
  rw [cI_t ⟨by decide, Int32.le_refl _⟩, cI_f h, nI_cl (by decide)]
theorem wk50_e {A : Ab} (h : aQ A = []) : wkF A (nI 50) = (-5, A) := by
  unfold wkF
  rw [cI_t ⟨by decide, Int32.le_refl _⟩, cI_t h]
theorem CZ.aok {G : Nat → Option va_E} {Z : Zt} {h : List va_E} {b : Nat} (q : CZ G Z h b) : AOK (zA Z) := by
  obtain ⟨B, S, o, X, hC, -⟩ := q
  obtain ⟨σ, -, hR⟩ := hC.2.2.1
  exact hR.1
section LW
variable {E : AEnv} {d : Nat} {h : List va_E} {ρ : Nat → Nat → Int32} {A : Ab} {Z : Zt} {Ψ : Pst} {fi : Int32}
theorem l_747 {S : Nat} {Z3 : Zt} {h3 : List va_E} {u11 u12 u13 u14 u15 u16 : Option Value} (hd : 10 ≤ d) (hΨ : ∀ h, Ψ (some (.int 1)) h) (hK : Cw A) (hL : LA h ρ) (hR : LR A ρ) (hZ3 : CZ (fun j => h[j]?) Z3 h3 0) (eZ : zA Z3 = (wkG 150 A).2) (hS8 : S < 8) (hS : ∀ t, t < aT A → (bit S t ↔ IndP (colv (aG A) (aS A)) (aM A t) (nc (aG A) (aS A)))) : Go E mL_law d 0 0 747 [some (.ref (BIGN + 2)), some (.ref 0), some (.ref 52), some (.ref 53), some (.ref 54), some (.ref 55), some (.ref 56), some (.ref 57), some (.ref 58), some (.int fi), some (.int (nI S)), u11, u12, u13, u14, u15, u16] [] h3 Ψ := by
  have hA := hR.1
  have hY := hR.2.1
  have hLO := hY.1
  have hT3 : aT A ≤ 3 := hY.2.1
  have hn := hLO.nc
  have hg4 : aG A ≤ 4 := hLO.2.1
  have hg1 : 1 ≤ aG A := hLO.1
  have hs6 : aS A ≤ 6 := hLO.2.2.2.1
  have hs2 : 2 ≤ aS A := hLO.2.2.1
  have hgs : aG A * aS A ≤ 15 := hLO.2.2.2.2.1
  have hH5 : aH A ≤ 5 := hLO.2.2.2.2.2.2.2
  have hT1 : 1 ≤ aT A := hLO.2.2.2.2.2.1
  have en : nc (aG A) (aS A) = aG A * aS A + aG A + 2 := rfl
  have hq60 := hA.q60 hT3
  obtain ⟨hA3, hW3, hQ3⟩ := work_all 150 A (aQ A) [] hA hK (List.append_nil _).symm (fun x hx => absurd hx List.not_mem_nil) (by omega)
  obtain ⟨A3, eA3⟩ : ∃ A3, A3 = (wkG 150 A).2 := ⟨_, rfl⟩
  rw [← eA3] at hA3 hW3 hQ3
  obtain ⟨g1, g2, g3, g4⟩ := hW3.g
  have eZ3 : zA Z3 = A3 := eZ.trans eA3.symm
  have lc : ∀ (m t : Nat) (h1 : List va_E) (u12 u13 u14 u15 u16 : Option Value), CZ (fun j => h[j]?) Z3 h1 0 → t + m = aT A → Go E mL_law d 0 0 750 [some (.ref (BIGN + 2)), some (.ref 0), some (.ref 52), some (.ref 53), some (.ref 54), some (.ref 55), some (.ref 56), some (.ref 57), some (.ref 58), some (.int fi), some (.int (nI S)), some (.int (nI t)), u12, u13, u14, u15, u16] [] h1 Ψ := by
    intro m
    induction m with
    | zero =>
      intro t h1 u12 u13 u14 u15 u16 Z1 hm
      have et : t = aT A := by omega
      subst et
      refine go_iload_11 (DW8.at 36 rfl) ?_
      refine go_aload_2 (DW8.at 37 rfl) ?_
      refine go_iconst (v := nI 2) (DW8.at 38 rfl) (by decide) ?_
      refine go_ialdL 0 (DW8.at 39 rfl) (hL.cz Z1) (by decide) (show 2 < 9 by decide) ?_
      rw [hY.2.2.2.2.1]
      refine go_icmp_ge 857 (DW8.at 40 rfl) (by decide) (fun c755 => ?_) (fun c755 => absurd (Int32.le_refl _) c755)
      refine go_iconst (v := nI 1) (DW9.at 43 rfl) (by decide) ?_
      exact go_iret (DW9.at 44 rfl) rfl rfl (hΨ h1)
    | succ m ih =>
      intro t h1 u12 u13 u14 u15 u16 Z1 hm
      have ht : t < aT A := by omega
      have li : ∀ (m c : Nat) (b : Int32) (u14 : Option Value) (h1 : List va_E), CZ (fun j => h[j]?) Z3 h1 0 → ((b = nI 1 ∧ ∀ c', c' < c → ¬ bit (aM A3 t) c') ∨ (b = nI 0 ∧ ∃ c', c' < c ∧ bit (aM A3 t) c')) → c + m = nc (aG A) (aS A) → Go E mL_law d 0 0 764 [some (.ref (BIGN + 2)), some (.ref 0), some (.ref 52), some (.ref 53), some (.ref 54), some (.ref 55), some (.ref 56), some (.ref 57), some (.ref 58), some (.int fi), some (.int (nI S)), some (.int (nI t)), some (.int b), some (.int (nI c)), u14, u15, u16] [] h1 Ψ := by
        intro m
        induction m with
        | zero =>
          intro c b u14 h1 Z1 hbb hm2
          have ec : c = nc (aG A) (aS A) := by omega
          subst ec
          rcases hbb with ⟨eb, hyb⟩ | ⟨eb, hyb⟩
          · subst eb
            have h0 : aM A3 t = 0 := eq_bits (fun x => ⟨fun q => absurd q (hyb x (by have := bit_big (hA3.2.1 t (by omega)) q; rw [g1, g2] at this; exact this)), fun q => absurd q (nbit0 x)⟩)
            have hI := (back_iff hA hA3 hW3 hQ3 ht).mp h0
            refine go_iload_13 (DW8.at 45 rfl) ?_
            refine go_aload_2 (DW8.at 46 rfl) ?_
            refine go_cSx1 (DW8.at 47 rfl) nL_16 vL_all (by omega) (c_all (hL.cz Z1) hY) (Nat.le_of_ble_eq_true rfl) ?_
            refine go_icmp_ge 828 (DW8.at 48 rfl) (by decide) (fun c770 => ?_) (fun c770 => absurd (Int32.le_refl _) c770)
            refine go_iload_12 (DW9.at 27 rfl) ?_
            refine go_iload_10 (DW9.at 28 rfl) ?_
            refine go_iload_11 (DW9.at 29 rfl) ?_
            refine go_ishr (DW9.at 30 rfl) ?_
            refine go_iconst (v := nI 1) (DW9.at 31 rfl) (by decide) ?_
            refine go_iand (DW9.at 32 rfl) ?_
            rw [nx_bit (by omega) (by omega)]
            refine go_iconst (v := nI 1) (DW9.at 33 rfl) (by decide) ?_
            refine go_icmp_ne 845 (DW9.at 34 rfl) (by decide) (fun c838 => absurd (congrArg nI (show S / 2 ^ t % 2 = 1 from (hS t ht).mpr hI)) c838) (fun c838 => ?_)
            refine go_iconst (v := nI 1) (DW9.at 35 rfl) (by decide) ?_
            refine go_goto 846 (DW9.at 36 rfl) (by decide) ?_
            refine go_icmp_eq 851 (DW9.at 38 rfl) (by decide) (fun c846 => ?_) (fun c846 => absurd rfl c846)
            refine go_iincN_11 (DW9.at 41 rfl) ?_
            refine go_goto 750 (DW9.at 42 rfl) (by decide) ?_
            exact ih (t + 1) h1 _ _ _ _ _ Z1 (by omega)
          · subst eb
            have hI : ¬ IndP (colv (aG A) (aS A)) (aM A t) (nc (aG A) (aS A)) := fun q => by
              obtain ⟨c1, -, h2⟩ := hyb
              rw [(back_iff hA hA3 hW3 hQ3 ht).mpr q] at h2
              exact nbit0 _ h2
            refine go_iload_13 (DW8.at 45 rfl) ?_
            refine go_aload_2 (DW8.at 46 rfl) ?_
            refine go_cSx1 (DW8.at 47 rfl) nL_16 vL_all (by omega) (c_all (hL.cz Z1) hY) (Nat.le_of_ble_eq_true rfl) ?_
            refine go_icmp_ge 828 (DW8.at 48 rfl) (by decide) (fun c770 => ?_) (fun c770 => absurd (Int32.le_refl _) c770)
            refine go_iload_12 (DW9.at 27 rfl) ?_
            refine go_iload_10 (DW9.at 28 rfl) ?_
            refine go_iload_11 (DW9.at 29 rfl) ?_
            refine go_ishr (DW9.at 30 rfl) ?_
            refine go_iconst (v := nI 1) (DW9.at 31 rfl) (by decide) ?_
            refine go_iand (DW9.at 32 rfl) ?_
            rw [nx_bit (by omega) (by omega)]
            refine go_iconst (v := nI 1) (DW9.at 33 rfl) (by decide) ?_
            refine go_icmp_ne 845 (DW9.at 34 rfl) (by decide) (fun c838 => ?_) (fun c838 => absurd ((hS t ht).mp ((nI_eq (by omega) (by decide)).mp c838)) hI)
            refine go_iconst (v := nI 0) (DW9.at 37 rfl) (by decide) ?_
            refine go_icmp_eq 851 (DW9.at 38 rfl) (by decide) (fun c846 => ?_) (fun c846 => absurd rfl c846)
            refine go_iincN_11 (DW9.at 41 rfl) ?_
            refine go_goto 750 (DW9.at 42 rfl) (by decide) ?_
            exact ih (t + 1) h1 _ _ _ _ _ Z1 (by omega)
        | succ m ih2 =>
          intro c b u14 h1 Z1 hbb hm2
          have hc : c < nc (aG A) (aS A) := by omega
          obtain ⟨n1, k1, o1⟩ := Z1.obj
          by_cases hb : bit (aM A3 t) c
          · rcases hbb with ⟨eb, hyb⟩ | ⟨eb, hyb⟩
            · subst eb
              refine go_iload_13 (DW8.at 45 rfl) ?_
              refine go_aload_2 (DW8.at 46 rfl) ?_
              refine go_cSx1 (DW8.at 47 rfl) nL_16 vL_all (by omega) (c_all (hL.cz Z1) hY) (Nat.le_of_ble_eq_true rfl) ?_
              refine go_icmp_ge 828 (DW8.at 48 rfl) (by decide) (fun c770 => absurd c770 (by rw [nI_leI (by omega) (by omega)]; omega)) (fun c770 => ?_)
              refine go_aload_1 (DW8.at 49 rfl) ?_
              refine go_iload_11 (DW9.at 0 rfl) ?_
              refine go_iload_13 (DW9.at 1 rfl) ?_
              refine go_cVi2 (DW9.at 2 rfl) nL_71 vX5_value (by omega) (z_value Z1 (by omega)) o1 rfl (Nat.le_of_ble_eq_true rfl) (fun x778 h778 q778 => ?_)
              obtain ⟨e778, Z778⟩ := q778
              rw [eZ3, va_b hA3 (by omega) (by rw [g1, g2]; exact hc) hb] at e778
              subst e778
              refine go_istore_14 (DW9.at 3 rfl) ?_
              refine go_iload_12 (DW9.at 4 rfl) ?_
              refine go_if_eq 797 (DW9.at 5 rfl) (by decide) (fun c785 => absurd c785 (by decide)) (fun c785 => ?_)
              refine go_iload_14 (DW9.at 6 rfl) ?_
              refine go_if_lt 797 (DW9.at 7 rfl) (by decide) (fun c790 => ?_) (fun c790 => absurd (show (-5 : Int32) < 0 by decide) c790)
              refine go_iconst (v := nI 0) (DW9.at 10 rfl) (by decide) ?_
              refine go_istore_12 (DW9.at 11 rfl) ?_
              refine go_iload_14 (DW9.at 12 rfl) ?_
              refine go_if_lt 822 (DW9.at 13 rfl) (by decide) (fun c802 => ?_) (fun c802 => absurd (show (-5 : Int32) < 0 by decide) c802)
              refine go_iincN_13 (DW9.at 25 rfl) ?_
              refine go_goto 764 (DW9.at 26 rfl) (by decide) ?_
              exact ih2 (c + 1) _ _ _ Z778 (Or.inr ⟨rfl, ⟨c, Nat.lt_succ_self c, hb⟩⟩) (by omega)
            · subst eb
              refine go_iload_13 (DW8.at 45 rfl) ?_
              refine go_aload_2 (DW8.at 46 rfl) ?_
              refine go_cSx1 (DW8.at 47 rfl) nL_16 vL_all (by omega) (c_all (hL.cz Z1) hY) (Nat.le_of_ble_eq_true rfl) ?_
              refine go_icmp_ge 828 (DW8.at 48 rfl) (by decide) (fun c770 => absurd c770 (by rw [nI_leI (by omega) (by omega)]; omega)) (fun c770 => ?_)
              refine go_aload_1 (DW8.at 49 rfl) ?_
              refine go_iload_11 (DW9.at 0 rfl) ?_
              refine go_iload_13 (DW9.at 1 rfl) ?_
              refine go_cVi2 (DW9.at 2 rfl) nL_71 vX5_value (by omega) (z_value Z1 (by omega)) o1 rfl (Nat.le_of_ble_eq_true rfl) (fun x778 h778 q778 => ?_)
              obtain ⟨e778, Z778⟩ := q778
              rw [eZ3, va_b hA3 (by omega) (by rw [g1, g2]; exact hc) hb] at e778
              subst e778
              refine go_istore_14 (DW9.at 3 rfl) ?_
              refine go_iload_12 (DW9.at 4 rfl) ?_
              refine go_if_eq 797 (DW9.at 5 rfl) (by decide) (fun c785 => ?_) (fun c785 => absurd (show nI 0 = 0 by decide) c785)
              refine go_iconst (v := nI 0) (DW9.at 10 rfl) (by decide) ?_
              refine go_istore_12 (DW9.at 11 rfl) ?_
              refine go_iload_14 (DW9.at 12 rfl) ?_
              refine go_if_lt 822 (DW9.at 13 rfl) (by decide) (fun c802 => ?_) (fun c802 => absurd (show (-5 : Int32) < 0 by decide) c802)
              refine go_iincN_13 (DW9.at 25 rfl) ?_
              refine go_goto 764 (DW9.at 26 rfl) (by decide) ?_
              exact ih2 (c + 1) _ _ _ Z778 (Or.inr ⟨rfl, ⟨c, Nat.lt_succ_self c, hb⟩⟩) (by omega)
          · rcases hbb with ⟨eb, hyb⟩ | ⟨eb, hyb⟩
            · subst eb
              refine go_iload_13 (DW8.at 45 rfl) ?_
              refine go_aload_2 (DW8.at 46 rfl) ?_
              refine go_cSx1 (DW8.at 47 rfl) nL_16 vL_all (by omega) (c_all (hL.cz Z1) hY) (Nat.le_of_ble_eq_true rfl) ?_
              refine go_icmp_ge 828 (DW8.at 48 rfl) (by decide) (fun c770 => absurd c770 (by rw [nI_leI (by omega) (by omega)]; omega)) (fun c770 => ?_)
              refine go_aload_1 (DW8.at 49 rfl) ?_
              refine go_iload_11 (DW9.at 0 rfl) ?_
              refine go_iload_13 (DW9.at 1 rfl) ?_
              refine go_cVi2 (DW9.at 2 rfl) nL_71 vX5_value (by omega) (z_value Z1 (by omega)) o1 rfl (Nat.le_of_ble_eq_true rfl) (fun x778 h778 q778 => ?_)
              obtain ⟨e778, Z778⟩ := q778
              rw [eZ3, va_n hA3 (by omega) (by rw [g1, g2]; exact hc) hb, hW3.2.1] at e778
              subst e778
              refine go_istore_14 (DW9.at 3 rfl) ?_
              refine go_iload_12 (DW9.at 4 rfl) ?_
              refine go_if_eq 797 (DW9.at 5 rfl) (by decide) (fun c785 => absurd c785 (by decide)) (fun c785 => ?_)
              refine go_iload_14 (DW9.at 6 rfl) ?_
              refine go_if_lt 797 (DW9.at 7 rfl) (by decide) (fun c790 => absurd c790 (nI_pos (by have := hA.2.2.1 t c; omega))) (fun c790 => ?_)
              refine go_iconst (v := nI 1) (DW9.at 8 rfl) (by decide) ?_
              refine go_goto 798 (DW9.at 9 rfl) (by decide) ?_
              refine go_istore_12 (DW9.at 11 rfl) ?_
              refine go_iload_14 (DW9.at 12 rfl) ?_
              refine go_if_lt 822 (DW9.at 13 rfl) (by decide) (fun c802 => absurd c802 (nI_pos (by have := hA.2.2.1 t c; omega))) (fun c802 => ?_)
              refine go_iload_14 (DW9.at 14 rfl) ?_
              refine go_aload_3 (DW9.at 15 rfl) ?_
              refine go_bipush (v := nI 20) (DW9.at 16 rfl) (by decide) ?_
              refine go_iload_11 (DW9.at 17 rfl) ?_
              refine go_imul (DW9.at 18 rfl) ?_
              rw [pk_mul]
              refine go_iload_13 (DW9.at 19 rfl) ?_
              refine go_iadd (DW9.at 20 rfl) ?_
              rw [nI_add]
              refine go_ialdL 1 (DW9.at 21 rfl) (hL.cz Z778) (by decide) (show 20 * t + c < 60 by omega) ?_
              rw [hR.2.2.2.2.1 t ht c hc]
              refine go_icmp_eq 822 (DW9.at 22 rfl) (by decide) (fun c817 => ?_) (fun c817 => absurd rfl c817)
              refine go_iincN_13 (DW9.at 25 rfl) ?_
              refine go_goto 764 (DW9.at 26 rfl) (by decide) ?_
              exact ih2 (c + 1) _ _ _ Z778 (Or.inl ⟨rfl, fun c' hc' => by
                rcases lt_s1 hc' with q | rfl
                · exact hyb c' q
                · exact hb⟩) (by omega)
            · subst eb
              refine go_iload_13 (DW8.at 45 rfl) ?_
              refine go_aload_2 (DW8.at 46 rfl) ?_
              refine go_cSx1 (DW8.at 47 rfl) nL_16 vL_all (by omega) (c_all (hL.cz Z1) hY) (Nat.le_of_ble_eq_true rfl) ?_
              refine go_icmp_ge 828 (DW8.at 48 rfl) (by decide) (fun c770 => absurd c770 (by rw [nI_leI (by omega) (by omega)]; omega)) (fun c770 => ?_)
              refine go_aload_1 (DW8.at 49 rfl) ?_
              refine go_iload_11 (DW9.at 0 rfl) ?_
              refine go_iload_13 (DW9.at 1 rfl) ?_
              refine go_cVi2 (DW9.at 2 rfl) nL_71 vX5_value (by omega) (z_value Z1 (by omega)) o1 rfl (Nat.le_of_ble_eq_true rfl) (fun x778 h778 q778 => ?_)
              obtain ⟨e778, Z778⟩ := q778
              rw [eZ3, va_n hA3 (by omega) (by rw [g1, g2]; exact hc) hb, hW3.2.1] at e778
              subst e778
              refine go_istore_14 (DW9.at 3 rfl) ?_
              refine go_iload_12 (DW9.at 4 rfl) ?_
              refine go_if_eq 797 (DW9.at 5 rfl) (by decide) (fun c785 => ?_) (fun c785 => absurd (show nI 0 = 0 by decide) c785)
              refine go_iconst (v := nI 0) (DW9.at 10 rfl) (by decide) ?_
              refine go_istore_12 (DW9.at 11 rfl) ?_
              refine go_iload_14 (DW9.at 12 rfl) ?_
              refine go_if_lt 822 (DW9.at 13 rfl) (by decide) (fun c802 => absurd c802 (nI_pos (by have := hA.2.2.1 t c; omega))) (fun c802 => ?_)
              refine go_iload_14 (DW9.at 14 rfl) ?_
              refine go_aload_3 (DW9.at 15 rfl) ?_
              refine go_bipush (v := nI 20) (DW9.at 16 rfl) (by decide) ?_
              refine go_iload_11 (DW9.at 17 rfl) ?_
              refine go_imul (DW9.at 18 rfl) ?_
              rw [pk_mul]
              refine go_iload_13 (DW9.at 19 rfl) ?_
              refine go_iadd (DW9.at 20 rfl) ?_
              rw [nI_add]
              refine go_ialdL 1 (DW9.at 21 rfl) (hL.cz Z778) (by decide) (show 20 * t + c < 60 by omega) ?_
              rw [hR.2.2.2.2.1 t ht c hc]
              refine go_icmp_eq 822 (DW9.at 22 rfl) (by decide) (fun c817 => ?_) (fun c817 => absurd rfl c817)
              refine go_iincN_13 (DW9.at 25 rfl) ?_
              refine go_goto 764 (DW9.at 26 rfl) (by decide) ?_
              exact ih2 (c + 1) _ _ _ Z778 (Or.inr ⟨rfl, (by
                obtain ⟨c', h1', h2'⟩ := hyb
                exact ⟨c', by omega, h2'⟩)⟩) (by omega)
      refine go_iload_11 (DW8.at 36 rfl) ?_
      refine go_aload_2 (DW8.at 37 rfl) ?_
      refine go_iconst (v := nI 2) (DW8.at 38 rfl) (by decide) ?_
      refine go_ialdL 0 (DW8.at 39 rfl) (hL.cz Z1) (by decide) (show 2 < 9 by decide) ?_
      rw [hY.2.2.2.2.1]
      refine go_icmp_ge 857 (DW8.at 40 rfl) (by decide) (fun c755 => absurd c755 (by rw [nI_leI (by omega) (by omega)]; omega)) (fun c755 => ?_)
      refine go_iconst (v := nI 1) (DW8.at 41 rfl) (by decide) ?_
      refine go_istore_12 (DW8.at 42 rfl) ?_
      refine go_iconst (v := nI 0) (DW8.at 43 rfl) (by decide) ?_
      refine go_istore_13 (DW8.at 44 rfl) ?_
      exact li (nc (aG A) (aS A)) 0 _ _ h1 Z1 (Or.inl ⟨rfl, fun c' hc' => absurd hc' (Nat.not_lt_zero c')⟩) (Nat.zero_add _)
  refine go_iconst (v := nI 0) (DW8.at 34 rfl) (by decide) ?_
  refine go_istore_11 (DW8.at 35 rfl) ?_
  exact lc (aT A) 0 h3 _ _ _ _ _ hZ3 (Nat.zero_add _)
theorem l_698 {S : Nat} {h2 : List va_E} {u11 u12 u13 u14 u15 u16 : Option Value} (hd : 10 ≤ d) (hΨ : ∀ h, Ψ (some (.int 1)) h) (hK : Cw A) (hL : LA h ρ) (hR : LR A ρ) (hZ : CZ (fun j => h[j]?) Z h2 0) (eA : zA Z = A) (hS8 : S < 8) (hS : ∀ t, t < aT A → (bit S t ↔ IndP (colv (aG A) (aS A)) (aM A t) (nc (aG A) (aS A)))) : Go E mL_law d 0 0 698 [some (.ref (BIGN + 2)), some (.ref 0), some (.ref 52), some (.ref 53), some (.ref 54), some (.ref 55), some (.ref 56), some (.ref 57), some (.ref 58), some (.int fi), some (.int (nI S)), u11, u12, u13, u14, u15, u16] [] h2 Ψ := by
  have hA := hR.1
  have loop : ∀ (m r : Nat) (W : Zt) (h1 : List va_E) (u12 u13 u14 u15 u16 : Option Value), CZ (fun j => h[j]?) W h1 0 → zA W = (wkG (50 * r) A).2 → r + m = 3 → Go E mL_law d 0 0 701 [some (.ref (BIGN + 2)), some (.ref 0), some (.ref 52), some (.ref 53), some (.ref 54), some (.ref 55), some (.ref 56), some (.ref 57), some (.ref 58), some (.int fi), some (.int (nI S)), some (.int (nI r)), u12, u13, u14, u15, u16] [] h1 Ψ := by
    intro m
    induction m with
    | zero =>
      intro r W h1 u12 u13 u14 u15 u16 Z1 eW1 hm
      have er : r = 3 := by omega
      subst er
      refine go_iload_11 (DW8.at 11 rfl) ?_
      refine go_iconst (v := nI 3) (DW8.at 12 rfl) (by decide) ?_
      refine go_icmp_ge 747 (DW8.at 13 rfl) (by decide) (fun c704 => ?_) (fun c704 => absurd (Int32.le_refl _) c704)
      exact l_747 hd hΨ hK hL hR Z1 eW1 hS8 hS
    | succ m ih =>
      intro r W h1 u12 u13 u14 u15 u16 Z1 eW1 hm
      obtain ⟨n1, k1, o1⟩ := Z1.obj
      have hWl : (aQ (zA W)).length ≤ 160 := Z1.aok.q160
      by_cases hQ : aQ (zA W) = []
      · refine go_iload_11 (DW8.at 11 rfl) ?_
        refine go_iconst (v := nI 3) (DW8.at 12 rfl) (by decide) ?_
        refine go_icmp_ge 747 (DW8.at 13 rfl) (by decide) (fun c704 => absurd c704 (by rw [nI_leI (by decide) (by omega)]; omega)) (fun c704 => ?_)
        refine go_aload_1 (DW8.at 14 rfl) ?_
        refine go_iconst (v := nI 5) (DW8.at 15 rfl) (by decide) ?_
        refine go_cVi1 (DW8.at 16 rfl) nL_63 vX5_total (by omega) (z_total Z1 (by omega)) o1 rfl (Nat.le_of_ble_eq_true rfl) (fun x709 h709 q709 => ?_)
        obtain ⟨e709, Z709⟩ := q709
        rw [tot_in (by omega), show totZ W 5 = nI (aQ (zA W)).length from rfl] at e709
        subst e709
        obtain ⟨n709, k709, o709⟩ := Z709.obj
        refine go_if_ne 719 (DW8.at 17 rfl) (by decide) (fun c712 => absurd (by rw [hQ]; decide) c712) (fun c712 => ?_)
        refine go_iconst (v := nI 1) (DW8.at 18 rfl) (by decide) ?_
        refine go_goto 720 (DW8.at 19 rfl) (by decide) ?_
        refine go_aload_1 (DW8.at 21 rfl) ?_
        refine go_bipush (v := nI 50) (DW8.at 22 rfl) (by decide) ?_
        refine go_cVi1 (DW8.at 23 rfl) nL_110 vX5_work (by omega) (z_work Z709 (by omega)) o709 rfl (Nat.le_of_ble_eq_true rfl) (fun x723 h723 q723 => ?_)
        obtain ⟨e723, Z723⟩ := q723
        rw [chZ_1, wk50_e hQ] at e723
        subst e723
        have eW : zA (chZ W (wkF (zA W) (nI 50))).2 = (wkG (50 * (r + 1)) A).2 := by
          rw [chZ_A, wk50_e hQ, stp_n (by decide), eW1, show 50 * (r + 1) = 50 * r + 50 by omega, ← wkG_add, ← eW1, wkG_e hQ]
        refine go_bipush (v := (-5)) (DW8.at 24 rfl) (by decide) ?_
        refine go_icmp_ne 735 (DW8.at 25 rfl) (by decide) (fun c728 => absurd rfl c728) (fun c728 => ?_)
        refine go_iconst (v := nI 1) (DW8.at 26 rfl) (by decide) ?_
        refine go_goto 736 (DW8.at 27 rfl) (by decide) ?_
        refine go_icmp_eq 741 (DW8.at 29 rfl) (by decide) (fun c736 => ?_) (fun c736 => absurd rfl c736)
        refine go_iincN_11 (DW8.at 32 rfl) ?_
        refine go_goto 701 (DW8.at 33 rfl) (by decide) ?_
        exact ih (r + 1) _ _ _ _ _ _ _ Z723 eW (by omega)
      · refine go_iload_11 (DW8.at 11 rfl) ?_
        refine go_iconst (v := nI 3) (DW8.at 12 rfl) (by decide) ?_
        refine go_icmp_ge 747 (DW8.at 13 rfl) (by decide) (fun c704 => absurd c704 (by rw [nI_leI (by decide) (by omega)]; omega)) (fun c704 => ?_)
        refine go_aload_1 (DW8.at 14 rfl) ?_
        refine go_iconst (v := nI 5) (DW8.at 15 rfl) (by decide) ?_
        refine go_cVi1 (DW8.at 16 rfl) nL_63 vX5_total (by omega) (z_total Z1 (by omega)) o1 rfl (Nat.le_of_ble_eq_true rfl) (fun x709 h709 q709 => ?_)
        obtain ⟨e709, Z709⟩ := q709
        rw [tot_in (by omega), show totZ W 5 = nI (aQ (zA W)).length from rfl] at e709
        subst e709
        obtain ⟨n709, k709, o709⟩ := Z709.obj
        refine go_if_ne 719 (DW8.at 17 rfl) (by decide) (fun c712 => ?_) (fun c712 => absurd ((nI_eq0 (by have := hWl; omega)).mp c712) (fun e => hQ (List.length_eq_zero_iff.mp e)))
        refine go_iconst (v := nI 0) (DW8.at 20 rfl) (by decide) ?_
        refine go_aload_1 (DW8.at 21 rfl) ?_
        refine go_bipush (v := nI 50) (DW8.at 22 rfl) (by decide) ?_
        refine go_cVi1 (DW8.at 23 rfl) nL_110 vX5_work (by omega) (z_work Z709 (by omega)) o709 rfl (Nat.le_of_ble_eq_true rfl) (fun x723 h723 q723 => ?_)
        obtain ⟨e723, Z723⟩ := q723
        rw [chZ_1, wk50 hQ] at e723
        subst e723
        have eW : zA (chZ W (wkF (zA W) (nI 50))).2 = (wkG (50 * (r + 1)) A).2 := by
          rw [chZ_A, wk50 hQ, stp_y (nI_pos (by have := wkG_le 50 (zA W); omega)), eW1, wkG_add, show 50 * (r + 1) = 50 * r + 50 by omega]
        refine go_bipush (v := (-5)) (DW8.at 24 rfl) (by decide) ?_
        refine go_icmp_ne 735 (DW8.at 25 rfl) (by decide) (fun c728 => ?_) (fun c728 => absurd (show nI (wkG 50 (zA W)).1 < 0 by rw [show nI (wkG 50 (zA W)).1 = -5 from c728]; decide) (nI_pos (by have := wkG_le 50 (zA W); omega)))
        refine go_iconst (v := nI 0) (DW8.at 28 rfl) (by decide) ?_
        refine go_icmp_eq 741 (DW8.at 29 rfl) (by decide) (fun c736 => ?_) (fun c736 => absurd rfl c736)
        refine go_iincN_11 (DW8.at 32 rfl) ?_
        refine go_goto 701 (DW8.at 33 rfl) (by decide) ?_
        exact ih (r + 1) _ _ _ _ _ _ _ Z723 eW (by omega)
  refine go_iconst (v := nI 0) (DW8.at 9 rfl) (by decide) ?_
  refine go_istore_11 (DW8.at 10 rfl) ?_
  exact loop 3 0 Z h2 _ _ _ _ _ hZ (show zA Z = (wkG 0 A).2 from eA) (by decide)
theorem l_652 {u10 u11 u12 u13 u14 u15 u16 : Option Value} (hd : 10 ≤ d) (hΨ : ∀ h, Ψ (some (.int 1)) h) (hK : Cw A) (hL : LA h ρ) (hR : LR A ρ) (hZ : CZ (fun j => h[j]?) Z h 0) (eA : zA Z = A) : Go E mL_law d 0 0 652 [some (.ref (BIGN + 2)), some (.ref 0), some (.ref 52), some (.ref 53), some (.ref 54), some (.ref 55), some (.ref 56), some (.ref 57), some (.ref 58), some (.int fi), u10, u11, u12, u13, u14, u15, u16] [] h Ψ := by
  have hA := hR.1
  have hY := hR.2.1
  have hLO := hY.1
  have hT3 : aT A ≤ 3 := hY.2.1
  have hn := hLO.nc
  have hg4 : aG A ≤ 4 := hLO.2.1
  have hg1 : 1 ≤ aG A := hLO.1
  have hs6 : aS A ≤ 6 := hLO.2.2.2.1
  have hs2 : 2 ≤ aS A := hLO.2.2.1
  have hgs : aG A * aS A ≤ 15 := hLO.2.2.2.2.1
  have hH5 : aH A ≤ 5 := hLO.2.2.2.2.2.2.2
  have hT1 : 1 ≤ aT A := hLO.2.2.2.2.2.1
  have en : nc (aG A) (aS A) = aG A * aS A + aG A + 2 := rfl
  have loop : ∀ (m j S : Nat) (h1 : List va_E) (u12 u13 u14 u15 u16 : Option Value), CZ (fun j => h[j]?) Z h1 0 → S < 2 ^ j → (∀ t, t < j → (bit S t ↔ IndP (colv (aG A) (aS A)) (aM A t) (nc (aG A) (aS A)))) → j + m = aT A → Go E mL_law d 0 0 658 [some (.ref (BIGN + 2)), some (.ref 0), some (.ref 52), some (.ref 53), some (.ref 54), some (.ref 55), some (.ref 56), some (.ref 57), some (.ref 58), some (.int fi), some (.int (nI S)), some (.int (nI j)), u12, u13, u14, u15, u16] [] h1 Ψ := by
    intro m
    induction m with
    | zero =>
      intro j S h1 u12 u13 u14 u15 u16 Z1 hS2 hS hm
      have ej : j = aT A := by omega
      subst ej
      refine go_iload_11 (DW7.at 37 rfl) ?_
      refine go_aload_2 (DW7.at 38 rfl) ?_
      refine go_iconst (v := nI 2) (DW7.at 39 rfl) (by decide) ?_
      refine go_ialdL 0 (DW7.at 40 rfl) (hL.cz Z1) (by decide) (show 2 < 9 by decide) ?_
      rw [hY.2.2.2.2.1]
      refine go_icmp_ge 698 (DW7.at 41 rfl) (by decide) (fun c663 => ?_) (fun c663 => absurd (Int32.le_refl _) c663)
      exact l_698 hd hΨ hK hL hR Z1 eA (Nat.lt_of_lt_of_le hS2 (Nat.pow_le_pow_right (by decide) hT3)) hS
    | succ m ih =>
      intro j S h1 u12 u13 u14 u15 u16 Z1 hS2 hS hm
      have ht : j < aT A := by omega
      obtain ⟨n1, k1, o1⟩ := Z1.obj
      by_cases hI : IndP (colv (aG A) (aS A)) (aM A j) (nc (aG A) (aS A))
      · refine go_iload_11 (DW7.at 37 rfl) ?_
        refine go_aload_2 (DW7.at 38 rfl) ?_
        refine go_iconst (v := nI 2) (DW7.at 39 rfl) (by decide) ?_
        refine go_ialdL 0 (DW7.at 40 rfl) (hL.cz Z1) (by decide) (show 2 < 9 by decide) ?_
        rw [hY.2.2.2.2.1]
        refine go_icmp_ge 698 (DW7.at 41 rfl) (by decide) (fun c663 => absurd c663 (by rw [nI_leI (by omega) (by omega)]; omega)) (fun c663 => ?_)
        refine go_iload_10 (DW7.at 42 rfl) ?_
        refine go_aload_1 (DW7.at 43 rfl) ?_
        refine go_aload_4 (DW7.at 44 rfl) ?_
        refine go_iload_11 (DW7.at 45 rfl) ?_
        refine go_ialdL 2 (DW7.at 46 rfl) (hL.cz Z1) (by decide) (show j < 3 by omega) ?_
        rw [hR.2.2.2.2.2.1 j ht]
        refine go_cVi1 (DW7.at 47 rfl) nL_164 vX5_survives (by omega) (z_survives Z1 (by omega)) o1 rfl (Nat.le_of_ble_eq_true rfl) (fun x674 h674 q674 => ?_)
        obtain ⟨e674, Z674⟩ := q674
        rw [eA, sv_in hA ht, bP_t hI] at e674
        subst e674
        refine go_iconst (v := nI 1) (DW7.at 48 rfl) (by decide) ?_
        refine go_icmp_ne 688 (DW7.at 49 rfl) (by decide) (fun c678 => absurd rfl c678) (fun c678 => ?_)
        refine go_iconst (v := nI 1) (DW8.at 0 rfl) (by decide) ?_
        refine go_iload_11 (DW8.at 1 rfl) ?_
        refine go_ishl (DW8.at 2 rfl) ?_
        rw [nx_shlW _ (by omega), Nat.one_mul]
        refine go_goto 689 (DW8.at 3 rfl) (by decide) ?_
        refine go_ior (DW8.at 5 rfl) ?_
        rw [nx_or]
        refine go_istore_10 (DW8.at 6 rfl) ?_
        refine go_iincN_11 (DW8.at 7 rfl) ?_
        refine go_goto 658 (DW8.at 8 rfl) (by decide) ?_
        exact ih (j + 1) (S ||| 2 ^ j) _ _ _ _ _ _ Z674 (or_lt hS2 (Nat.le_refl j)) (fun t ht2 => by
          rw [bit_or]
          rcases lt_s1 ht2 with q | rfl
          · rw [← hS t q]
            exact ⟨fun w => w.elim id (fun e => by omega), Or.inl⟩
          · exact ⟨fun _ => hI, fun _ => Or.inr rfl⟩) (by omega)
      · refine go_iload_11 (DW7.at 37 rfl) ?_
        refine go_aload_2 (DW7.at 38 rfl) ?_
        refine go_iconst (v := nI 2) (DW7.at 39 rfl) (by decide) ?_
        refine go_ialdL 0 (DW7.at 40 rfl) (hL.cz Z1) (by decide) (show 2 < 9 by decide) ?_
        rw [hY.2.2.2.2.1]
        refine go_icmp_ge 698 (DW7.at 41 rfl) (by decide) (fun c663 => absurd c663 (by rw [nI_leI (by omega) (by omega)]; omega)) (fun c663 => ?_)
        refine go_iload_10 (DW7.at 42 rfl) ?_
        refine go_aload_1 (DW7.at 43 rfl) ?_
        refine go_aload_4 (DW7.at 44 rfl) ?_
        refine go_iload_11 (DW7.at 45 rfl) ?_
        refine go_ialdL 2 (DW7.at 46 rfl) (hL.cz Z1) (by decide) (show j < 3 by omega) ?_
        rw [hR.2.2.2.2.2.1 j ht]
        refine go_cVi1 (DW7.at 47 rfl) nL_164 vX5_survives (by omega) (z_survives Z1 (by omega)) o1 rfl (Nat.le_of_ble_eq_true rfl) (fun x674 h674 q674 => ?_)
        obtain ⟨e674, Z674⟩ := q674
        rw [eA, sv_in hA ht, bP_f hI] at e674
        subst e674
        refine go_iconst (v := nI 1) (DW7.at 48 rfl) (by decide) ?_
        refine go_icmp_ne 688 (DW7.at 49 rfl) (by decide) (fun c678 => ?_) (fun c678 => absurd c678 (by decide))
        refine go_iconst (v := nI 0) (DW8.at 4 rfl) (by decide) ?_
        refine go_ior (DW8.at 5 rfl) ?_
        rw [nx_or, Nat.or_zero]
        refine go_istore_10 (DW8.at 6 rfl) ?_
        refine go_iincN_11 (DW8.at 7 rfl) ?_
        refine go_goto 658 (DW8.at 8 rfl) (by decide) ?_
        exact ih (j + 1) (S) _ _ _ _ _ _ Z674 (Nat.lt_trans hS2 (Nat.pow_lt_pow_right (by decide) (Nat.lt_succ_self j))) (fun t ht2 => by
          rcases lt_s1 ht2 with q | rfl
          · exact hS t q
          · exact ⟨fun w => absurd (bit_lt hS2 w) (Nat.lt_irrefl _), fun w => absurd w hI⟩) (by omega)
  refine go_iconst (v := nI 0) (DW7.at 33 rfl) (by decide) ?_
  refine go_istore_10 (DW7.at 34 rfl) ?_
  refine go_iconst (v := nI 0) (DW7.at 35 rfl) (by decide) ?_
  refine go_istore_11 (DW7.at 36 rfl) ?_
  exact loop (aT A) 0 0 h _ _ _ _ _ hZ (by decide) (fun t ht => absurd ht (Nat.not_lt_zero t)) (Nat.zero_add _)
end LW
