/-! THE MODEL: how a lost cell is told -/
theorem MX.row10 {G : Nat → Option va_E} {h h' : List va_E} {b : Nat} {i : Nat → Int32} {ρ : Nat → Nat → Int32} {A : Ab} {f : Nat → Int32} (hX : MX G h b i ρ A) (q : MdAt G h' b i (rset ρ 10 f)) : MX G h' b i (rset ρ 10 f) A := ⟨q, hX.2.1, hX.2.2⟩
/-- l is a sum that tells y of the set M -/
def Tel (g s M : Nat) (y : Int32) (l : Nat → Nat) : Prop := ∀ c, c < nc g s → bit M c → ev l (colv g s c) = tv y c
section M6
variable {E : AEnv} {d : Nat} {h h' : List va_E} {b : Nat} {i : Nat → Int32} {ρ : Nat → Nat → Int32} {A : Ab} {G : Nat → Option va_E}
theorem m_isSum {M α β : Nat} {y : Int32} (hM : M < 2 ^ (nc (aG A) (aS A))) (ha : α < 16) (hb : β < 16) (hX : MX G h b i ρ A) (hd : 3 ≤ d) : Calls E mX6_isSum d 0 0 [.ref b, .int (nI M), .int y, .int (nI α), .int (nI β)] h (RI (fun r h' => ∃ f, MdAt G h' b i (rset ρ 10 f) ∧ ((r = nI 1 ∧ ∃ F, LfR (rset ρ 10 f) (aG A) F ∧ Tel (aG A) (aS A) M y (lfn (aG A) F α β)) ∨ (r = nI 0 ∧ ∀ l, B6 l → l (aG A) = α → l (aG A + 1) = β → ¬ Tel (aG A) (aS A) M y l)))) := by
  refine Calls.of (ls := [some (.ref b), some (.int (nI M)), some (.int y), some (.int (nI α)), some (.int (nI β)), none, none, none, none, none]) (by decide +kernel) rfl (Nat.le_of_ble_eq_true rfl) (cat_ok rfl) ?_
  have hM0 := hX.1
  have hTb := hX.2.1
  have hR := hX.2.2
  have hA := hR.1
  have hn := hA.1.nc
  have hT8 : aT A ≤ 8 := hA.1.2.2.2.2.2.2.1
  have hg4 : aG A ≤ 4 := hA.1.2.1
  have hs6 : aS A ≤ 6 := hA.1.2.2.2.1
  have hs2 : 2 ≤ aS A := hA.1.2.2.1
  have hg1 : 1 ≤ aG A := hA.1.1
  have hgs : aG A * aS A ≤ 15 := hA.1.2.2.2.2.1
  have hH5 : aH A ≤ 5 := hA.1.2.2.2.2.2.2.2
  have en : nc (aG A) (aS A) = aG A * aS A + aG A + 2 := rfl
  have hp20 := p20 hn.2
  have hrid : rset ρ 10 (ρ 10) = ρ := by
    funext a
    unfold rset
    split
    · rename_i e; rw [e]
    · rfl
  have loop2 : ∀ (m j : Nat) (h : List va_E) (f : Nat → Int32) (U : Nat → Option Nat) (x7 x8 x9 : Option Value), j + m = nc (aG A) (aS A) → MdAt G h b i (rset ρ 10 f) → SI (aG A) (aS A) M α β y j f U → Go E mX6_isSum d 0 0 39 [some (.ref b), some (.int (nI M)), some (.int (y)), some (.int (nI α)), some (.int (nI β)), some (.int (nI (aG A * aS A + aG A))), some (.int (nI j)), x7, x8, x9] [] h (RI (fun r h' => ∃ f, MdAt G h' b i (rset ρ 10 f) ∧ ((r = nI 1 ∧ ∃ F, LfR (rset ρ 10 f) (aG A) F ∧ Tel (aG A) (aS A) M y (lfn (aG A) F α β)) ∨ (r = nI 0 ∧ ∀ l, B6 l → l (aG A) = α → l (aG A + 1) = β → ¬ Tel (aG A) (aS A) M y l)))) := by
    intro m
    induction m with
    | zero =>
      intro j h f U x7 x8 x9 hj q hI
      obtain rfl : j = nc (aG A) (aS A) := by omega
      have hend : ∀ c, c < nc (aG A) (aS A) → bit M c → c < nc (aG A) (aS A) := fun c hc _ => hc
      refine go_iload_1 (DX6_isSum.at 22 rfl) ?_
      refine go_iload_6 (DX6_isSum.at 23 rfl) ?_
      refine go_ishr (DX6_isSum.at 24 rfl) ?_
      rw [nx_shr (by omega) (by omega), Nat.div_eq_of_lt hM]
      refine go_if_eq 171 (DX6_isSum.at 25 rfl) (by decide) (fun c43 => ?_) (fun c43 => absurd rfl c43)
      refine go_iconst (v := nI 1) (DX6_isSum.at 91 rfl) (by decide) ?_
      exact go_iret (DX6_isSum.at 92 rfl) rfl rfl (RI.mk ⟨f, q, Or.inl ⟨rfl, fun k => (U k).getD 0, (hI.done hg4 ha hb hend).1, (hI.done hg4 ha hb hend).2⟩⟩)
    | succ m ih =>
      intro j h f U x7 x8 x9 hj q hI
      refine go_iload_1 (DX6_isSum.at 22 rfl) ?_
      refine go_iload_6 (DX6_isSum.at 23 rfl) ?_
      refine go_ishr (DX6_isSum.at 24 rfl) ?_
      rw [nx_shr (by omega) (by omega)]
      refine go_if_eq 171 (DX6_isSum.at 25 rfl) (by decide) (fun c43 => ?_) (fun c43 => ?_)
      rw [nI_eq0 (Nat.lt_of_le_of_lt (Nat.div_le_self _ _) (by omega))] at c43
      have hend : ∀ c, c < nc (aG A) (aS A) → bit M c → c < j := fun c _ hbc => Classical.byContradiction (fun q => by
        have h1 : M < 2 ^ j := by
          rw [Nat.div_eq_zero_iff] at c43
          exact c43.resolve_left (fun e => absurd e (Nat.ne_of_gt (Nat.two_pow_pos j)))
        exact q (bit_big h1 hbc))
      refine go_iconst (v := nI 1) (DX6_isSum.at 91 rfl) (by decide) ?_
      exact go_iret (DX6_isSum.at 92 rfl) rfl rfl (RI.mk ⟨f, q, Or.inl ⟨rfl, fun k => (U k).getD 0, (hI.done hg4 ha hb hend).1, (hI.done hg4 ha hb hend).2⟩⟩)
      · rw [nI_eq0 (Nat.lt_of_le_of_lt (Nat.div_le_self _ _) (by omega))] at c43
        refine go_iload_1 (DX6_isSum.at 26 rfl) ?_
        refine go_iload_6 (DX6_isSum.at 27 rfl) ?_
        refine go_ishr (DX6_isSum.at 28 rfl) ?_
        refine go_iconst (v := nI 1) (DX6_isSum.at 29 rfl) (by decide) ?_
        refine go_iand (DX6_isSum.at 30 rfl) ?_
        refine go_iconst (v := nI 1) (DX6_isSum.at 31 rfl) (by decide) ?_
        refine go_icmp_ne 165 (DX6_isSum.at 32 rfl) (by decide) (fun c53 => ?_) (fun c53 => ?_)
        · rw [nx_bit (by omega) (by omega), nI_eq (by omega) (by decide)] at c53
          refine go_iincN_6 (DX6_isSum.at 89 rfl) ?_
          refine go_goto 39 (DX6_isSum.at 90 rfl) (by decide) ?_
          exact ih (j + 1) h f U _ _ _ (by omega) q (hI.skip c53)
        · rw [nx_bit (by omega) (by omega), nI_eq (by omega) (by decide)] at c53
          have htv := tv_lt y j
          have key : Go E mX6_isSum d 0 0 67 [some (.ref b), some (.int (nI M)), some (.int (y)), some (.int (nI α)), some (.int (nI β)), some (.int (nI (aG A * aS A + aG A))), some (.int (nI j)), x7, x8, x9] [.int (nI (tv y j))] h (RI (fun r h' => ∃ f, MdAt G h' b i (rset ρ 10 f) ∧ ((r = nI 1 ∧ ∃ F, LfR (rset ρ 10 f) (aG A) F ∧ Tel (aG A) (aS A) M y (lfn (aG A) F α β)) ∨ (r = nI 0 ∧ ∀ l, B6 l → l (aG A) = α → l (aG A + 1) = β → ¬ Tel (aG A) (aS A) M y l)))) := by
            refine go_istore_7 (DX6_isSum.at 39 rfl) ?_
            refine go_aload_0 (DX6_isSum.at 40 rfl) ?_
            refine go_iload_6 (DX6_isSum.at 41 rfl) ?_
            refine go_cVx1 (DX6_isSum.at 42 rfl) nX6_91 vX6_groupOf (by omega) (m_groupOf (show j < nc (aG A) (aS A) by omega) (hX.row10 q) (by omega)) q.1 rfl (Nat.le_of_ble_eq_true rfl) ?_
            refine go_istore_8 (DX6_isSum.at 43 rfl) ?_
            refine go_iload_8 (DX6_isSum.at 44 rfl) ?_
            refine go_bipush (v := (-5)) (DX6_isSum.at 45 rfl) (by decide) ?_
            by_cases hh : hcv (aG A) (aS A) j < aG A
            · rw [show grI (aG A) (aS A) j = nI (hcv (aG A) (aS A) j) from if_pos hh]
              have hv16 : tv y j ^^^ gpf (aG A) (aS A) α β j < 16 := xor_lt (tv_lt y j) (gpf_lt ha hb)
              have hfk := hI.1 (hcv (aG A) (aS A) j) (by omega)
              have k149 : (U (hcv (aG A) (aS A) j) = none ∨ U (hcv (aG A) (aS A) j) = some (tv y j ^^^ gpf (aG A) (aS A) α β j)) → Go E mX6_isSum d 0 0 149 [some (.ref b), some (.int (nI M)), some (.int (y)), some (.int (nI α)), some (.int (nI β)), some (.int (nI (aG A * aS A + aG A))), some (.int (nI j)), some (.int (nI (tv y j))), some (.int (nI (hcv (aG A) (aS A) j))), some (.int (nI (tv y j ^^^ gpf (aG A) (aS A) α β j)))] [] h (RI (fun r h' => ∃ f, MdAt G h' b i (rset ρ 10 f) ∧ ((r = nI 1 ∧ ∃ F, LfR (rset ρ 10 f) (aG A) F ∧ Tel (aG A) (aS A) M y (lfn (aG A) F α β)) ∨ (r = nI 0 ∧ ∀ l, B6 l → l (aG A) = α → l (aG A + 1) = β → ¬ Tel (aG A) (aS A) M y l)))) := by
                intro hU
                refine go_iload_8 (DX6_isSum.at 81 rfl) ?_
                refine go_bipush (v := (-5)) (DX6_isSum.at 82 rfl) (by decide) ?_
                refine go_icmp_eq 165 (DX6_isSum.at 83 rfl) (by decide) (fun c153 => absurd c153 (nI_m5 (by omega))) (fun c153 => ?_)
                refine go_aload_0 (DX6_isSum.at 84 rfl) ?_
                refine go_getfield (DX6_isSum.at 85 rfl) fX6_37 q.1 rfl ?_
                refine go_iload_8 (DX6_isSum.at 86 rfl) ?_
                refine go_iload_9 (DX6_isSum.at 87 rfl) ?_
                refine go_iastM (DX6_isSum.at 88 rfl) q (a := 10) (by decide) (show hcv (aG A) (aS A) j < 4 by omega) (fun h16 q16 => ?_)
                rw [rset_rset, rset_s] at q16
                refine go_iincN_6 (DX6_isSum.at 89 rfl) ?_
                refine go_goto 39 (DX6_isSum.at 90 rfl) (by decide) ?_
                exact ih (j + 1) _ _ _ _ _ _ (by omega) q16 (hI.loc hg4 (by omega) c53 hh hU)
              refine go_icmp_ne 104 (DX6_isSum.at 46 rfl) (by decide) (fun c81 => ?_) (fun c81 => absurd c81 (nI_m5 (by omega)))
              refine go_iload_7 (DX6_isSum.at 57 rfl) ?_
              refine go_aload_0 (DX6_isSum.at 58 rfl) ?_
              refine go_iload_6 (DX6_isSum.at 59 rfl) ?_
              refine go_iload_3 (DX6_isSum.at 60 rfl) ?_
              refine go_iload_4 (DX6_isSum.at 61 rfl) ?_
              refine go_cVx3 (DX6_isSum.at 62 rfl) nX6_94 vX6_globalPart (by omega) (m_globalPart (show j < nc (aG A) (aS A) by omega) ha hb (hX.row10 q) (by omega)) q.1 rfl (Nat.le_of_ble_eq_true rfl) ?_
              refine go_ixor (DX6_isSum.at 63 rfl) ?_
              rw [nx_xor]
              rw [show tv y j ^^^ (if j < aG A * aS A then gm α (pw j) ^^^ gm β (pw (2 * j)) else 0) = tv y j ^^^ gpf (aG A) (aS A) α β j from rfl]
              refine go_istore_9 (DX6_isSum.at 64 rfl) ?_
              refine go_iload_8 (DX6_isSum.at 65 rfl) ?_
              refine go_bipush (v := (-5)) (DX6_isSum.at 66 rfl) (by decide) ?_
              refine go_icmp_eq 149 (DX6_isSum.at 67 rfl) (by decide) (fun c122 => absurd c122 (nI_m5 (by omega))) (fun c122 => ?_)
              cases hu : U (hcv (aG A) (aS A) j) with
              | none =>
                rw [hu] at hfk
                refine go_aload_0 (DX6_isSum.at 68 rfl) ?_
                refine go_getfield (DX6_isSum.at 69 rfl) fX6_37 q.1 rfl ?_
                refine go_iload_8 (DX6_isSum.at 70 rfl) ?_
                refine go_ialdM (DX6_isSum.at 71 rfl) (q.2.1 10 (by decide)) (show hcv (aG A) (aS A) j < 4 by omega) (by decide) ?_
                rw [rset_s, hfk]
                refine go_if_lt 149 (DX6_isSum.at 72 rfl) (by decide) (fun c132 => ?_) (fun c132 => absurd (by decide) c132)
                exact k149 (Or.inl hu)
              | some u =>
                rw [hu] at hfk
                have hu16 := hI.v16 ha hb hu
                refine go_aload_0 (DX6_isSum.at 68 rfl) ?_
                refine go_getfield (DX6_isSum.at 69 rfl) fX6_37 q.1 rfl ?_
                refine go_iload_8 (DX6_isSum.at 70 rfl) ?_
                refine go_ialdM (DX6_isSum.at 71 rfl) (q.2.1 10 (by decide)) (show hcv (aG A) (aS A) j < 4 by omega) (by decide) ?_
                rw [rset_s, hfk]
                refine go_if_lt 149 (DX6_isSum.at 72 rfl) (by decide) (fun c132 => absurd c132 (nI_pos (by omega))) (fun c132 => ?_)
                refine go_aload_0 (DX6_isSum.at 73 rfl) ?_
                refine go_getfield (DX6_isSum.at 74 rfl) fX6_37 q.1 rfl ?_
                refine go_iload_8 (DX6_isSum.at 75 rfl) ?_
                refine go_ialdM (DX6_isSum.at 76 rfl) (q.2.1 10 (by decide)) (show hcv (aG A) (aS A) j < 4 by omega) (by decide) ?_
                rw [rset_s, hfk]
                refine go_iload_9 (DX6_isSum.at 77 rfl) ?_
                refine go_icmp_eq 149 (DX6_isSum.at 78 rfl) (by decide) (fun c144 => ?_) (fun c144 => ?_)
                · rw [nI_eq (by omega) (by omega)] at c144
                  exact k149 (Or.inr (by rw [hu, c144]))
                · rw [nI_eq (by omega) (by omega)] at c144
                  refine go_iconst (v := nI 0) (DX6_isSum.at 79 rfl) (by decide) ?_
                  exact go_iret (DX6_isSum.at 80 rfl) rfl rfl (RI.mk ⟨f, q, Or.inr ⟨rfl, fun l hl h1 h2 => hI.bad hg4 (by omega) c53 hh hu c144 hl h1 h2⟩⟩)
            · rw [show grI (aG A) (aS A) j = -5 from if_neg hh]
              have hd : ¬ j < aG A * aS A := fun q => hh (hcv_ltg q)
              have eh : hcv (aG A) (aS A) j = j - aG A * aS A := if_neg hd
              refine go_icmp_ne 104 (DX6_isSum.at 46 rfl) (by decide) (fun c81 => absurd rfl c81) (fun c81 => ?_)
              refine go_iload_6 (DX6_isSum.at 47 rfl) ?_
              refine go_iload_5 (DX6_isSum.at 48 rfl) ?_
              refine go_icmp_ne 95 (DX6_isSum.at 49 rfl) (by decide) (fun c88 => ?_) (fun c88 => ?_)
              · rw [nI_eq (by omega) (by omega)] at c88
                have hne : ¬ hcv (aG A) (aS A) j = aG A := by omega
                refine go_iload_4 (DX6_isSum.at 52 rfl) ?_
                refine go_iload_7 (DX6_isSum.at 53 rfl) ?_
                refine go_icmp_eq 104 (DX6_isSum.at 54 rfl) (by decide) (fun c99 => ?_) (fun c99 => ?_)
                · rw [nI_eq (by omega) (by omega)] at c99
                  have hI2 := hI.glo hh (by rw [if_neg hne]; exact c99)
                  refine go_iload_7 (DX6_isSum.at 57 rfl) ?_
                  refine go_aload_0 (DX6_isSum.at 58 rfl) ?_
                  refine go_iload_6 (DX6_isSum.at 59 rfl) ?_
                  refine go_iload_3 (DX6_isSum.at 60 rfl) ?_
                  refine go_iload_4 (DX6_isSum.at 61 rfl) ?_
                  refine go_cVx3 (DX6_isSum.at 62 rfl) nX6_94 vX6_globalPart (by omega) (m_globalPart (show j < nc (aG A) (aS A) by omega) ha hb (hX.row10 q) (by omega)) q.1 rfl (Nat.le_of_ble_eq_true rfl) ?_
                  refine go_ixor (DX6_isSum.at 63 rfl) ?_
                  rw [nx_xor]
                  refine go_istore_9 (DX6_isSum.at 64 rfl) ?_
                  refine go_iload_8 (DX6_isSum.at 65 rfl) ?_
                  refine go_bipush (v := (-5)) (DX6_isSum.at 66 rfl) (by decide) ?_
                  refine go_icmp_eq 149 (DX6_isSum.at 67 rfl) (by decide) (fun c122 => ?_) (fun c122 => absurd rfl c122)
                  refine go_iload_8 (DX6_isSum.at 81 rfl) ?_
                  refine go_bipush (v := (-5)) (DX6_isSum.at 82 rfl) (by decide) ?_
                  refine go_icmp_eq 165 (DX6_isSum.at 83 rfl) (by decide) (fun c153 => ?_) (fun c153 => absurd rfl c153)
                  refine go_iincN_6 (DX6_isSum.at 89 rfl) ?_
                  refine go_goto 39 (DX6_isSum.at 90 rfl) (by decide) ?_
                  exact ih (j + 1) h f U _ _ _ (by omega) q hI2
                · rw [nI_eq (by omega) (by omega)] at c99
                  refine go_iconst (v := nI 0) (DX6_isSum.at 55 rfl) (by decide) ?_
                  exact go_iret (DX6_isSum.at 56 rfl) rfl rfl (RI.mk ⟨f, q, Or.inr ⟨rfl, fun l hl h1 h2 => glo_bad hg4 (by omega) c53 hh (by rw [if_neg hne]; exact c99) hl h1 h2⟩⟩)
              · rw [nI_eq (by omega) (by omega)] at c88
                have heq : hcv (aG A) (aS A) j = aG A := by omega
                refine go_iload_3 (DX6_isSum.at 50 rfl) ?_
                refine go_goto 97 (DX6_isSum.at 51 rfl) (by decide) ?_
                refine go_iload_7 (DX6_isSum.at 53 rfl) ?_
                refine go_icmp_eq 104 (DX6_isSum.at 54 rfl) (by decide) (fun c99 => ?_) (fun c99 => ?_)
                · rw [nI_eq (by omega) (by omega)] at c99
                  have hI2 := hI.glo hh (by rw [if_pos heq]; exact c99)
                  refine go_iload_7 (DX6_isSum.at 57 rfl) ?_
                  refine go_aload_0 (DX6_isSum.at 58 rfl) ?_
                  refine go_iload_6 (DX6_isSum.at 59 rfl) ?_
                  refine go_iload_3 (DX6_isSum.at 60 rfl) ?_
                  refine go_iload_4 (DX6_isSum.at 61 rfl) ?_
                  refine go_cVx3 (DX6_isSum.at 62 rfl) nX6_94 vX6_globalPart (by omega) (m_globalPart (show j < nc (aG A) (aS A) by omega) ha hb (hX.row10 q) (by omega)) q.1 rfl (Nat.le_of_ble_eq_true rfl) ?_
                  refine go_ixor (DX6_isSum.at 63 rfl) ?_
                  rw [nx_xor]
                  refine go_istore_9 (DX6_isSum.at 64 rfl) ?_
                  refine go_iload_8 (DX6_isSum.at 65 rfl) ?_
                  refine go_bipush (v := (-5)) (DX6_isSum.at 66 rfl) (by decide) ?_
                  refine go_icmp_eq 149 (DX6_isSum.at 67 rfl) (by decide) (fun c122 => ?_) (fun c122 => absurd rfl c122)
                  refine go_iload_8 (DX6_isSum.at 81 rfl) ?_
                  refine go_bipush (v := (-5)) (DX6_isSum.at 82 rfl) (by decide) ?_
                  refine go_icmp_eq 165 (DX6_isSum.at 83 rfl) (by decide) (fun c153 => ?_) (fun c153 => absurd rfl c153)
                  refine go_iincN_6 (DX6_isSum.at 89 rfl) ?_
                  refine go_goto 39 (DX6_isSum.at 90 rfl) (by decide) ?_
                  exact ih (j + 1) h f U _ _ _ (by omega) q hI2
                · rw [nI_eq (by omega) (by omega)] at c99
                  refine go_iconst (v := nI 0) (DX6_isSum.at 55 rfl) (by decide) ?_
                  exact go_iret (DX6_isSum.at 56 rfl) rfl rfl (RI.mk ⟨f, q, Or.inr ⟨rfl, fun l hl h1 h2 => glo_bad hg4 (by omega) c53 hh (by rw [if_pos heq]; exact c99) hl h1 h2⟩⟩)
          refine go_iload_6 (DX6_isSum.at 33 rfl) ?_
          refine go_iload_2 (DX6_isSum.at 34 rfl) ?_
          refine go_icmp_ne 66 (DX6_isSum.at 35 rfl) (by decide) (fun c59 => ?_) (fun c59 => ?_)
          · have e : tv y j = 0 := if_neg c59
            refine go_iconst (v := nI 0) (DX6_isSum.at 38 rfl) (by decide) ?_
            rw [e] at key
            exact key
          · have e : tv y j = 1 := if_pos c59
            refine go_iconst (v := nI 1) (DX6_isSum.at 36 rfl) (by decide) ?_
            refine go_goto 67 (DX6_isSum.at 37 rfl) (by decide) ?_
            rw [e] at key
            exact key
  have loop1 : ∀ (m j : Nat) (h : List va_E) (f : Nat → Int32), j + m = 4 → MdAt G h b i (rset ρ 10 f) → (∀ k, k < j → f k = -1) → Go E mX6_isSum d 0 0 3 [some (.ref b), some (.int (nI M)), some (.int (y)), some (.int (nI α)), some (.int (nI β)), some (.int (nI j)), none, none, none, none] [] h (RI (fun r h' => ∃ f, MdAt G h' b i (rset ρ 10 f) ∧ ((r = nI 1 ∧ ∃ F, LfR (rset ρ 10 f) (aG A) F ∧ Tel (aG A) (aS A) M y (lfn (aG A) F α β)) ∨ (r = nI 0 ∧ ∀ l, B6 l → l (aG A) = α → l (aG A + 1) = β → ¬ Tel (aG A) (aS A) M y l)))) := by
    intro m
    induction m with
    | zero =>
      intro j h f hj q hf
      obtain rfl : j = 4 := by omega
      refine go_iload_5 (DX6_isSum.at 2 rfl) ?_
      refine go_iconst (v := nI 4) (DX6_isSum.at 3 rfl) (by decide) ?_
      refine go_icmp_ge 23 (DX6_isSum.at 4 rfl) (by decide) (fun c6 => ?_) (fun c6 => absurd (Int32.le_refl _) c6)
      refine go_aload_0 (DX6_isSum.at 12 rfl) ?_
      refine go_cVx0 (DX6_isSum.at 13 rfl) nX6_47 vX6_dataCells (by omega) (m_dataCells (hX.row10 q)) q.1 rfl (Nat.le_of_ble_eq_true rfl) ?_
      refine go_aload_0 (DX6_isSum.at 14 rfl) ?_
      refine go_getfield (DX6_isSum.at 15 rfl) fX6_7 q.1 rfl ?_
      refine go_iconst (v := nI 0) (DX6_isSum.at 16 rfl) (by decide) ?_
      refine go_ialdM (DX6_isSum.at 17 rfl) (q.2.1 1 (by decide)) (show 0 < 349 by decide) (by decide) ?_
      rw [show rset ρ 10 f 1 0 = nI (aG A) from hR.2.1.1]
      refine go_iadd (DX6_isSum.at 18 rfl) ?_
      rw [nI_add]
      refine go_istore_5 (DX6_isSum.at 19 rfl) ?_
      refine go_iconst (v := nI 0) (DX6_isSum.at 20 rfl) (by decide) ?_
      refine go_istore_6 (DX6_isSum.at 21 rfl) ?_
      exact loop2 (nc (aG A) (aS A)) 0 h f (fun _ => none) _ _ _ (Nat.zero_add _) q (SI.start hf)
    | succ m ih =>
      intro j h f hj q hf
      refine go_iload_5 (DX6_isSum.at 2 rfl) ?_
      refine go_iconst (v := nI 4) (DX6_isSum.at 3 rfl) (by decide) ?_
      refine go_icmp_ge 23 (DX6_isSum.at 4 rfl) (by decide) (fun c6 => absurd ((nI_leI (by omega) (by omega)).mp c6) (by omega)) (fun c6 => ?_)
      refine go_aload_0 (DX6_isSum.at 5 rfl) ?_
      refine go_getfield (DX6_isSum.at 6 rfl) fX6_37 q.1 rfl ?_
      refine go_iload_5 (DX6_isSum.at 7 rfl) ?_
      refine go_iconst (v := (-1)) (DX6_isSum.at 8 rfl) (by decide) ?_
      refine go_iastM (DX6_isSum.at 9 rfl) q (a := 10) (by decide) (show j < 4 by omega) (fun h16 q16 => ?_)
      rw [rset_rset, rset_s] at q16
      refine go_iincN_5 (DX6_isSum.at 10 rfl) ?_
      refine go_goto 3 (DX6_isSum.at 11 rfl) (by decide) ?_
      exact ih (j + 1) _ _ (by omega) q16 (fun k hk => by
        by_cases e : k = j
        · rw [e, pk_us]
        · rw [pk_un e]
          exact hf k (by omega))
  refine go_iconst (v := nI 0) (DX6_isSum.at 0 rfl) (by decide) ?_
  refine go_istore_5 (DX6_isSum.at 1 rfl) ?_
  exact loop1 4 0 h (ρ 10) (Nat.zero_add _) (by rw [hrid]; exact hM0) (fun k hk => absurd hk (Nat.not_lt_zero k))

end M6
