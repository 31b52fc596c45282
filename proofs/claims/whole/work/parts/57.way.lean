/-! THE MODEL: the way in which a cell is mended -/
theorem rset_self {ρ : Nat → Nat → Int32} {a : Nat} : rset ρ a (ρ a) = ρ := by
  funext k
  unfold rset
  split
  · rename_i e; rw [e]
  · rfl
theorem pair_16 {p : Nat} (h : p < 256) : p / 16 < 16 ∧ p % 16 < 16 := by omega
theorem sgl_van {g s M k : Nat} (hg : g ≤ 4) (hs : 0 < s) (hk : k < g) (hM : M < 2 ^ nc g s) (h : M &&& gcv g s k = 0) : Van (colv g s) M (nc g s) (sgl 1 k) := by
  refine ⟨B6.sgl (by decide), fun c hc hb => ?_⟩
  have h1 := (free_iff hs hk hM).mp h c hc hb
  rw [ev_sgl (fun i _ => colv_lt i) (by omega)]
  by_cases q : c < g * s
  · rw [colv_dk q hk]
    have eh : hcv g s c = c / s := if_pos q
    rw [if_neg (by omega)]
  · have eh : hcv g s c = c - g * s := if_neg q
    rw [colv_pk q, if_neg (by omega)]
theorem bit_src_free {g s M k c : Nat} (hs : 0 < s) (hn : nc g s ≤ 20) (hk : k < g) (hM : M < 2 ^ nc g s) (h : M &&& gcv g s k = 0) (hc : bit (gcv g s k) c) : bit (Src3 (nc g s) M) c := by
  have h1 := gcv_n hk hc
  exact (src_bit (by omega)).mpr ⟨h1, fun q => (free_iff hs hk hM).mp h c h1 q ((grp_iff hs hk).mp hc)⟩
theorem src3_lt {n M : Nat} : Src3 n M < 2 ^ n := Nat.lt_of_le_of_lt Nat.and_le_left (Nat.sub_lt (Nat.two_pow_pos n) (by decide))
section M6
variable {E : AEnv} {d : Nat} {h h' : List va_E} {b : Nat} {i : Nat → Int32} {ρ : Nat → Nat → Int32} {A : Ab} {G : Nat → Option va_E}
theorem m_tellingPair {M : Nat} {y : Int32} (hM2 : M < 2 ^ (nc (aG A) (aS A))) (hX : MX G h b i ρ A) (hd : 4 ≤ d) : Calls E mX6_tellingPair d 0 0 [.ref b, .int (nI M), .int y] h (RI (fun r h' => ∃ f, MdAt G h' b i (rset ρ 10 f) ∧ ((∃ p F, p < 256 ∧ r = nI p ∧ LfR (rset ρ 10 f) (aG A) F ∧ Tel (aG A) (aS A) M y (lfn (aG A) F (p / 16) (p % 16))) ∨ (r = -5 ∧ ∀ l, B6 l → ¬ Tel (aG A) (aS A) M y l)))) := by
  refine Calls.of (ls := [some (.ref b), some (.int (nI M)), some (.int y), none]) (by decide +kernel) rfl (Nat.le_of_ble_eq_true rfl) (cat_ok rfl) ?_
  have hM := hX.1
  have hTb := hX.2.1
  have hR := hX.2.2
  have hA := hR.1
  have hn := hA.1.nc
  have hT8 : aT A ≤ 8 := hA.1.2.2.2.2.2.2.1
  have hg4 : aG A ≤ 4 := hA.1.2.1
  have hs6 : aS A ≤ 6 := hA.1.2.2.2.1
  have hs2 : 2 ≤ aS A := hA.1.2.2.1
  have hg1 : 1 ≤ aG A := hA.1.1
  have hgs : aG A * aS A ≤ 15 := hA.1.2.2.2.2.1
  have hH5 : aH A ≤ 5 := hA.1.2.2.2.2.2.2.2
  have en : nc (aG A) (aS A) = aG A * aS A + aG A + 2 := rfl
  have loop : ∀ (m j : Nat) (h : List va_E) (f : Nat → Int32), j + m = 256 → MdAt G h b i (rset ρ 10 f) → (∀ p, p < j → ∀ l, B6 l → l (aG A) = p / 16 → l (aG A + 1) = p % 16 → ¬ Tel (aG A) (aS A) M y l) → Go E mX6_tellingPair d 0 0 2 [some (.ref b), some (.int (nI M)), some (.int (y)), some (.int (nI j))] [] h (RI (fun r h' => ∃ f, MdAt G h' b i (rset ρ 10 f) ∧ ((∃ p F, p < 256 ∧ r = nI p ∧ LfR (rset ρ 10 f) (aG A) F ∧ Tel (aG A) (aS A) M y (lfn (aG A) F (p / 16) (p % 16))) ∨ (r = -5 ∧ ∀ l, B6 l → ¬ Tel (aG A) (aS A) M y l)))) := by
    intro m
    induction m with
    | zero =>
      intro j h f hj q hno
      obtain rfl : j = 256 := by omega
      refine go_iload_3 (DX6_tellingPair.at 2 rfl) ?_
      refine go_sipush (v := nI 256) (DX6_tellingPair.at 3 rfl) (by decide) ?_
      refine go_icmp_ge 34 (DX6_tellingPair.at 4 rfl) (by decide) (fun c6 => ?_) (fun c6 => absurd (Int32.le_refl _) c6)
      refine go_bipush (v := (-5)) (DX6_tellingPair.at 20 rfl) (by decide) ?_
      exact go_iret (DX6_tellingPair.at 21 rfl) rfl rfl (RI.mk ⟨f, q, Or.inr ⟨rfl, fun l hl => by
        have h1 := hl (aG A) (by omega)
        have h2 := hl (aG A + 1) (by omega)
        exact hno (16 * l (aG A) + l (aG A + 1)) (by omega) l hl (by omega) (by omega)⟩⟩)
    | succ m ih =>
      intro j h f hj q hno
      refine go_iload_3 (DX6_tellingPair.at 2 rfl) ?_
      refine go_sipush (v := nI 256) (DX6_tellingPair.at 3 rfl) (by decide) ?_
      refine go_icmp_ge 34 (DX6_tellingPair.at 4 rfl) (by decide) (fun c6 => absurd ((nI_leI (by omega) (by omega)).mp c6) (by omega)) (fun c6 => ?_)
      refine go_aload_0 (DX6_tellingPair.at 5 rfl) ?_
      refine go_iload_1 (DX6_tellingPair.at 6 rfl) ?_
      refine go_iload_2 (DX6_tellingPair.at 7 rfl) ?_
      refine go_iload_3 (DX6_tellingPair.at 8 rfl) ?_
      refine go_bipush (v := nI 16) (DX6_tellingPair.at 9 rfl) (by decide) ?_
      refine go_idiv (DX6_tellingPair.at 10 rfl) (by decide) ?_
      rw [pk_div (by omega) (by decide) (by decide)]
      refine go_iload_3 (DX6_tellingPair.at 11 rfl) ?_
      refine go_bipush (v := nI 16) (DX6_tellingPair.at 12 rfl) (by decide) ?_
      refine go_irem (DX6_tellingPair.at 13 rfl) (by decide) ?_
      rw [pk_rem (by omega) (by decide) (by decide)]
      refine go_cVi4 (DX6_tellingPair.at 14 rfl) nX6_104 vX6_isSum (by omega) (m_isSum hM2 (show j / 16 < 16 by omega) (show j % 16 < 16 by omega) (hX.row10 q) (by omega)) q.1 rfl (Nat.le_of_ble_eq_true rfl) (fun x20 h20 q20 => ?_)
      obtain ⟨f2, q2, q20⟩ := q20
      rw [rset_rset] at q2
      rcases q20 with ⟨rfl, F, hF, hT⟩ | ⟨rfl, hT⟩
      · refine go_if_eq 28 (DX6_tellingPair.at 15 rfl) (by decide) (fun c23 => absurd c23 (by decide)) (fun c23 => ?_)
        refine go_iload_3 (DX6_tellingPair.at 16 rfl) ?_
        exact go_iret (DX6_tellingPair.at 17 rfl) rfl rfl (RI.mk ⟨f2, q2, Or.inl ⟨j, F, by omega, rfl, hF, hT⟩⟩)
      · refine go_if_eq 28 (DX6_tellingPair.at 15 rfl) (by decide) (fun c23 => ?_) (fun c23 => absurd rfl c23)
        refine go_iincN_3 (DX6_tellingPair.at 18 rfl) ?_
        refine go_goto 2 (DX6_tellingPair.at 19 rfl) (by decide) ?_
        exact ih (j + 1) _ f2 (by omega) q2 (fun p hp l hl h1 h2 => by
          by_cases e : p = j
          · subst e
            exact hT l hl h1 h2
          · exact hno p (by omega) l hl h1 h2)
      
  refine go_iconst (v := nI 0) (DX6_tellingPair.at 0 rfl) (by decide) ?_
  refine go_istore_3 (DX6_tellingPair.at 1 rfl) ?_
  exact loop 256 0 h (ρ 10) (Nat.zero_add _) (by rw [rset_self]; exact hM) (fun p hp => absurd hp (Nat.not_lt_zero p))

theorem m_canHold {t M : Nat} (ht : t < aT A) (hMM : aM A t = M) (hX : MX G h b i ρ A) (hd : 4 ≤ d) : Calls E mX6_canHold d 0 0 [.ref b, .int (nI t), .int (nI M)] h (RI (fun r h' => ∃ f, MdAt G h' b i (rset ρ 10 f) ∧ r = bP (∀ l, Van (colv (aG A) (aS A)) M (nc (aG A) (aS A)) l → ev l (vsum (colv (aG A) (aS A)) (aV A t) (Src3 (nc (aG A) (aS A)) M) (nc (aG A) (aS A))) = 0))) := by
  refine Calls.of (ls := [some (.ref b), some (.int (nI t)), some (.int (nI M)), none]) (by decide +kernel) rfl (Nat.le_of_ble_eq_true rfl) (cat_ok rfl) ?_
  have hM := hX.1
  have hTb := hX.2.1
  have hR := hX.2.2
  have hA := hR.1
  have hn := hA.1.nc
  have hT8 : aT A ≤ 8 := hA.1.2.2.2.2.2.2.1
  have hg4 : aG A ≤ 4 := hA.1.2.1
  have hs6 : aS A ≤ 6 := hA.1.2.2.2.1
  have hs2 : 2 ≤ aS A := hA.1.2.2.1
  have hg1 : 1 ≤ aG A := hA.1.1
  have hgs : aG A * aS A ≤ 15 := hA.1.2.2.2.2.1
  have hH5 : aH A ≤ 5 := hA.1.2.2.2.2.2.2.2
  have en : nc (aG A) (aS A) = aG A * aS A + aG A + 2 := rfl
  have hp20 := p20 hn.2
  have hMt : M < 2 ^ (nc (aG A) (aS A)) := by rw [← hMM]; exact hA.2.1 t ht
  have hSl : ∀ k, k < aG A → M &&& gcv (aG A) (aS A) k = 0 → vsum (colv (aG A) (aS A)) (aV A t) (Src3 (nc (aG A) (aS A)) M) (nc (aG A) (aS A)) k = lsum A t k := fun k hk h0 => lsum_v hA hk (fun c hc => bit_src_free (by omega) hn.2 hk hMt h0 hc)
  have hShi : ∀ k, aG A + 2 ≤ k → vsum (colv (aG A) (aS A)) (aV A t) (Src3 (nc (aG A) (aS A)) M) (nc (aG A) (aS A)) k = 0 := fun k hk => vsum_hi (hA.2.2.1 t) hk
  have hSB : B6 (vsum (colv (aG A) (aS A)) (aV A t) (Src3 (nc (aG A) (aS A)) M) (nc (aG A) (aS A))) := vsum_lt (fun c _ i _ => colv_lt i) (fun c _ _ => hA.2.2.1 t c) _ (Nat.le_refl _)
  generalize hSS : vsum (colv (aG A) (aS A)) (aV A t) (Src3 (nc (aG A) (aS A)) M) (nc (aG A) (aS A)) = SS at hSl hShi hSB
  have loop1 : ∀ (m j : Nat), j + m = aG A → (∀ k, k < j → M &&& gcv (aG A) (aS A) k = 0 → lsum A t k = 0) → Go E mX6_canHold d 0 0 2 [some (.ref b), some (.int (nI t)), some (.int (nI M)), some (.int (nI j))] [] h (RI (fun r h' => ∃ f, MdAt G h' b i (rset ρ 10 f) ∧ r = bP (∀ l, Van (colv (aG A) (aS A)) M (nc (aG A) (aS A)) l → ev l SS = 0))) := by
    intro m
    induction m with
    | zero =>
      intro j hj h0
      obtain rfl : j = aG A := by omega
      refine go_iload_3 (DX6_canHold.at 2 rfl) ?_
      refine go_aload_0 (DX6_canHold.at 3 rfl) ?_
      refine go_getfield (DX6_canHold.at 4 rfl) fX6_7 hM.1 rfl ?_
      refine go_iconst (v := nI 0) (DX6_canHold.at 5 rfl) (by decide) ?_
      refine go_ialdM (DX6_canHold.at 6 rfl) (hM.2.1 1 (by decide)) (show 0 < 349 by decide) (by decide) ?_
      rw [show ρ 1 0 = nI (aG A) from hR.2.1.1]
      refine go_icmp_ge 39 (DX6_canHold.at 7 rfl) (by decide) (fun c9 => ?_) (fun c9 => absurd (Int32.le_refl _) c9)
      refine go_iconst (v := nI 1) (DX6_canHold.at 23 rfl) (by decide) ?_
      refine go_istore_3 (DX6_canHold.at 24 rfl) ?_
      have hfr : ∀ k, k < aG A → (∀ c, c < nc (aG A) (aS A) → bit M c → hcv (aG A) (aS A) c ≠ k) → SS k = 0 := fun k hk h1 => by
        have h2 := (free_iff (by omega) hk hMt).mpr h1
        rw [hSl k hk h2]
        exact h0 k hk h2
      have loop2 : ∀ (m j : Nat) (h : List va_E) (f : Nat → Int32), j + m = 256 → MdAt G h b i (rset ρ 10 f) → 1 ≤ j → (∀ p, 1 ≤ p → p < j → ∀ l, Van (colv (aG A) (aS A)) M (nc (aG A) (aS A)) l → l (aG A) = p / 16 → l (aG A + 1) = p % 16 → ev l SS = 0) → Go E mX6_canHold d 0 0 41 [some (.ref b), some (.int (nI t)), some (.int (nI M)), some (.int (nI j))] [] h (RI (fun r h' => ∃ f, MdAt G h' b i (rset ρ 10 f) ∧ r = bP (∀ l, Van (colv (aG A) (aS A)) M (nc (aG A) (aS A)) l → ev l SS = 0))) := by
        intro m
        induction m with
        | zero =>
          intro j h f hj q h1j hno
          obtain rfl : j = 256 := by omega
          refine go_iload_3 (DX6_canHold.at 25 rfl) ?_
          refine go_sipush (v := nI 256) (DX6_canHold.at 26 rfl) (by decide) ?_
          refine go_icmp_ge 90 (DX6_canHold.at 27 rfl) (by decide) (fun c45 => ?_) (fun c45 => absurd (Int32.le_refl _) c45)
          refine go_iconst (v := nI 1) (DX6_canHold.at 53 rfl) (by decide) ?_
          exact go_iret (DX6_canHold.at 54 rfl) rfl rfl (RI.mk ⟨f, q, (bP_t (fun l hl => by
            have h1 := hl.1 (aG A) (by omega)
            have h2 := hl.1 (aG A + 1) (by omega)
            by_cases e : 16 * l (aG A) + l (aG A + 1) = 0
            · have hz : B6 (fun _ => 0) := fun i _ => by show 0 < 16; decide
              have hz0 : ∀ v, B6 v → ev (fun _ => 0) v = 0 := fun v hv => by rw [ev_comm hz hv]; exact ev_0 hv (fun _ _ => rfl)
              rw [van_same hg4 hl.1 hz (by show l (aG A) = 0; omega) (by show l (aG A + 1) = 0; omega) (fun c hc hb => by rw [hl.2 c hc hb, hz0 _ (fun i _ => colv_lt i)]) hfr hShi]
              exact hz0 _ hSB
            · exact hno (16 * l (aG A) + l (aG A + 1)) (by omega) (by omega) l hl (by omega) (by omega))).symm⟩)
        | succ m ih =>
          intro j h f hj q h1j hno
          refine go_iload_3 (DX6_canHold.at 25 rfl) ?_
          refine go_sipush (v := nI 256) (DX6_canHold.at 26 rfl) (by decide) ?_
          refine go_icmp_ge 90 (DX6_canHold.at 27 rfl) (by decide) (fun c45 => absurd ((nI_leI (by omega) (by omega)).mp c45) (by omega)) (fun c45 => ?_)
          refine go_aload_0 (DX6_canHold.at 28 rfl) ?_
          refine go_iload_2 (DX6_canHold.at 29 rfl) ?_
          refine go_bipush (v := (-5)) (DX6_canHold.at 30 rfl) (by decide) ?_
          refine go_iload_3 (DX6_canHold.at 31 rfl) ?_
          refine go_bipush (v := nI 16) (DX6_canHold.at 32 rfl) (by decide) ?_
          refine go_idiv (DX6_canHold.at 33 rfl) (by decide) ?_
          rw [pk_div (by omega) (by decide) (by decide)]
          refine go_iload_3 (DX6_canHold.at 34 rfl) ?_
          refine go_bipush (v := nI 16) (DX6_canHold.at 35 rfl) (by decide) ?_
          refine go_irem (DX6_canHold.at 36 rfl) (by decide) ?_
          rw [pk_rem (by omega) (by decide) (by decide)]
          refine go_cVi4 (DX6_canHold.at 37 rfl) nX6_104 vX6_isSum (by omega) (m_isSum hMt (show j / 16 < 16 by omega) (show j % 16 < 16 by omega) (hX.row10 q) (by omega)) q.1 rfl (Nat.le_of_ble_eq_true rfl) (fun x60 h60 q60 => ?_)
          obtain ⟨f2, q2, q60⟩ := q60
          rw [rset_rset] at q2
          rcases q60 with ⟨rfl, F, hF, hT⟩ | ⟨rfl, hT⟩
          · rw [rset_rset] at hF
            have hlB : B6 (lfn (aG A) F (j / 16) (j % 16)) := lfn_lt (fun k hk => (hF k hk).1) (by omega) (by omega)
            have hVn := (van_tv hlB hn.2).mp hT
            have l2 : lfn (aG A) F (j / 16) (j % 16) (aG A) = j / 16 := by unfold lfn; rw [if_neg (by omega), if_pos rfl]
            have l3 : lfn (aG A) F (j / 16) (j % 16) (aG A + 1) = j % 16 := by unfold lfn; rw [if_neg (by omega), if_neg (by omega), if_pos rfl]
            refine go_if_eq 84 (DX6_canHold.at 38 rfl) (by decide) (fun c63 => absurd c63 (by decide)) (fun c63 => ?_)
            refine go_aload_0 (DX6_canHold.at 39 rfl) ?_
            refine go_iload_1 (DX6_canHold.at 40 rfl) ?_
            refine go_iload_3 (DX6_canHold.at 41 rfl) ?_
            refine go_bipush (v := nI 16) (DX6_canHold.at 42 rfl) (by decide) ?_
            refine go_idiv (DX6_canHold.at 43 rfl) (by decide) ?_
            rw [pk_div (by omega) (by decide) (by decide)]
            refine go_iload_3 (DX6_canHold.at 44 rfl) ?_
            refine go_bipush (v := nI 16) (DX6_canHold.at 45 rfl) (by decide) ?_
            refine go_irem (DX6_canHold.at 46 rfl) (by decide) ?_
            rw [pk_rem (by omega) (by decide) (by decide)]
            refine go_cVx3 (DX6_canHold.at 47 rfl) nX6_108 vX6_sumThere (by omega) (m_sumThere ht (show j / 16 < 16 by omega) (show j % 16 < 16 by omega) hF (hX.row10 q2) (by omega)) q2.1 rfl (Nat.le_of_ble_eq_true rfl) ?_
            rw [hMM, hSS]
            refine go_if_eq 84 (DX6_canHold.at 48 rfl) (by decide) (fun c79 => ?_) (fun c79 => ?_)
            · rw [nI_eq0 (by have := ev_lt hlB hSB; omega)] at c79
              refine go_iincN_3 (DX6_canHold.at 51 rfl) ?_
              refine go_goto 41 (DX6_canHold.at 52 rfl) (by decide) ?_
              exact ih (j + 1) _ f2 (by omega) q2 (by omega) (fun p hp1 hp l hl h1 h2 => by
                by_cases e : p = j
                · subst e
                  rw [van_same hg4 hl.1 hlB (h1.trans l2.symm) (h2.trans l3.symm) (fun c hc hb => by rw [hl.2 c hc hb, hVn.2 c hc hb]) hfr hShi]
                  exact c79
                · exact hno p hp1 (by omega) l hl h1 h2)
            · rw [nI_eq0 (by have := ev_lt hlB hSB; omega)] at c79
              refine go_iconst (v := nI 0) (DX6_canHold.at 49 rfl) (by decide) ?_
              exact go_iret (DX6_canHold.at 50 rfl) rfl rfl (RI.mk ⟨f2, q2, (bP_f (fun w => c79 (w _ hVn))).symm⟩)
          · refine go_if_eq 84 (DX6_canHold.at 38 rfl) (by decide) (fun c63 => ?_) (fun c63 => absurd rfl c63)
            refine go_iincN_3 (DX6_canHold.at 51 rfl) ?_
            refine go_goto 41 (DX6_canHold.at 52 rfl) (by decide) ?_
            exact ih (j + 1) _ f2 (by omega) q2 (by omega) (fun p hp1 hp l hl h1 h2 => by
              by_cases e : p = j
              · subst e
                exact absurd ((van_tv hl.1 hn.2).mpr hl) (hT l hl.1 h1 h2)
              · exact hno p hp1 (by omega) l hl h1 h2)
          
      exact loop2 255 1 h (ρ 10) (by omega) (by rw [rset_self]; exact hM) (by omega) (fun p hp1 hp => absurd hp (by omega))
    | succ m ih =>
      intro j hj h0
      refine go_iload_3 (DX6_canHold.at 2 rfl) ?_
      refine go_aload_0 (DX6_canHold.at 3 rfl) ?_
      refine go_getfield (DX6_canHold.at 4 rfl) fX6_7 hM.1 rfl ?_
      refine go_iconst (v := nI 0) (DX6_canHold.at 5 rfl) (by decide) ?_
      refine go_ialdM (DX6_canHold.at 6 rfl) (hM.2.1 1 (by decide)) (show 0 < 349 by decide) (by decide) ?_
      rw [show ρ 1 0 = nI (aG A) from hR.2.1.1]
      refine go_icmp_ge 39 (DX6_canHold.at 7 rfl) (by decide) (fun c9 => absurd c9 (nI_ge (by omega) (by omega))) (fun c9 => ?_)
      refine go_iload_2 (DX6_canHold.at 8 rfl) ?_
      refine go_aload_0 (DX6_canHold.at 9 rfl) ?_
      refine go_iload_3 (DX6_canHold.at 10 rfl) ?_
      refine go_cVx1 (DX6_canHold.at 11 rfl) nX6_101 vX6_groupCells (by omega) (m_groupCells (show j < aG A by omega) hX (by omega)) hM.1 rfl (Nat.le_of_ble_eq_true rfl) ?_
      refine go_iand (DX6_canHold.at 12 rfl) ?_
      rw [nx_and]
      refine go_if_ne 33 (DX6_canHold.at 13 rfl) (by decide) (fun c19 => ?_) (fun c19 => ?_)
      · rw [nI_eq0 (Nat.lt_of_le_of_lt Nat.and_le_left (by omega))] at c19
        refine go_iincN_3 (DX6_canHold.at 21 rfl) ?_
        refine go_goto 2 (DX6_canHold.at 22 rfl) (by decide) ?_
        exact ih (j + 1) (by omega) (fun k hk h2 => by
          by_cases e : k = j
          · subst e
            first | exact c28 | exact absurd h2 c19
          · exact h0 k (by omega) h2)
      · rw [nI_eq0 (Nat.lt_of_le_of_lt Nat.and_le_left (by omega))] at c19
        refine go_aload_0 (DX6_canHold.at 14 rfl) ?_
        refine go_iload_1 (DX6_canHold.at 15 rfl) ?_
        refine go_iload_3 (DX6_canHold.at 16 rfl) ?_
        refine go_cVx2 (DX6_canHold.at 17 rfl) nX6_84 vX6_localSum (by omega) (m_localSum ht (show j < aG A by omega) (fun c hc hb => (free_iff (by omega) (show j < aG A by omega) hMt).mp c19 c (gcv_n (by omega) hc) (by rw [← hMM]; exact hb) ((grp_iff (by omega) (by omega)).mp hc)) hX (by omega)) hM.1 rfl (Nat.le_of_ble_eq_true rfl) ?_
        refine go_if_eq 33 (DX6_canHold.at 18 rfl) (by decide) (fun c28 => ?_) (fun c28 => ?_)
        · rw [nI_eq0 (by have := lsum_lt (t := t) (k := j) hA; omega)] at c28
          refine go_iincN_3 (DX6_canHold.at 21 rfl) ?_
          refine go_goto 2 (DX6_canHold.at 22 rfl) (by decide) ?_
          exact ih (j + 1) (by omega) (fun k hk h2 => by
            by_cases e : k = j
            · subst e
              first | exact c28 | exact absurd h2 c19
            · exact h0 k (by omega) h2)
        · rw [nI_eq0 (by have := lsum_lt (t := t) (k := j) hA; omega)] at c28
          refine go_iconst (v := nI 0) (DX6_canHold.at 19 rfl) (by decide) ?_
          exact go_iret (DX6_canHold.at 20 rfl) rfl rfl (RI.mk ⟨ρ 10, by rw [rset_self]; exact hM, (bP_f (fun w => by
            have w2 := w _ (sgl_van hg4 (by omega) (show j < aG A by omega) hMt c19)
            rw [ev_sgl hSB (by omega), hSl j (by omega) c19] at w2
            exact c28 w2)).symm⟩)
  refine go_iconst (v := nI 0) (DX6_canHold.at 0 rfl) (by decide) ?_
  refine go_istore_3 (DX6_canHold.at 1 rfl) ?_
  exact loop1 (aG A) 0 (Nat.zero_add _) (fun k hk => absurd hk (Nat.not_lt_zero k))

theorem m_wayOf {M c : Nat} (hMn : M < 2 ^ (nc (aG A) (aS A))) (hc : c < nc (aG A) (aS A)) (hb : bit M c) (hX : MX G h b i ρ A) (hd : 5 ≤ d) : Calls E mX6_wayOf d 0 0 [.ref b, .int (nI M), .int (nI c)] h (RI (fun r h' => ∃ f, MdAt G h' b i (rset ρ 10 f) ∧ ((pmv (aG A) (aS A) c &&& M = 0 ∧ r = nI (if hcv (aG A) (aS A) c < aG A then 1 else 2)) ∨ (pmv (aG A) (aS A) c &&& M ≠ 0 ∧ (∃ l, Dual (colv (aG A) (aS A)) M (nc (aG A) (aS A)) c l) ∧ r = nI 3) ∨ (pmv (aG A) (aS A) c &&& M ≠ 0 ∧ ¬ (∃ l, Dual (colv (aG A) (aS A)) M (nc (aG A) (aS A)) c l) ∧ r = nI 0)))) := by
  refine Calls.of (ls := [some (.ref b), some (.int (nI M)), some (.int (nI c)), none]) (by decide +kernel) rfl (Nat.le_of_ble_eq_true rfl) (cat_ok rfl) ?_
  have hM := hX.1
  have hTb := hX.2.1
  have hR := hX.2.2
  have hA := hR.1
  have hn := hA.1.nc
  have hT8 : aT A ≤ 8 := hA.1.2.2.2.2.2.2.1
  have hg4 : aG A ≤ 4 := hA.1.2.1
  have hs6 : aS A ≤ 6 := hA.1.2.2.2.1
  have hs2 : 2 ≤ aS A := hA.1.2.2.1
  have hg1 : 1 ≤ aG A := hA.1.1
  have hgs : aG A * aS A ≤ 15 := hA.1.2.2.2.2.1
  have hH5 : aH A ≤ 5 := hA.1.2.2.2.2.2.2.2
  have en : nc (aG A) (aS A) = aG A * aS A + aG A + 2 := rfl
  have hp20 := p20 hn.2
  have h1c : 1 * 2 ^ c < 2 ^ 31 := by
    rw [Nat.one_mul]
    exact Nat.pow_lt_pow_right (by decide) (by omega)
  have hM20 : M < 2 ^ 20 := by omega
  have hq0 : MdAt G h b i (rset ρ 10 (ρ 10)) := by rw [rset_self]; exact hM
  refine go_aload_0 (DX6_wayOf.at 0 rfl) ?_
  refine go_iload_2 (DX6_wayOf.at 1 rfl) ?_
  refine go_cVx1 (DX6_wayOf.at 2 rfl) nX6_91 vX6_groupOf (by omega) (m_groupOf hc hX (by omega)) hM.1 rfl (Nat.le_of_ble_eq_true rfl) ?_
  refine go_istore_3 (DX6_wayOf.at 3 rfl) ?_
  by_cases hh : hcv (aG A) (aS A) c < aG A
  · rw [show grI (aG A) (aS A) c = nI (hcv (aG A) (aS A) c) from if_pos hh]
    have hg2 := gcv_lt (s := aS A) hh
    refine go_iload_3 (DX6_wayOf.at 4 rfl) ?_
    refine go_bipush (v := (-5)) (DX6_wayOf.at 5 rfl) (by decide) ?_
    refine go_icmp_eq 27 (DX6_wayOf.at 6 rfl) (by decide) (fun c9 => absurd c9 (nI_m5 (by omega))) (fun c9 => ?_)
    refine go_iload_1 (DX6_wayOf.at 7 rfl) ?_
    refine go_aload_0 (DX6_wayOf.at 8 rfl) ?_
    refine go_iload_3 (DX6_wayOf.at 9 rfl) ?_
    refine go_cVx1 (DX6_wayOf.at 10 rfl) nX6_101 vX6_groupCells (by omega) (m_groupCells hh hX (by omega)) hM.1 rfl (Nat.le_of_ble_eq_true rfl) ?_
    refine go_iand (DX6_wayOf.at 11 rfl) ?_
    rw [nx_and]
    have hand := Nat.and_le_left (n := M) (m := gcv (aG A) (aS A) (hcv (aG A) (aS A) c))
    refine go_iconst (v := nI 1) (DX6_wayOf.at 12 rfl) (by decide) ?_
    refine go_iload_2 (DX6_wayOf.at 13 rfl) ?_
    refine go_ishl (DX6_wayOf.at 14 rfl) ?_
    rw [nx_shlW 1 (by omega)]
    refine go_icmp_ne 27 (DX6_wayOf.at 15 rfl) (by decide) (fun c22 => ?_) (fun c22 => ?_)
    · rw [nI_eq (by omega) h1c, Nat.one_mul, way1_iff (by omega) hh hM20 hb] at c22
      have hne := c22
      refine go_iload_3 (DX6_wayOf.at 18 rfl) ?_
      refine go_bipush (v := (-5)) (DX6_wayOf.at 19 rfl) (by decide) ?_
      refine go_icmp_ne 48 (DX6_wayOf.at 20 rfl) (by decide) (fun c30 => ?_) (fun c30 => absurd c30 (nI_m5 (by omega)))
      refine go_aload_0 (DX6_wayOf.at 32 rfl) ?_
      refine go_iload_1 (DX6_wayOf.at 33 rfl) ?_
      refine go_iload_2 (DX6_wayOf.at 34 rfl) ?_
      refine go_cVi2 (DX6_wayOf.at 35 rfl) nX6_111 vX6_tellingPair (by omega) (m_tellingPair hMn hX (by omega)) hM.1 rfl (Nat.le_of_ble_eq_true rfl) (fun x51 h51 q51 => ?_)
      obtain ⟨f, q, q51⟩ := q51
      rcases q51 with ⟨p, F, hp, rfl, hF, hT⟩ | ⟨rfl, hT⟩
      · have hlB : B6 (lfn (aG A) F (p / 16) (p % 16)) := lfn_lt (fun k hk => (hF k hk).1) (by omega) (by omega)
        have hD := (dual_tv hlB hn.2 hc hb).mp hT
        refine go_bipush (v := (-5)) (DX6_wayOf.at 36 rfl) (by decide) ?_
        refine go_icmp_ne 63 (DX6_wayOf.at 37 rfl) (by decide) (fun c56 => ?_) (fun c56 => absurd c56 (nI_m5 (by omega)))
        refine go_iconst (v := nI 3) (DX6_wayOf.at 40 rfl) (by decide) ?_
        exact go_iret (DX6_wayOf.at 41 rfl) rfl rfl (RI.mk ⟨f, q, Or.inr (Or.inl ⟨hne, ⟨_, hD⟩, rfl⟩)⟩)
      · refine go_bipush (v := (-5)) (DX6_wayOf.at 36 rfl) (by decide) ?_
        refine go_icmp_ne 63 (DX6_wayOf.at 37 rfl) (by decide) (fun c56 => absurd rfl c56) (fun c56 => ?_)
        refine go_iconst (v := nI 0) (DX6_wayOf.at 38 rfl) (by decide) ?_
        refine go_goto 64 (DX6_wayOf.at 39 rfl) (by decide) ?_
        exact go_iret (DX6_wayOf.at 41 rfl) rfl rfl (RI.mk ⟨f, q, Or.inr (Or.inr ⟨hne, fun ⟨l, hl⟩ => hT l hl.1 ((dual_tv hl.1 hn.2 hc hb).mpr hl), rfl⟩)⟩)
      
    · rw [nI_eq (by omega) h1c, Nat.one_mul, way1_iff (by omega) hh hM20 hb] at c22
      refine go_iconst (v := nI 1) (DX6_wayOf.at 16 rfl) (by decide) ?_
      exact go_iret (DX6_wayOf.at 17 rfl) rfl rfl (RI.mk ⟨ρ 10, hq0, Or.inl ⟨c22, by rw [if_pos hh]⟩⟩)
  · rw [show grI (aG A) (aS A) c = -5 from if_neg hh]
    have hpd : pmv (aG A) (aS A) c = 2 ^ (aG A * aS A) - 1 := pmv_d hh
    have hg15 : 2 ^ (aG A * aS A) ≤ 2 ^ 15 := Nat.pow_le_pow_right (by decide) hgs
    have h1g : 1 ≤ 2 ^ (aG A * aS A) := Nat.one_le_two_pow
    refine go_iload_3 (DX6_wayOf.at 4 rfl) ?_
    refine go_bipush (v := (-5)) (DX6_wayOf.at 5 rfl) (by decide) ?_
    refine go_icmp_eq 27 (DX6_wayOf.at 6 rfl) (by decide) (fun c9 => ?_) (fun c9 => absurd rfl c9)
    refine go_iload_3 (DX6_wayOf.at 18 rfl) ?_
    refine go_bipush (v := (-5)) (DX6_wayOf.at 19 rfl) (by decide) ?_
    refine go_icmp_ne 48 (DX6_wayOf.at 20 rfl) (by decide) (fun c30 => absurd rfl c30) (fun c30 => ?_)
    refine go_iload_1 (DX6_wayOf.at 21 rfl) ?_
    refine go_iconst (v := nI 1) (DX6_wayOf.at 22 rfl) (by decide) ?_
    refine go_aload_0 (DX6_wayOf.at 23 rfl) ?_
    refine go_cVx0 (DX6_wayOf.at 24 rfl) nX6_47 vX6_dataCells (by omega) (m_dataCells hX) hM.1 rfl (Nat.le_of_ble_eq_true rfl) ?_
    refine go_ishl (DX6_wayOf.at 25 rfl) ?_
    rw [nx_shlW 1 (by omega), Nat.one_mul]
    refine go_iconst (v := nI 1) (DX6_wayOf.at 26 rfl) (by decide) ?_
    refine go_isub (DX6_wayOf.at 27 rfl) ?_
    rw [pk_sub (by omega)]
    refine go_iand (DX6_wayOf.at 28 rfl) ?_
    rw [nx_and]
    have hand := Nat.and_le_right (n := M) (m := 2 ^ (aG A * aS A) - 1)
    refine go_if_ne 48 (DX6_wayOf.at 29 rfl) (by decide) (fun c43 => ?_) (fun c43 => ?_)
    · rw [nI_eq0 (by omega), Nat.and_comm, ← hpd] at c43
      have hne := c43
      refine go_aload_0 (DX6_wayOf.at 32 rfl) ?_
      refine go_iload_1 (DX6_wayOf.at 33 rfl) ?_
      refine go_iload_2 (DX6_wayOf.at 34 rfl) ?_
      refine go_cVi2 (DX6_wayOf.at 35 rfl) nX6_111 vX6_tellingPair (by omega) (m_tellingPair hMn hX (by omega)) hM.1 rfl (Nat.le_of_ble_eq_true rfl) (fun x51 h51 q51 => ?_)
      obtain ⟨f, q, q51⟩ := q51
      rcases q51 with ⟨p, F, hp, rfl, hF, hT⟩ | ⟨rfl, hT⟩
      · have hlB : B6 (lfn (aG A) F (p / 16) (p % 16)) := lfn_lt (fun k hk => (hF k hk).1) (by omega) (by omega)
        have hD := (dual_tv hlB hn.2 hc hb).mp hT
        refine go_bipush (v := (-5)) (DX6_wayOf.at 36 rfl) (by decide) ?_
        refine go_icmp_ne 63 (DX6_wayOf.at 37 rfl) (by decide) (fun c56 => ?_) (fun c56 => absurd c56 (nI_m5 (by omega)))
        refine go_iconst (v := nI 3) (DX6_wayOf.at 40 rfl) (by decide) ?_
        exact go_iret (DX6_wayOf.at 41 rfl) rfl rfl (RI.mk ⟨f, q, Or.inr (Or.inl ⟨hne, ⟨_, hD⟩, rfl⟩)⟩)
      · refine go_bipush (v := (-5)) (DX6_wayOf.at 36 rfl) (by decide) ?_
        refine go_icmp_ne 63 (DX6_wayOf.at 37 rfl) (by decide) (fun c56 => absurd rfl c56) (fun c56 => ?_)
        refine go_iconst (v := nI 0) (DX6_wayOf.at 38 rfl) (by decide) ?_
        refine go_goto 64 (DX6_wayOf.at 39 rfl) (by decide) ?_
        exact go_iret (DX6_wayOf.at 41 rfl) rfl rfl (RI.mk ⟨f, q, Or.inr (Or.inr ⟨hne, fun ⟨l, hl⟩ => hT l hl.1 ((dual_tv hl.1 hn.2 hc hb).mpr hl), rfl⟩)⟩)
      
    · rw [nI_eq0 (by omega), Nat.and_comm, ← hpd] at c43
      refine go_iconst (v := nI 2) (DX6_wayOf.at 30 rfl) (by decide) ?_
      exact go_iret (DX6_wayOf.at 31 rfl) rfl rfl (RI.mk ⟨ρ 10, hq0, Or.inl ⟨c43, by rw [if_neg hh]⟩⟩)

theorem m_wayNow {t c : Nat} (ht : t < aT A) (hc : c < nc (aG A) (aS A)) (hb : bit (aM A t) c) (hX : MX G h b i ρ A) (hd : 6 ≤ d) : Calls E mX6_wayNow d 0 0 [.ref b, .int (nI t), .int (nI c)] h (RI (fun r h' => ∃ f, MdAt G h' b i (rset ρ 10 f) ∧ ((∃ w src X, WyX A t c w src X ∧ r = nI w) ∨ (NoX A t c ∧ r = nI 0)))) := by
  refine Calls.of (ls := [some (.ref b), some (.int (nI t)), some (.int (nI c)), none, none]) (by decide +kernel) rfl (Nat.le_of_ble_eq_true rfl) (cat_ok rfl) ?_
  have hM := hX.1
  have hTb := hX.2.1
  have hR := hX.2.2
  have hA := hR.1
  have hn := hA.1.nc
  have hT8 : aT A ≤ 8 := hA.1.2.2.2.2.2.2.1
  have hg4 : aG A ≤ 4 := hA.1.2.1
  have hs6 : aS A ≤ 6 := hA.1.2.2.2.1
  have hs2 : 2 ≤ aS A := hA.1.2.2.1
  have hg1 : 1 ≤ aG A := hA.1.1
  have hgs : aG A * aS A ≤ 15 := hA.1.2.2.2.2.1
  have hH5 : aH A ≤ 5 := hA.1.2.2.2.2.2.2.2
  have en : nc (aG A) (aS A) = aG A * aS A + aG A + 2 := rfl
  refine go_aload_0 (DX6_wayNow.at 0 rfl) ?_
  refine go_iload_1 (DX6_wayNow.at 1 rfl) ?_
  refine go_cVx1 (DX6_wayNow.at 2 rfl) nX6_114 vX6_lostCells (by omega) (m_lostCells ht hX (by omega)) hM.1 rfl (Nat.le_of_ble_eq_true rfl) ?_
  refine go_istore_3 (DX6_wayNow.at 3 rfl) ?_
  refine go_aload_0 (DX6_wayNow.at 4 rfl) ?_
  refine go_iload_3 (DX6_wayNow.at 5 rfl) ?_
  refine go_iload_2 (DX6_wayNow.at 6 rfl) ?_
  refine go_cVi2 (DX6_wayNow.at 7 rfl) nX6_117 vX6_wayOf (by omega) (m_wayOf (hA.2.1 t ht) hc hb hX (by omega)) hM.1 rfl (Nat.le_of_ble_eq_true rfl) (fun x9 h9 q9 => ?_)
  obtain ⟨f, q, q9⟩ := q9
  rcases q9 with ⟨h0, rfl⟩ | ⟨hne, ⟨l, hl⟩, rfl⟩ | ⟨hne, hno, rfl⟩
  · have hW : WyX A t c (if hcv (aG A) (aS A) c < aG A then 1 else 2) _ _ := Or.inl ⟨h0, rfl, rfl, rfl⟩
    generalize (if hcv (aG A) (aS A) c < aG A then 1 else 2) = w at hW ⊢
    have hw3 : w = 1 ∨ w = 2 := by
      rcases hW with ⟨-, e, -⟩ | ⟨e, -⟩
      · by_cases q : hcv (aG A) (aS A) c < aG A
        · rw [if_pos q] at e
          exact Or.inl e
        · rw [if_neg q] at e
          exact Or.inr e
      · exact absurd h0 e
    refine go_istore_4 (DX6_wayNow.at 8 rfl) ?_
    refine go_iload_4 (DX6_wayNow.at 9 rfl) ?_
    refine go_iconst (v := nI 3) (DX6_wayNow.at 10 rfl) (by decide) ?_
    refine go_icmp_ne 33 (DX6_wayNow.at 11 rfl) (by decide) (fun c17 => ?_) (fun c17 => absurd c17 (by rcases hw3 with rfl | rfl <;> decide))
    refine go_iload_4 (DX6_wayNow.at 19 rfl) ?_
    exact go_iret (DX6_wayNow.at 20 rfl) rfl rfl (RI.mk ⟨f, q, Or.inl ⟨w, _, _, hW, rfl⟩⟩)
  · have hSB : B6 (vsum (colv (aG A) (aS A)) (aV A t) (Src3 (nc (aG A) (aS A)) (aM A t)) (nc (aG A) (aS A))) := vsum_lt (fun c _ i _ => colv_lt i) (fun c _ _ => hA.2.2.1 t c) _ (Nat.le_refl _)
    refine go_istore_4 (DX6_wayNow.at 8 rfl) ?_
    refine go_iload_4 (DX6_wayNow.at 9 rfl) ?_
    refine go_iconst (v := nI 3) (DX6_wayNow.at 10 rfl) (by decide) ?_
    refine go_icmp_ne 33 (DX6_wayNow.at 11 rfl) (by decide) (fun c17 => absurd rfl c17) (fun c17 => ?_)
    refine go_aload_0 (DX6_wayNow.at 12 rfl) ?_
    refine go_iload_1 (DX6_wayNow.at 13 rfl) ?_
    refine go_iload_3 (DX6_wayNow.at 14 rfl) ?_
    refine go_cVi2 (DX6_wayNow.at 15 rfl) nX6_120 vX6_canHold (by omega) (m_canHold ht rfl (hX.row10 q) (by omega)) q.1 rfl (Nat.le_of_ble_eq_true rfl) (fun x23 h23 q23 => ?_)
    obtain ⟨f2, q2, rfl⟩ := q23
    rw [rset_rset] at q2
    refine go_if_ne 33 (DX6_wayNow.at 16 rfl) (by decide) (fun c26 => ?_) (fun c26 => ?_)
    · rw [bP_eq0, Classical.not_not] at c26
      have hW : WyX A t c 3 _ _ := Or.inr ⟨hne, ⟨⟨l, hl⟩, c26⟩, rfl, rfl, ev_lt hl.1 hSB, fun l2 hl2 => Dual.same (fun c _ i _ => colv_lt i) hc hSB hl2 hl c26⟩
      refine go_iload_4 (DX6_wayNow.at 19 rfl) ?_
      exact go_iret (DX6_wayNow.at 20 rfl) rfl rfl (RI.mk ⟨f2, q2, by first | exact Or.inl ⟨3, _, _, hW, rfl⟩ | exact Or.inr ⟨⟨hne, fun w => c26 w.2⟩, rfl⟩⟩)
    · rw [bP_eq0] at c26
      refine go_iconst (v := nI 0) (DX6_wayNow.at 17 rfl) (by decide) ?_
      refine go_goto 35 (DX6_wayNow.at 18 rfl) (by decide) ?_
      exact go_iret (DX6_wayNow.at 20 rfl) rfl rfl (RI.mk ⟨f2, q2, by first | exact Or.inl ⟨3, _, _, hW, rfl⟩ | exact Or.inr ⟨⟨hne, fun w => c26 w.2⟩, rfl⟩⟩)
  · refine go_istore_4 (DX6_wayNow.at 8 rfl) ?_
    refine go_iload_4 (DX6_wayNow.at 9 rfl) ?_
    refine go_iconst (v := nI 3) (DX6_wayNow.at 10 rfl) (by decide) ?_
    refine go_icmp_ne 33 (DX6_wayNow.at 11 rfl) (by decide) (fun c17 => ?_) (fun c17 => absurd c17 (by decide))
    refine go_iload_4 (DX6_wayNow.at 19 rfl) ?_
    exact go_iret (DX6_wayNow.at 20 rfl) rfl rfl (RI.mk ⟨f, q, Or.inr ⟨⟨hne, fun w => hno w.1⟩, rfl⟩⟩)
  

end M6
