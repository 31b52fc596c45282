/-! THE LAW'S METHODS on its own store -/
section LM
variable {E : AEnv} {d : Nat} {h h' h0 : List va_E} {ρ ρ' : Nat → Nat → Int32} {A : Ab} {Z : Zt} {G : Nat → Option va_E}
theorem NdP.loc {A : Ab} {c j : Nat} (h : grf (aG A) (aS A) c < 9) : NdP A c j ↔ grf (aG A) (aS A) j = grf (aG A) (aS A) c := by
  unfold NdP
  rw [if_pos h]
theorem NdP.glo {A : Ab} {c j : Nat} (h : ¬ grf (aG A) (aS A) c < 9) : NdP A c j ↔ j < aG A * aS A := by
  unfold NdP
  rw [if_neg h]
theorem c_nearWay {t c : Nat} (ht : t < aT A) (hc : c < nc (aG A) (aS A)) (hL : LA h ρ) (hR : LR A ρ) (hd : 2 ≤ d) : Calls E mL_nearWay d 0 0 [.int (nI t), .int (nI c), .ref 52, .ref 54] h (RX (nI (nrN A t c)) h) := by
  refine Calls.of (ls := [some (.int (nI t)), some (.int (nI c)), some (.ref 52), some (.ref 54), none, none, none]) (by decide +kernel) rfl (Nat.le_of_ble_eq_true rfl) (cat_ok rfl) ?_
  have hA := hR.1
  have hY := hR.2.1
  have hLO := hY.1
  have hT3 : aT A ≤ 3 := hY.2.1
  have hn := hLO.nc
  have hg4 : aG A ≤ 4 := hLO.2.1
  have hg1 : 1 ≤ aG A := hLO.1
  have hs6 : aS A ≤ 6 := hLO.2.2.2.1
  have hs2 : 2 ≤ aS A := hLO.2.2.1
  have hgs : aG A * aS A ≤ 15 := hLO.2.2.2.2.1
  have hH5 : aH A ≤ 5 := hLO.2.2.2.2.2.2.2
  have hT1 : 1 ≤ aT A := hLO.2.2.2.2.2.1
  have en : nc (aG A) (aS A) = aG A * aS A + aG A + 2 := rfl
  have hM20 := hA.m20 ht
  obtain ⟨-, keyc⟩ := pmv_key hLO hc
  have loop : ∀ (m j : Nat) (x : Int32) (u : Option Value), j + m = nc (aG A) (aS A) → ((x = nI 1 ∧ NrP A t c j) ∨ (x = nI 0 ∧ ¬ NrP A t c j)) → Go E mL_nearWay d 0 0 6 [some (.int (nI t)), some (.int (nI c)), some (.ref 52), some (.ref 54), some (.int x), some (.int (nI j)), u] [] h (RX (nI (nrN A t c)) h) := by
    intro m
    induction m with
    | zero =>
      intro j x u hj hx
      have ej : j = nc (aG A) (aS A) := by omega
      subst ej
      refine go_iload_5 (DL_nearWay.at 4 rfl) ?_
      refine go_aload_2 (DL_nearWay.at 5 rfl) ?_
      refine go_cSx1 (DL_nearWay.at 6 rfl) nL_16 vL_all (by omega) (c_all hL hY) (Nat.le_of_ble_eq_true rfl) ?_
      refine go_icmp_ge 103 (DL_nearWay.at 7 rfl) (by decide) (fun c12 => ?_) (fun c12 => absurd (Int32.le_refl _) c12)
      refine go_iload_4 (DL_nearWay.at 53 rfl) ?_
      refine go_if_ne 112 (DL_nearWay.at 54 rfl) (by decide) (fun c105 => ?_) (fun c105 => ?_)
      · have hx1 : pmv (aG A) (aS A) c &&& aM A t = 0 := (NrP.iff hA ht).mp (by
          rcases hx with ⟨e, q⟩ | ⟨e, q⟩
          · exact q
          · exact absurd (e.trans (show nI 0 = 0 by decide)) c105)
        refine go_iload_1 (DL_nearWay.at 57 rfl) ?_
        refine go_aload_2 (DL_nearWay.at 58 rfl) ?_
        refine go_cSx2 (DL_nearWay.at 59 rfl) nL_23 vL_group (by omega) (c_group hc hL hY (by omega)) (Nat.le_of_ble_eq_true rfl) ?_
        refine go_bipush (v := nI 9) (DL_nearWay.at 60 rfl) (by decide) ?_
        refine go_icmp_ge 126 (DL_nearWay.at 61 rfl) (by decide) (fun c119 => ?_) (fun c119 => ?_)
        · rw [nI_leI (by omega) (by have := grf_lt (g := aG A) (s := aS A) (c := c) hg4; omega)] at c119
          have h2 : ¬ hcv (aG A) (aS A) c < aG A := fun w => by have := (grf_9 (s := aS A) hg4).mpr w; omega
          have fin : nrN A t c = 2 := (if_pos hx1).trans (if_neg h2)
          refine go_iconst (v := nI 2) (DL_nearWay.at 64 rfl) (by decide) ?_
          exact go_iret (DL_nearWay.at 65 rfl) rfl rfl (RX.mk (by first | rw [fin] | rw [show nrN A t c = 3 from if_neg hx0]) rfl)
        · rw [nI_leI (by omega) (by have := grf_lt (g := aG A) (s := aS A) (c := c) hg4; omega)] at c119
          have h2 : hcv (aG A) (aS A) c < aG A := (grf_9 (s := aS A) hg4).mp (by omega)
          have fin : nrN A t c = 1 := (if_pos hx1).trans (if_pos h2)
          refine go_iconst (v := nI 1) (DL_nearWay.at 62 rfl) (by decide) ?_
          refine go_goto 127 (DL_nearWay.at 63 rfl) (by decide) ?_
          exact go_iret (DL_nearWay.at 65 rfl) rfl rfl (RX.mk (by first | rw [fin] | rw [show nrN A t c = 3 from if_neg hx0]) rfl)
      · have hx0 : ¬ pmv (aG A) (aS A) c &&& aM A t = 0 := fun w => by
          rcases hx with ⟨e, q⟩ | ⟨e, q⟩
          · rw [e] at c105
            exact absurd c105 (by decide)
          · exact q ((NrP.iff hA ht).mpr w)
        refine go_iconst (v := nI 3) (DL_nearWay.at 55 rfl) (by decide) ?_
        refine go_goto 127 (DL_nearWay.at 56 rfl) (by decide) ?_
        exact go_iret (DL_nearWay.at 65 rfl) rfl rfl (RX.mk (by first | rw [fin] | rw [show nrN A t c = 3 from if_neg hx0]) rfl)
    | succ m ih =>
      intro j x u hj hx
      have hj20 : j < nc (aG A) (aS A) := by omega
      have t95 : ∀ (z : Int32) (u : Option Value), ((z = nI 1 ∧ NrP A t c (j + 1)) ∨ (z = nI 0 ∧ ¬ NrP A t c (j + 1))) → Go E mL_nearWay d 0 0 95 [some (.int (nI t)), some (.int (nI c)), some (.ref 52), some (.ref 54), some (.int x), some (.int (nI j)), u] [.int z] h (RX (nI (nrN A t c)) h) := by
        intro z u hz
        refine go_istore_4 (DL_nearWay.at 50 rfl) ?_
        refine go_iincN_5 (DL_nearWay.at 51 rfl) ?_
        refine go_goto 6 (DL_nearWay.at 52 rfl) (by decide) ?_
        exact ih (j + 1) _ _ (by omega) hz
      have t61 : ∀ (y : Int32) (u : Option Value), ((y = nI 1 ∧ NdP A c j) ∨ (y = nI 0 ∧ ¬ NdP A c j)) → Go E mL_nearWay d 0 0 61 [some (.int (nI t)), some (.int (nI c)), some (.ref 52), some (.ref 54), some (.int x), some (.int (nI j)), u] [.int y] h (RX (nI (nrN A t c)) h) := by
        intro y u hy
        refine go_istore_6 (DL_nearWay.at 31 rfl) ?_
        refine go_iload_4 (DL_nearWay.at 32 rfl) ?_
        refine go_if_eq 94 (DL_nearWay.at 33 rfl) (by decide) (fun c65 => ?_) (fun c65 => ?_)
        · have fin : ¬ NrP A t c (j + 1) := fun w => by
            rcases hx with ⟨e, q⟩ | ⟨e, q⟩
            · rw [e] at c65
              exact absurd c65 (by decide)
            · exact q w.down
          refine go_iconst (v := nI 0) (DL_nearWay.at 49 rfl) (by decide) ?_
          exact t95 _ _ (by first | exact Or.inl ⟨rfl, fin⟩ | exact Or.inr ⟨rfl, fin⟩)
        · have hP : NrP A t c j := by
            rcases hx with ⟨e, q⟩ | ⟨e, q⟩
            · exact q
            · exact absurd (e.trans (show nI 0 = 0 by decide)) c65
          refine go_iload_5 (DL_nearWay.at 34 rfl) ?_
          refine go_iload_1 (DL_nearWay.at 35 rfl) ?_
          refine go_icmp_eq 90 (DL_nearWay.at 36 rfl) (by decide) (fun c71 => ?_) (fun c71 => ?_)
          · rw [nI_eq (by omega) (by omega)] at c71
            have fin : NrP A t c (j + 1) := hP.succ (fun w => by rw [c71] at w; exact keyc w.1)
            refine go_iconst (v := nI 1) (DL_nearWay.at 47 rfl) (by decide) ?_
            refine go_goto 95 (DL_nearWay.at 48 rfl) (by decide) ?_
            exact t95 _ _ (by first | exact Or.inl ⟨rfl, fin⟩ | exact Or.inr ⟨rfl, fin⟩)
          · rw [nI_eq (by omega) (by omega)] at c71
            refine go_iload_6 (DL_nearWay.at 37 rfl) ?_
            refine go_if_eq 90 (DL_nearWay.at 38 rfl) (by decide) (fun c76 => ?_) (fun c76 => ?_)
            · have fin : NrP A t c (j + 1) := hP.succ (fun w => by
                rcases hy with ⟨e, q⟩ | ⟨e, q⟩
                · rw [e] at c76
                  exact absurd c76 (by decide)
                · exact q ((NdP.iff hLO hj20 c71).mpr w.1))
              refine go_iconst (v := nI 1) (DL_nearWay.at 47 rfl) (by decide) ?_
              refine go_goto 95 (DL_nearWay.at 48 rfl) (by decide) ?_
              exact t95 _ _ (by first | exact Or.inl ⟨rfl, fin⟩ | exact Or.inr ⟨rfl, fin⟩)
            · have hN : bit (pmv (aG A) (aS A) c) j := by
                rcases hy with ⟨e, q⟩ | ⟨e, q⟩
                · exact (NdP.iff hLO hj20 c71).mp q
                · exact absurd (e.trans (show nI 0 = 0 by decide)) c76
              refine go_aload_3 (DL_nearWay.at 39 rfl) ?_
              refine go_iload_0 (DL_nearWay.at 40 rfl) ?_
              refine go_ialdL 2 (DL_nearWay.at 41 rfl) hL (by decide) (show t < 3 by omega) ?_
              rw [hR.2.2.2.2.2.1 t ht]
              refine go_iload_5 (DL_nearWay.at 42 rfl) ?_
              refine go_ishr (DL_nearWay.at 43 rfl) ?_
              refine go_iconst (v := nI 1) (DL_nearWay.at 44 rfl) (by decide) ?_
              refine go_iand (DL_nearWay.at 45 rfl) ?_
              rw [nx_bit (by omega) (by omega)]
              refine go_if_ne 94 (DL_nearWay.at 46 rfl) (by decide) (fun c87 => ?_) (fun c87 => ?_)
              · rw [nI_eq0 (by omega)] at c87
                have fin : ¬ NrP A t c (j + 1) := fun w => w j (Nat.lt_succ_self j) ⟨hN, by have := c87; show aM A t / 2 ^ j % 2 = 1; omega⟩
                refine go_iconst (v := nI 0) (DL_nearWay.at 49 rfl) (by decide) ?_
                exact t95 _ _ (by first | exact Or.inl ⟨rfl, fin⟩ | exact Or.inr ⟨rfl, fin⟩)
              · rw [nI_eq0 (by omega)] at c87
                have fin : NrP A t c (j + 1) := hP.succ (fun w => by have w2 : aM A t / 2 ^ j % 2 = 1 := w.2; omega)
                refine go_iconst (v := nI 1) (DL_nearWay.at 47 rfl) (by decide) ?_
                refine go_goto 95 (DL_nearWay.at 48 rfl) (by decide) ?_
                exact t95 _ _ (by first | exact Or.inl ⟨rfl, fin⟩ | exact Or.inr ⟨rfl, fin⟩)
      refine go_iload_5 (DL_nearWay.at 4 rfl) ?_
      refine go_aload_2 (DL_nearWay.at 5 rfl) ?_
      refine go_cSx1 (DL_nearWay.at 6 rfl) nL_16 vL_all (by omega) (c_all hL hY) (Nat.le_of_ble_eq_true rfl) ?_
      refine go_icmp_ge 103 (DL_nearWay.at 7 rfl) (by decide) (fun c12 => absurd c12 (by rw [nI_leI (by omega) (by omega)]; omega)) (fun c12 => ?_)
      refine go_iload_1 (DL_nearWay.at 8 rfl) ?_
      refine go_aload_2 (DL_nearWay.at 9 rfl) ?_
      refine go_cSx2 (DL_nearWay.at 10 rfl) nL_23 vL_group (by omega) (c_group hc hL hY (by omega)) (Nat.le_of_ble_eq_true rfl) ?_
      refine go_bipush (v := nI 9) (DL_nearWay.at 11 rfl) (by decide) ?_
      refine go_icmp_ge 47 (DL_nearWay.at 12 rfl) (by decide) (fun c22 => ?_) (fun c22 => ?_)
      · rw [nI_leI (by omega) (by have := grf_lt (g := aG A) (s := aS A) (c := c) hg4; omega)] at c22
        refine go_iload_5 (DL_nearWay.at 24 rfl) ?_
        refine go_aload_2 (DL_nearWay.at 25 rfl) ?_
        refine go_cSx1 (DL_nearWay.at 26 rfl) nL_10 vL_data (by omega) (c_data hL hY) (Nat.le_of_ble_eq_true rfl) ?_
        refine go_icmp_ge 60 (DL_nearWay.at 27 rfl) (by decide) (fun c53 => ?_) (fun c53 => ?_)
        · rw [nI_leI (by omega) (by omega)] at c53
          have nd : ¬ NdP A c j := fun w => by have w2 := (NdP.glo (by omega)).mp w; omega
          refine go_iconst (v := nI 0) (DL_nearWay.at 30 rfl) (by decide) ?_
          exact t61 _ _ (by first | exact Or.inl ⟨rfl, nd⟩ | exact Or.inr ⟨rfl, nd⟩)
        · rw [nI_leI (by omega) (by omega)] at c53
          have nd : NdP A c j := (NdP.glo (by omega)).mpr (by omega)
          refine go_iconst (v := nI 1) (DL_nearWay.at 28 rfl) (by decide) ?_
          refine go_goto 61 (DL_nearWay.at 29 rfl) (by decide) ?_
          exact t61 _ _ (by first | exact Or.inl ⟨rfl, nd⟩ | exact Or.inr ⟨rfl, nd⟩)
      · rw [nI_leI (by omega) (by have := grf_lt (g := aG A) (s := aS A) (c := c) hg4; omega)] at c22
        refine go_iload_5 (DL_nearWay.at 13 rfl) ?_
        refine go_aload_2 (DL_nearWay.at 14 rfl) ?_
        refine go_cSx2 (DL_nearWay.at 15 rfl) nL_23 vL_group (by omega) (c_group hj20 hL hY (by omega)) (Nat.le_of_ble_eq_true rfl) ?_
        refine go_iload_1 (DL_nearWay.at 16 rfl) ?_
        refine go_aload_2 (DL_nearWay.at 17 rfl) ?_
        refine go_cSx2 (DL_nearWay.at 18 rfl) nL_23 vL_group (by omega) (c_group hc hL hY (by omega)) (Nat.le_of_ble_eq_true rfl) ?_
        refine go_icmp_ne 43 (DL_nearWay.at 19 rfl) (by decide) (fun c36 => ?_) (fun c36 => ?_)
        · rw [nI_eq (by have := grf_lt (g := aG A) (s := aS A) (c := j) hg4; omega) (by have := grf_lt (g := aG A) (s := aS A) (c := c) hg4; omega)] at c36
          have nd : ¬ NdP A c j := fun w => c36 ((NdP.loc (by omega)).mp w)
          refine go_iconst (v := nI 0) (DL_nearWay.at 22 rfl) (by decide) ?_
          refine go_goto 61 (DL_nearWay.at 23 rfl) (by decide) ?_
          exact t61 _ _ (by first | exact Or.inl ⟨rfl, nd⟩ | exact Or.inr ⟨rfl, nd⟩)
        · rw [nI_eq (by have := grf_lt (g := aG A) (s := aS A) (c := j) hg4; omega) (by have := grf_lt (g := aG A) (s := aS A) (c := c) hg4; omega)] at c36
          have nd : NdP A c j := (NdP.loc (by omega)).mpr c36
          refine go_iconst (v := nI 1) (DL_nearWay.at 20 rfl) (by decide) ?_
          refine go_goto 61 (DL_nearWay.at 21 rfl) (by decide) ?_
          exact t61 _ _ (by first | exact Or.inl ⟨rfl, nd⟩ | exact Or.inr ⟨rfl, nd⟩)
  refine go_iconst (v := nI 1) (DL_nearWay.at 0 rfl) (by decide) ?_
  refine go_istore_4 (DL_nearWay.at 1 rfl) ?_
  refine go_iconst (v := nI 0) (DL_nearWay.at 2 rfl) (by decide) ?_
  refine go_istore_5 (DL_nearWay.at 3 rfl) ?_
  exact loop _ 0 _ _ (Nat.zero_add _) (Or.inl ⟨rfl, fun e he => absurd he (Nat.not_lt_zero e)⟩)

theorem c_lreads {t w : Nat} (ht : t < aT A) (hw : w < 4) (hL : LA h ρ) (hR : LR A ρ) (hd : 1 ≤ d) : Calls E mL_reads d 0 0 [.int (nI t), .int (nI w), .ref 52, .ref 54] h (RX (nI (rdN A t w)) h) := by
  refine Calls.of (ls := [some (.int (nI t)), some (.int (nI w)), some (.ref 52), some (.ref 54)]) (by decide +kernel) rfl (Nat.le_of_ble_eq_true rfl) (cat_ok rfl) ?_
  have hA := hR.1
  have hY := hR.2.1
  have hLO := hY.1
  have hT3 : aT A ≤ 3 := hY.2.1
  have hn := hLO.nc
  have hg4 : aG A ≤ 4 := hLO.2.1
  have hg1 : 1 ≤ aG A := hLO.1
  have hs6 : aS A ≤ 6 := hLO.2.2.2.1
  have hs2 : 2 ≤ aS A := hLO.2.2.1
  have hgs : aG A * aS A ≤ 15 := hLO.2.2.2.2.1
  have hH5 : aH A ≤ 5 := hLO.2.2.2.2.2.2.2
  have hT1 : 1 ≤ aT A := hLO.2.2.2.2.2.1
  have en : nc (aG A) (aS A) = aG A * aS A + aG A + 2 := rfl
  have hM20 := hA.m20 ht
  refine go_iload_1 (DL_reads.at 0 rfl) ?_
  refine go_iconst (v := nI 1) (DL_reads.at 1 rfl) (by decide) ?_
  refine go_icmp_ne 11 (DL_reads.at 2 rfl) (by decide) (fun c2 => ?_) (fun c2 => ?_)
  · rw [nI_eq (by omega) (by decide)] at c2
    refine go_iload_1 (DL_reads.at 7 rfl) ?_
    refine go_iconst (v := nI 2) (DL_reads.at 8 rfl) (by decide) ?_
    refine go_icmp_ne 23 (DL_reads.at 9 rfl) (by decide) (fun c13 => ?_) (fun c13 => ?_)
    · rw [nI_eq (by omega) (by decide)] at c13
      refine go_aload_2 (DL_reads.at 13 rfl) ?_
      refine go_cSx1 (DL_reads.at 14 rfl) nL_16 vL_all (by omega) (c_all hL hY) (Nat.le_of_ble_eq_true rfl) ?_
      refine go_aload_3 (DL_reads.at 15 rfl) ?_
      refine go_iload_0 (DL_reads.at 16 rfl) ?_
      refine go_ialdL 2 (DL_reads.at 17 rfl) hL (by decide) (show t < 3 by omega) ?_
      rw [hR.2.2.2.2.2.1 t ht]
      refine go_cSx1 (DL_reads.at 18 rfl) nL_27 vL_ones (by omega) (c_ones hM20) (Nat.le_of_ble_eq_true rfl) ?_
      refine go_isub (DL_reads.at 19 rfl) ?_
      rw [pk_sub (pcn_all hA ht)]
      exact go_iret (DL_reads.at 20 rfl) rfl rfl (RX.mk (by unfold rdN; rw [if_neg c2, if_neg c13]) rfl)
    · rw [nI_eq (by omega) (by decide)] at c13
      refine go_aload_2 (DL_reads.at 10 rfl) ?_
      refine go_cSx1 (DL_reads.at 11 rfl) nL_10 vL_data (by omega) (c_data hL hY) (Nat.le_of_ble_eq_true rfl) ?_
      refine go_goto 34 (DL_reads.at 12 rfl) (by decide) ?_
      exact go_iret (DL_reads.at 20 rfl) rfl rfl (RX.mk (by unfold rdN; rw [if_neg c2, if_pos c13]) rfl)
  · rw [nI_eq (by omega) (by decide)] at c2
    refine go_aload_2 (DL_reads.at 3 rfl) ?_
    refine go_iconst (v := nI 1) (DL_reads.at 4 rfl) (by decide) ?_
    refine go_ialdL 0 (DL_reads.at 5 rfl) hL (by decide) (show 1 < 9 by decide) ?_
    rw [hY.2.2.2.1]
    refine go_goto 34 (DL_reads.at 6 rfl) (by decide) ?_
    exact go_iret (DL_reads.at 20 rfl) rfl rfl (RX.mk (by unfold rdN; rw [if_pos c2]) rfl)

theorem c_isWay {t c : Nat} (ht : t < aT A) (hc : c < nc (aG A) (aS A)) (hb : bit (aM A t) c) (hK : Cw A) (eA : zA Z = A) (hZ : CZ (fun j => h[j]?) Z h 0) (hL : LA h ρ) (hR : LR A ρ) (hd : 6 ≤ d) : Calls E mL_isWay d 0 0 [.ref 0, .int (nI t), .int (nI c), .ref 52, .ref 53, .ref 54] h (RI (fun r h' => r = nI 1 ∧ CZ (fun j => h[j]?) Z h' 0)) := by
  refine Calls.of (ls := [some (.ref 0), some (.int (nI t)), some (.int (nI c)), some (.ref 52), some (.ref 53), some (.ref 54), none, none]) (by decide +kernel) rfl (Nat.le_of_ble_eq_true rfl) (cat_ok rfl) ?_
  have hA := hR.1
  have hY := hR.2.1
  have hLO := hY.1
  have hT3 : aT A ≤ 3 := hY.2.1
  have hn := hLO.nc
  have hg4 : aG A ≤ 4 := hLO.2.1
  have hg1 : 1 ≤ aG A := hLO.1
  have hs6 : aS A ≤ 6 := hLO.2.2.2.1
  have hs2 : 2 ≤ aS A := hLO.2.2.1
  have hgs : aG A * aS A ≤ 15 := hLO.2.2.2.2.1
  have hH5 : aH A ≤ 5 := hLO.2.2.2.2.2.2.2
  have hT1 : 1 ≤ aT A := hLO.2.2.2.2.2.1
  have en : nc (aG A) (aS A) = aG A * aS A + aG A + 2 := rfl
  obtain ⟨n0, k0, o0⟩ := hZ.obj
  rcases way_cases A t c with ⟨w, src, X, hw⟩ | hw
  · have hw3 := hw.w
    have eX := hw.val hA hK ht hc hb
    subst eX
    refine go_aload_0 (DL_isWay.at 0 rfl) ?_
    refine go_iload_1 (DL_isWay.at 1 rfl) ?_
    refine go_iload_2 (DL_isWay.at 2 rfl) ?_
    refine go_cVi2 (DL_isWay.at 3 rfl) nL_31 vX5_way (by omega) (z_way hZ (by omega)) o0 rfl (Nat.le_of_ble_eq_true rfl) (fun x3 h3 q3 => ?_)
    obtain ⟨e3, Z3⟩ := q3
    rw [eA, asF_s hA ht hc hb hw] at e3
    subst e3
    have L3 := hL.cz Z3
    obtain ⟨n3, k3, o3⟩ := Z3.obj
    refine go_istore_6 (DL_isWay.at 4 rfl) ?_
    refine go_iload_1 (DL_isWay.at 5 rfl) ?_
    refine go_iload_2 (DL_isWay.at 6 rfl) ?_
    refine go_aload_3 (DL_isWay.at 7 rfl) ?_
    refine go_aload_5 (DL_isWay.at 8 rfl) ?_
    refine go_cSx4 (DL_isWay.at 9 rfl) nL_36 vL_nearWay (by omega) (c_nearWay ht hc L3 hR (by omega)) (Nat.le_of_ble_eq_true rfl) ?_
    rw [hw.nr]
    refine go_istore_7 (DL_isWay.at 10 rfl) ?_
    refine go_iload_7 (DL_isWay.at 11 rfl) ?_
    refine go_iconst (v := nI 3) (DL_isWay.at 12 rfl) (by decide) ?_
    refine go_icmp_ge 34 (DL_isWay.at 13 rfl) (by decide) (fun c21 => ?_) (fun c21 => ?_)
    · rw [nI_leI (by decide) (by omega)] at c21
      have e3w : w = 3 := by omega
      subst e3w
      refine go_iload_6 (DL_isWay.at 18 rfl) ?_
      refine go_if_eq 47 (DL_isWay.at 19 rfl) (by decide) (fun c36 => absurd c36 (by decide)) (fun c36 => ?_)
      refine go_iload_6 (DL_isWay.at 20 rfl) ?_
      refine go_iconst (v := nI 3) (DL_isWay.at 21 rfl) (by decide) ?_
      refine go_icmp_eq 47 (DL_isWay.at 22 rfl) (by decide) (fun c42 => ?_) (fun c42 => absurd rfl c42)
      refine go_aload_0 (DL_isWay.at 25 rfl) ?_
      refine go_iload_1 (DL_isWay.at 26 rfl) ?_
      refine go_iload_2 (DL_isWay.at 27 rfl) ?_
      refine go_cVi2 (DL_isWay.at 28 rfl) nL_40 vX5_reads (by omega) (z_reads Z3 (by omega)) o3 rfl (Nat.le_of_ble_eq_true rfl) (fun x50 h50 q50 => ?_)
      obtain ⟨e50, Z50⟩ := q50
      rw [eA, asF_s hA ht hc hb hw] at e50
      subst e50
      have L50 := hL.cz Z50
      obtain ⟨n50, k50, o50⟩ := Z50.obj
      refine go_iload_6 (DL_isWay.at 29 rfl) ?_
      refine go_if_ne 63 (DL_isWay.at 30 rfl) (by decide) (fun c55 => ?_) (fun c55 => absurd ((nI_eq0 (by omega)).mp c55) (by omega))
      refine go_iload_1 (DL_isWay.at 33 rfl) ?_
      refine go_iload_6 (DL_isWay.at 34 rfl) ?_
      refine go_aload_3 (DL_isWay.at 35 rfl) ?_
      refine go_aload_5 (DL_isWay.at 36 rfl) ?_
      refine go_cSx4 (DL_isWay.at 37 rfl) nL_43 vL_reads (by omega) (c_lreads ht (by omega) L50 hR (by omega)) (Nat.le_of_ble_eq_true rfl) ?_
      rw [← hw.cnt hA ht hc]
      refine go_icmp_ne 107 (DL_isWay.at 38 rfl) (by decide) (fun c72 => absurd rfl c72) (fun c72 => ?_)
      refine go_aload_0 (DL_isWay.at 39 rfl) ?_
      refine go_iload_1 (DL_isWay.at 40 rfl) ?_
      refine go_iload_2 (DL_isWay.at 41 rfl) ?_
      refine go_cVi2 (DL_isWay.at 42 rfl) nL_45 vX5_mended (by omega) (z_mended Z50 (by omega)) o50 rfl (Nat.le_of_ble_eq_true rfl) (fun x78 h78 q78 => ?_)
      obtain ⟨e78, Z78⟩ := q78
      rw [eA, asF_s hA ht hc hb hw] at e78
      subst e78
      have L78 := hL.cz Z78
      refine go_iload_6 (DL_isWay.at 43 rfl) ?_
      refine go_if_ne 91 (DL_isWay.at 44 rfl) (by decide) (fun c83 => ?_) (fun c83 => absurd ((nI_eq0 (by omega)).mp c83) (by omega))
      refine go_aload_4 (DL_isWay.at 47 rfl) ?_
      refine go_bipush (v := nI 20) (DL_isWay.at 48 rfl) (by decide) ?_
      refine go_iload_1 (DL_isWay.at 49 rfl) ?_
      refine go_imul (DL_isWay.at 50 rfl) ?_
      rw [pk_mul]
      refine go_iload_2 (DL_isWay.at 51 rfl) ?_
      refine go_iadd (DL_isWay.at 52 rfl) ?_
      rw [nI_add]
      refine go_ialdL 1 (DL_isWay.at 53 rfl) L78 (by decide) (show 20 * t + c < 60 by omega) ?_
      rw [hR.2.2.2.2.1 t ht c hc]
      refine go_icmp_ne 107 (DL_isWay.at 54 rfl) (by decide) (fun c100 => absurd rfl c100) (fun c100 => ?_)
      refine go_iconst (v := nI 1) (DL_isWay.at 55 rfl) (by decide) ?_
      refine go_goto 108 (DL_isWay.at 56 rfl) (by decide) ?_
      exact go_iret (DL_isWay.at 58 rfl) rfl rfl (RI.mk ⟨rfl, Z78⟩)
    · rw [nI_leI (by decide) (by omega)] at c21
      refine go_iload_6 (DL_isWay.at 14 rfl) ?_
      refine go_iload_7 (DL_isWay.at 15 rfl) ?_
      refine go_icmp_eq 47 (DL_isWay.at 16 rfl) (by decide) (fun c28 => ?_) (fun c28 => absurd rfl c28)
      refine go_aload_0 (DL_isWay.at 25 rfl) ?_
      refine go_iload_1 (DL_isWay.at 26 rfl) ?_
      refine go_iload_2 (DL_isWay.at 27 rfl) ?_
      refine go_cVi2 (DL_isWay.at 28 rfl) nL_40 vX5_reads (by omega) (z_reads Z3 (by omega)) o3 rfl (Nat.le_of_ble_eq_true rfl) (fun x50 h50 q50 => ?_)
      obtain ⟨e50, Z50⟩ := q50
      rw [eA, asF_s hA ht hc hb hw] at e50
      subst e50
      have L50 := hL.cz Z50
      obtain ⟨n50, k50, o50⟩ := Z50.obj
      refine go_iload_6 (DL_isWay.at 29 rfl) ?_
      refine go_if_ne 63 (DL_isWay.at 30 rfl) (by decide) (fun c55 => ?_) (fun c55 => absurd ((nI_eq0 (by omega)).mp c55) (by omega))
      refine go_iload_1 (DL_isWay.at 33 rfl) ?_
      refine go_iload_6 (DL_isWay.at 34 rfl) ?_
      refine go_aload_3 (DL_isWay.at 35 rfl) ?_
      refine go_aload_5 (DL_isWay.at 36 rfl) ?_
      refine go_cSx4 (DL_isWay.at 37 rfl) nL_43 vL_reads (by omega) (c_lreads ht (by omega) L50 hR (by omega)) (Nat.le_of_ble_eq_true rfl) ?_
      rw [← hw.cnt hA ht hc]
      refine go_icmp_ne 107 (DL_isWay.at 38 rfl) (by decide) (fun c72 => absurd rfl c72) (fun c72 => ?_)
      refine go_aload_0 (DL_isWay.at 39 rfl) ?_
      refine go_iload_1 (DL_isWay.at 40 rfl) ?_
      refine go_iload_2 (DL_isWay.at 41 rfl) ?_
      refine go_cVi2 (DL_isWay.at 42 rfl) nL_45 vX5_mended (by omega) (z_mended Z50 (by omega)) o50 rfl (Nat.le_of_ble_eq_true rfl) (fun x78 h78 q78 => ?_)
      obtain ⟨e78, Z78⟩ := q78
      rw [eA, asF_s hA ht hc hb hw] at e78
      subst e78
      have L78 := hL.cz Z78
      refine go_iload_6 (DL_isWay.at 43 rfl) ?_
      refine go_if_ne 91 (DL_isWay.at 44 rfl) (by decide) (fun c83 => ?_) (fun c83 => absurd ((nI_eq0 (by omega)).mp c83) (by omega))
      refine go_aload_4 (DL_isWay.at 47 rfl) ?_
      refine go_bipush (v := nI 20) (DL_isWay.at 48 rfl) (by decide) ?_
      refine go_iload_1 (DL_isWay.at 49 rfl) ?_
      refine go_imul (DL_isWay.at 50 rfl) ?_
      rw [pk_mul]
      refine go_iload_2 (DL_isWay.at 51 rfl) ?_
      refine go_iadd (DL_isWay.at 52 rfl) ?_
      rw [nI_add]
      refine go_ialdL 1 (DL_isWay.at 53 rfl) L78 (by decide) (show 20 * t + c < 60 by omega) ?_
      rw [hR.2.2.2.2.1 t ht c hc]
      refine go_icmp_ne 107 (DL_isWay.at 54 rfl) (by decide) (fun c100 => absurd rfl c100) (fun c100 => ?_)
      refine go_iconst (v := nI 1) (DL_isWay.at 55 rfl) (by decide) ?_
      refine go_goto 108 (DL_isWay.at 56 rfl) (by decide) ?_
      exact go_iret (DL_isWay.at 58 rfl) rfl rfl (RI.mk ⟨rfl, Z78⟩)
  · refine go_aload_0 (DL_isWay.at 0 rfl) ?_
    refine go_iload_1 (DL_isWay.at 1 rfl) ?_
    refine go_iload_2 (DL_isWay.at 2 rfl) ?_
    refine go_cVi2 (DL_isWay.at 3 rfl) nL_31 vX5_way (by omega) (z_way hZ (by omega)) o0 rfl (Nat.le_of_ble_eq_true rfl) (fun x3 h3 q3 => ?_)
    obtain ⟨e3, Z3⟩ := q3
    rw [eA, asF_0 hA ht hc hb hw] at e3
    subst e3
    have L3 := hL.cz Z3
    obtain ⟨n3, k3, o3⟩ := Z3.obj
    refine go_istore_6 (DL_isWay.at 4 rfl) ?_
    refine go_iload_1 (DL_isWay.at 5 rfl) ?_
    refine go_iload_2 (DL_isWay.at 6 rfl) ?_
    refine go_aload_3 (DL_isWay.at 7 rfl) ?_
    refine go_aload_5 (DL_isWay.at 8 rfl) ?_
    refine go_cSx4 (DL_isWay.at 9 rfl) nL_36 vL_nearWay (by omega) (c_nearWay ht hc L3 hR (by omega)) (Nat.le_of_ble_eq_true rfl) ?_
    rw [nrN_0 hA hK ht hc hw]
    refine go_istore_7 (DL_isWay.at 10 rfl) ?_
    refine go_iload_7 (DL_isWay.at 11 rfl) ?_
    refine go_iconst (v := nI 3) (DL_isWay.at 12 rfl) (by decide) ?_
    refine go_icmp_ge 34 (DL_isWay.at 13 rfl) (by decide) (fun c21 => ?_) (fun c21 => absurd (Int32.le_refl _) c21)
    refine go_iload_6 (DL_isWay.at 18 rfl) ?_
    refine go_if_eq 47 (DL_isWay.at 19 rfl) (by decide) (fun c36 => ?_) (fun c36 => absurd rfl c36)
    refine go_aload_0 (DL_isWay.at 25 rfl) ?_
    refine go_iload_1 (DL_isWay.at 26 rfl) ?_
    refine go_iload_2 (DL_isWay.at 27 rfl) ?_
    refine go_cVi2 (DL_isWay.at 28 rfl) nL_40 vX5_reads (by omega) (z_reads Z3 (by omega)) o3 rfl (Nat.le_of_ble_eq_true rfl) (fun x50 h50 q50 => ?_)
    obtain ⟨e50, Z50⟩ := q50
    rw [eA, asF_0 hA ht hc hb hw] at e50
    subst e50
    have L50 := hL.cz Z50
    obtain ⟨n50, k50, o50⟩ := Z50.obj
    refine go_iload_6 (DL_isWay.at 29 rfl) ?_
    refine go_if_ne 63 (DL_isWay.at 30 rfl) (by decide) (fun c55 => absurd rfl c55) (fun c55 => ?_)
    refine go_bipush (v := (-4)) (DL_isWay.at 31 rfl) (by decide) ?_
    refine go_goto 72 (DL_isWay.at 32 rfl) (by decide) ?_
    refine go_icmp_ne 107 (DL_isWay.at 38 rfl) (by decide) (fun c72 => absurd rfl c72) (fun c72 => ?_)
    refine go_aload_0 (DL_isWay.at 39 rfl) ?_
    refine go_iload_1 (DL_isWay.at 40 rfl) ?_
    refine go_iload_2 (DL_isWay.at 41 rfl) ?_
    refine go_cVi2 (DL_isWay.at 42 rfl) nL_45 vX5_mended (by omega) (z_mended Z50 (by omega)) o50 rfl (Nat.le_of_ble_eq_true rfl) (fun x78 h78 q78 => ?_)
    obtain ⟨e78, Z78⟩ := q78
    rw [eA, asF_0 hA ht hc hb hw] at e78
    subst e78
    have L78 := hL.cz Z78
    refine go_iload_6 (DL_isWay.at 43 rfl) ?_
    refine go_if_ne 91 (DL_isWay.at 44 rfl) (by decide) (fun c83 => absurd rfl c83) (fun c83 => ?_)
    refine go_bipush (v := (-4)) (DL_isWay.at 45 rfl) (by decide) ?_
    refine go_goto 100 (DL_isWay.at 46 rfl) (by decide) ?_
    refine go_icmp_ne 107 (DL_isWay.at 54 rfl) (by decide) (fun c100 => absurd rfl c100) (fun c100 => ?_)
    refine go_iconst (v := nI 1) (DL_isWay.at 55 rfl) (by decide) ?_
    refine go_goto 108 (DL_isWay.at 56 rfl) (by decide) ?_
    exact go_iret (DL_isWay.at 58 rfl) rfl rfl (RI.mk ⟨rfl, Z78⟩)

end LM
