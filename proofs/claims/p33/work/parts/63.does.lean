/-! WHAT A CALL DOES, to the law's own store too -/
noncomputable def stp (A : Ab) (R : Int32 × Ab) : Ab := cI (R.1 < 0) A R.2
theorem stp_n {A A2 : Ab} {x : Int32} (h : x < 0) : stp A (x, A2) = A := cI_t h
theorem stp_y {A A2 : Ab} {x : Int32} (h : ¬ x < 0) : stp A (x, A2) = A2 := cI_f h
theorem chZ_A {Z : Zt} {R : Int32 × Ab} : zA (chZ Z R).2 = stp (zA Z) R := by
  by_cases h : R.1 < 0
  · rw [chZ_no h]
    exact (cI_t h).symm
  · rw [chZ_yes h]
    exact (cI_f h).symm
theorem wr_1 {A : Ab} {t : Nat} {z : Int32} (hA : AOK A) : wrF A (nI t) (nI (aG A * aS A)) z = (-1, A) := by
  have hg : aG A * aS A ≤ 15 := hA.1.2.2.2.2.1
  exact cI_f (fun q => absurd ((inR_nI (by omega) (by omega)).mp q.2) (Nat.lt_irrefl _))
theorem in16 {v : Nat} (hv : v < 16) : inR (nI v) 16 := (inR_nI (by omega) (by decide)).mpr hv
theorem wr_4 {A : Ab} {t c v : Nat} (hA : AOK A) (ht : t < aT A) (hc : c < aG A * aS A) (hv : v < 16) (hM : ¬ aM A t = 0) : wrF A (nI t) (nI c) (nI v) = (-4, A) := by
  rw [wrF_in hA ht hc, cI_t (in16 hv), cI_f hM]
theorem wr_5 {A : Ab} {t c v : Nat} (hA : AOK A) (ht : t < aT A) (hc : c < aG A * aS A) (hv : v < 16) (hM : aM A t = 0) (e : aV A t c = v) : wrF A (nI t) (nI c) (nI v) = (-5, A) := by
  rw [wrF_in hA ht hc, cI_t (in16 hv), cI_t hM, nI_cl (by omega), cI_t e]
theorem wr_ok {A : Ab} {t c v : Nat} (hA : AOK A) (ht : t < aT A) (hc : c < aG A * aS A) (hv : v < 16) (hM : aM A t = 0) (e : ¬ aV A t c = v) : wrF A (nI t) (nI c) (nI v) = (nI (aV A t c), aWrt A t c v) := by
  rw [wrF_in hA ht hc, cI_t (in16 hv), cI_t hM, nI_cl (by omega), cI_f e]
theorem lo_b {A : Ab} {t c : Nat} (hA : AOK A) (ht : t < aT A) (hc : c < nc (aG A) (aS A)) (hb : bit (aM A t) c) : loF A (nI t) (nI c) = (-5, A) := by
  rw [loF_in hA ht hc, cI_t hb]
theorem lo_n {A : Ab} {t c : Nat} (hA : AOK A) (ht : t < aT A) (hc : c < nc (aG A) (aS A)) (hb : ¬ bit (aM A t) c) : loF A (nI t) (nI c) = (nI ((aQ A).length + 1), aLos A t c) := by
  rw [loF_in hA ht hc, cI_f hb]
theorem md_n {A : Ab} {t c : Nat} (hA : AOK A) (ht : t < aT A) (hc : c < nc (aG A) (aS A)) (hb : ¬ bit (aM A t) c) : mdF A (nI t) (nI c) = (-5, A) := by
  rw [mdF_in hA ht hc, cI_f hb]
theorem md_0 {A : Ab} {t c : Nat} (hA : AOK A) (ht : t < aT A) (hc : c < nc (aG A) (aS A)) (hb : bit (aM A t) c) (hw : wyF A t c = none) : mdF A (nI t) (nI c) = (-4, A) := by
  rw [mdF_in hA ht hc, cI_t hb, mdA_0 hw]
theorem md_s {A : Ab} {t c w src X : Nat} (hA : AOK A) (ht : t < aT A) (hc : c < nc (aG A) (aS A)) (hb : bit (aM A t) c) (hw : WyX A t c w src X) : mdF A (nI t) (nI c) = (nI (pcn src 20), aMnd A t c w src X) := by
  rw [mdF_in hA ht hc, cI_t hb, mdA_s hw]
theorem wk_e {A : Ab} (h : aQ A = []) : wkF A (nI 1) = (-5, A) := by
  unfold wkF
  rw [cI_t ⟨Int32.le_refl _, by decide⟩, cI_t h]
theorem wk_0 {A : Ab} {x : Nat} {l : List Nat} (h : aQ A = x :: l) (hw : wyF A (x / 20) (x % 20) = none) : wkF A (nI 1) = (nI 0, aRot A) := by
  unfold wkF
  rw [cI_t ⟨Int32.le_refl _, by decide⟩, cI_f (by rw [h]; exact List.cons_ne_nil _ _), nI_cl (by decide), wkG_n h hw]
  rfl
theorem wk_s {A : Ab} {x w src X : Nat} {l : List Nat} (h : aQ A = x :: l) (hw : WyX A (x / 20) (x % 20) w src X) : wkF A (nI 1) = (nI 1, aMnd A (x / 20) (x % 20) w src X) := by
  unfold wkF
  rw [cI_t ⟨Int32.le_refl _, by decide⟩, cI_f (by rw [h]; exact List.cons_ne_nil _ _), nI_cl (by decide), wkG_s h hw]
  rfl
theorem nd_out {A : Ab} (hA : AOK A) : ¬ inR (nI (nc (aG A) (aS A))) (nc (aG A) (aS A)) := by
  have hn := hA.1.nc
  exact fun q => absurd ((inR_nI (by omega) (by omega)).mp q) (Nat.lt_irrefl _)
theorem ls_out {A : Ab} (hA : AOK A) : lsF A (nI (nc (aG A) (aS A))) = (-1, A) := cI_f (nd_out hA)
theorem ls_in {A : Ab} {nd : Nat} (hA : AOK A) (hnd : nd < nc (aG A) (aS A)) : lsF A (nI nd) = (cnI (lnC A nd (aT A) 0), (lnG nd (aT A) 0 A).2) := by
  have hn := hA.1.nc
  unfold lsF
  rw [cI_t ((inR_nI (by omega) (by omega)).mpr hnd), nI_cl (by omega), lnG_c (aT A) 0 A Ag.rf]
theorem mn_out {A : Ab} (hA : AOK A) : mnF A (nI (nc (aG A) (aS A))) = (-1, A) := cI_f (nd_out hA)
theorem mn_n {A : Ab} {nd : Nat} (hA : AOK A) (hK : Cw A) (hnd : nd < nc (aG A) (aS A)) (h : mnC A nd (aT A) 0 = none) : mnF A (nI nd) = (-4, A) := by
  have hn := hA.1.nc
  have e := mnG_c (nd := nd) (aT A) 0 A hA hK Ag.rf (by omega)
  rw [h] at e
  unfold mnF
  rw [cI_t ((inR_nI (by omega) (by omega)).mpr hnd), nI_cl (by omega)]
  cases e2 : mnG nd (aT A) 0 A with
  | none => rfl
  | some r =>
    rw [e2] at e
    cases e
theorem mn_s {A : Ab} {nd s : Nat} (hA : AOK A) (hK : Cw A) (hnd : nd < nc (aG A) (aS A)) (h : mnC A nd (aT A) 0 = some s) : ∃ F, mnG nd (aT A) 0 A = some (s, F) ∧ mnF A (nI nd) = (cnI s, F) := by
  have hn := hA.1.nc
  have e := mnG_c (nd := nd) (aT A) 0 A hA hK Ag.rf (by omega)
  rw [h] at e
  cases e2 : mnG nd (aT A) 0 A with
  | none =>
    rw [e2] at e
    cases e
  | some r =>
    rw [e2] at e
    have e3 : r.1 = s := Option.some.inj e
    refine ⟨r.2, by rw [← e3], ?_⟩
    unfold mnF
    rw [cI_t ((inR_nI (by omega) (by omega)).mpr hnd), nI_cl (by omega), e2, ← e3]
theorem LR.rot {A : Ab} {ρ ρ' : Nat → Nat → Int32} {y : Nat} {l : List Nat} (hR : LR A ρ) (hq : aQ A = y :: l) (e3 : ∀ i x, (l ++ [y])[i]? = some x → ρ' 3 i = nI x) (e0 : ∀ k, k < 9 → ρ' 0 k = ρ 0 k) (eo : ∀ a, a ≠ 0 → a ≠ 3 → ρ' a = ρ a) : LR (aRot A) ρ' := by
  obtain ⟨hA, hY, hq4, hK, hV, hM, hQ, hD⟩ := hR
  have er : aQ (aRot A) = l ++ [y] := by
    show (aQ A).tail ++ [(aQ A).headD 0] = _
    rw [hq]
    rfl
  refine ⟨aRot_ok hA (by rw [hq]; exact List.cons_ne_nil _ _), hY.up (fun k hk => e0 k (by omega)), ?_, fun k hk => (e0 (5 + k) (by omega)).trans (hK k hk), fun t ht c hc => ?_, fun t ht => ?_, fun i x hx => ?_, fun j hj => ?_⟩
  · rw [e0 4 (by decide), hq4, er, hq, List.length_append]
    rfl
  · rw [eo 1 (by decide) (by decide)]
    exact hV t ht c hc
  · rw [eo 2 (by decide) (by decide)]
    exact hM t ht
  · rw [er] at hx
    exact e3 i x hx
  · rw [eo 4 (by decide) (by decide)]
    exact hD j hj
/-- behind a call -/
def DP (A : Ab) (h : List va_E) (R : Int32 × Ab) : Int32 → List va_E → Prop := fun r h' => r = nI 1 ∧ Only 52 59 h h' ∧ ∃ ρ', LA h' ρ' ∧ LR (stp A R) ρ'
section LM
variable {E : AEnv} {d : Nat} {h h' h0 : List va_E} {ρ ρ' : Nat → Nat → Int32} {A : Ab} {Z : Zt} {G : Nat → Option va_E}
theorem c_does0 {t c v : Nat} {tl : Int32} (ht : t < aT A) (hc : c ≤ aG A * aS A) (hv : v < 16) (htl : tl = (opR A 0 t c v).1) (h60 : ρ 6 0 = nI 0) (h61 : ρ 6 1 = nI t) (h62 : ρ 6 2 = nI c) (h63 : ρ 6 3 = nI v) (hK : Cw A) (hL : LA h ρ) (hR : LR A ρ) (hd : 3 ≤ d) : Calls E mL_does d 0 0 [.int tl, .ref 57, .ref 58, .ref 52, .ref 53, .ref 54, .ref 55, .ref 56] h (RI (DP A h (opR A 0 t c v))) := by
  refine Calls.of (ls := [some (.int tl), some (.ref 57), some (.ref 58), some (.ref 52), some (.ref 53), some (.ref 54), some (.ref 55), some (.ref 56), none, none, none, none, none, none]) (by decide +kernel) rfl (Nat.le_of_ble_eq_true rfl) (cat_ok rfl) ?_
  have hA := hR.1
  have hY := hR.2.1
  have hLO := hY.1
  have hT3 : aT A ≤ 3 := hY.2.1
  have hn := hLO.nc
  have hg4 : aG A ≤ 4 := hLO.2.1
  have hg1 : 1 ≤ aG A := hLO.1
  have hs6 : aS A ≤ 6 := hLO.2.2.2.1
  have hs2 : 2 ≤ aS A := hLO.2.2.1
  have hgs : aG A * aS A ≤ 15 := hLO.2.2.2.2.1
  have hH5 : aH A ≤ 5 := hLO.2.2.2.2.2.2.2
  have hT1 : 1 ≤ aT A := hLO.2.2.2.2.2.1
  have en : nc (aG A) (aS A) = aG A * aS A + aG A + 2 := rfl
  have hM20 := hA.m20 ht
  have t24 : ∀ b : Int32, ((b = nI 1 ∧ c < nc (aG A) (aS A)) ∨ (b = nI 0 ∧ ¬ c < nc (aG A) (aS A))) → Go E mL_does d 0 0 24 [some (.int tl), some (.ref 57), some (.ref 58), some (.ref 52), some (.ref 53), some (.ref 54), some (.ref 55), some (.ref 56), some (.int (nI t)), some (.int (nI c)), none, none, none, none] [.int b] h (RI (DP A h (opR A 0 t c v))) := by
    intro b hb
    have tn : ∀ x : Int32, x < 0 → (tl = x ∧ stp A (opR A 0 t c v) = A) → Go E mL_does d 0 0 94 [some (.int tl), some (.ref 57), some (.ref 58), some (.ref 52), some (.ref 53), some (.ref 54), some (.ref 55), some (.ref 56), some (.int (nI t)), some (.int (nI c)), some (.int b), some (.int (nI 0)), none, none] [.int x] h (RI (DP A h (opR A 0 t c v))) := by
      intro x hx eN
      refine go_istore_11 (DL_does.at 54 rfl) ?_
      refine go_iload_11 (DL_does.at 55 rfl) ?_
      refine go_if_lt 460 (DL_does.at 56 rfl) (by decide) (fun c98 => ?_) (fun c98 => absurd hx c98)
      refine go_iload_0 (DL_does.at 261 rfl) ?_
      refine go_iload_11 (DL_does.at 262 rfl) ?_
      refine go_icmp_ne 470 (DL_does.at 263 rfl) (by decide) (fun c463 => absurd eN.1 c463) (fun c463 => ?_)
      refine go_iconst (v := nI 1) (DL_does.at 264 rfl) (by decide) ?_
      refine go_goto 471 (DL_does.at 265 rfl) (by decide) ?_
      exact go_iret (DL_does.at 267 rfl) rfl rfl (RI.mk ⟨rfl, Only.rf, ρ, hL, by rw [eN.2]; exact hR⟩)
    have tp : (c < aG A * aS A ∧ aM A t = 0 ∧ ¬ aV A t c = v) → Go E mL_does d 0 0 94 [some (.int tl), some (.ref 57), some (.ref 58), some (.ref 52), some (.ref 53), some (.ref 54), some (.ref 55), some (.ref 56), some (.int (nI t)), some (.int (nI c)), some (.int b), some (.int (nI 0)), none, none] [.int (nI (aV A t c))] h (RI (DP A h (opR A 0 t c v))) := by
      rintro ⟨hc2, c53, c75⟩
      have eR := wr_ok hA ht hc2 hv c53 c75
      refine go_istore_11 (DL_does.at 54 rfl) ?_
      refine go_iload_11 (DL_does.at 55 rfl) ?_
      refine go_if_lt 460 (DL_does.at 56 rfl) (by decide) (fun c98 => absurd c98 (nI_pos (by have := hA.2.2.1 t c; omega))) (fun c98 => ?_)
      refine go_iload_8 (DL_does.at 57 rfl) ?_
      refine go_iload_9 (DL_does.at 58 rfl) ?_
      refine go_aload_2 (DL_does.at 59 rfl) ?_
      refine go_iconst (v := nI 3) (DL_does.at 60 rfl) (by decide) ?_
      refine go_ialdL 6 (DL_does.at 61 rfl) hL (by decide) (show 3 < 4 by decide) ?_
      rw [h63]
      refine go_aload_3 (DL_does.at 62 rfl) ?_
      refine go_aload_4 (DL_does.at 63 rfl) ?_
      refine go_cSv5 (DL_does.at 64 rfl) nL_113 vL_write (by omega) (c_lwrite ht hc2 hv hL hR (by omega)) (Nat.le_of_ble_eq_true rfl) (fun h111 q111 => ?_)
      obtain ⟨O1, ρ1, L1, R1, -, -⟩ := q111
      refine go_goto 460 (DL_does.at 65 rfl) (by decide) ?_
      refine go_iload_0 (DL_does.at 261 rfl) ?_
      refine go_iload_11 (DL_does.at 262 rfl) ?_
      refine go_icmp_ne 470 (DL_does.at 263 rfl) (by decide) (fun c463 => absurd (by rw [htl, opR_0, eR]) c463) (fun c463 => ?_)
      refine go_iconst (v := nI 1) (DL_does.at 264 rfl) (by decide) ?_
      refine go_goto 471 (DL_does.at 265 rfl) (by decide) ?_
      exact go_iret (DL_does.at 267 rfl) rfl rfl (RI.mk ⟨rfl, O1, ρ1, L1, by rw [opR_0, eR, stp_y (nI_pos (by have := hA.2.2.1 t c; omega))]; exact R1⟩)
    refine go_istore_10 (DL_does.at 15 rfl) ?_
    refine go_iconst (v := nI 0) (DL_does.at 16 rfl) (by decide) ?_
    refine go_istore_11 (DL_does.at 17 rfl) ?_
    refine go_aload_2 (DL_does.at 18 rfl) ?_
    refine go_iconst (v := nI 0) (DL_does.at 19 rfl) (by decide) ?_
    refine go_ialdL 6 (DL_does.at 20 rfl) hL (by decide) (show 0 < 4 by decide) ?_
    rw [h60]
    refine go_if_ne 117 (DL_does.at 21 rfl) (by decide) (fun c32 => absurd (show nI 0 = 0 by decide) c32) (fun c32 => ?_)
    refine go_iload_9 (DL_does.at 22 rfl) ?_
    refine go_aload_3 (DL_does.at 23 rfl) ?_
    refine go_cSx1 (DL_does.at 24 rfl) nL_10 vL_data (by omega) (c_data hL hY) (Nat.le_of_ble_eq_true rfl) ?_
    refine go_icmp_ne 48 (DL_does.at 25 rfl) (by decide) (fun c41 => ?_) (fun c41 => ?_)
    · rw [nI_eq (by omega) (by omega)] at c41
      have hc2 : c < aG A * aS A := by omega
      refine go_aload_5 (DL_does.at 28 rfl) ?_
      refine go_iload_8 (DL_does.at 29 rfl) ?_
      refine go_ialdL 2 (DL_does.at 30 rfl) hL (by decide) (show t < 3 by omega) ?_
      rw [hR.2.2.2.2.2.1 t ht]
      refine go_if_eq 61 (DL_does.at 31 rfl) (by decide) (fun c53 => ?_) (fun c53 => ?_)
      · rw [nI_eq0 (by omega)] at c53
        refine go_aload_4 (DL_does.at 34 rfl) ?_
        refine go_bipush (v := nI 20) (DL_does.at 35 rfl) (by decide) ?_
        refine go_iload_8 (DL_does.at 36 rfl) ?_
        refine go_imul (DL_does.at 37 rfl) ?_
        rw [pk_mul]
        refine go_iload_9 (DL_does.at 38 rfl) ?_
        refine go_iadd (DL_does.at 39 rfl) ?_
        rw [nI_add]
        refine go_ialdL 1 (DL_does.at 40 rfl) hL (by decide) (show 20 * t + c < 60 by omega) ?_
        rw [hR.2.2.2.2.1 t ht c (show c < nc (aG A) (aS A) by omega)]
        refine go_aload_2 (DL_does.at 41 rfl) ?_
        refine go_iconst (v := nI 3) (DL_does.at 42 rfl) (by decide) ?_
        refine go_ialdL 6 (DL_does.at 43 rfl) hL (by decide) (show 3 < 4 by decide) ?_
        rw [h63]
        refine go_icmp_ne 83 (DL_does.at 44 rfl) (by decide) (fun c75 => ?_) (fun c75 => ?_)
        · rw [nI_eq (by have := hA.2.2.1 t c; omega) (by omega)] at c75
          have eP := And.intro hc2 (And.intro c53 c75)
          refine go_aload_4 (DL_does.at 47 rfl) ?_
          refine go_bipush (v := nI 20) (DL_does.at 48 rfl) (by decide) ?_
          refine go_iload_8 (DL_does.at 49 rfl) ?_
          refine go_imul (DL_does.at 50 rfl) ?_
          rw [pk_mul]
          refine go_iload_9 (DL_does.at 51 rfl) ?_
          refine go_iadd (DL_does.at 52 rfl) ?_
          rw [nI_add]
          refine go_ialdL 1 (DL_does.at 53 rfl) hL (by decide) (show 20 * t + c < 60 by omega) ?_
          rw [hR.2.2.2.2.1 t ht c (show c < nc (aG A) (aS A) by omega)]
          first | exact tn _ (by decide) eP | exact tp eP
        · rw [nI_eq (by have := hA.2.2.1 t c; omega) (by omega)] at c75
          have eR := wr_5 hA ht hc2 hv c53 c75
          have eN : tl = (-5) ∧ stp A (opR A 0 t c v) = A := by rw [htl, opR_0, eR]; exact ⟨rfl, stp_n (by decide)⟩
          have eP := eN
          refine go_bipush (v := (-5)) (DL_does.at 45 rfl) (by decide) ?_
          refine go_goto 94 (DL_does.at 46 rfl) (by decide) ?_
          first | exact tn _ (by decide) eP | exact tp eP
      · rw [nI_eq0 (by omega)] at c53
        have eR := wr_4 hA ht hc2 hv c53
        have eN : tl = (-4) ∧ stp A (opR A 0 t c v) = A := by rw [htl, opR_0, eR]; exact ⟨rfl, stp_n (by decide)⟩
        have eP := eN
        refine go_bipush (v := (-4)) (DL_does.at 32 rfl) (by decide) ?_
        refine go_goto 94 (DL_does.at 33 rfl) (by decide) ?_
        first | exact tn _ (by decide) eP | exact tp eP
    · rw [nI_eq (by omega) (by omega)] at c41
      have eR := wr_1 (t := t) (z := nI v) hA
      have eN : tl = (-1) ∧ stp A (opR A 0 t c v) = A := by rw [htl, opR_0, c41, eR]; exact ⟨rfl, stp_n (by decide)⟩
      have eP := eN
      refine go_iconst (v := (-1)) (DL_does.at 26 rfl) (by decide) ?_
      refine go_goto 94 (DL_does.at 27 rfl) (by decide) ?_
      first | exact tn _ (by decide) eP | exact tp eP
  refine go_aload_2 (DL_does.at 0 rfl) ?_
  refine go_iconst (v := nI 1) (DL_does.at 1 rfl) (by decide) ?_
  refine go_ialdL 6 (DL_does.at 2 rfl) hL (by decide) (show 1 < 4 by decide) ?_
  rw [h61]
  refine go_istore_8 (DL_does.at 3 rfl) ?_
  refine go_aload_2 (DL_does.at 4 rfl) ?_
  refine go_iconst (v := nI 2) (DL_does.at 5 rfl) (by decide) ?_
  refine go_ialdL 6 (DL_does.at 6 rfl) hL (by decide) (show 2 < 4 by decide) ?_
  rw [h62]
  refine go_istore_9 (DL_does.at 7 rfl) ?_
  refine go_iload_9 (DL_does.at 8 rfl) ?_
  refine go_aload_3 (DL_does.at 9 rfl) ?_
  refine go_cSx1 (DL_does.at 10 rfl) nL_16 vL_all (by omega) (c_all hL hY) (Nat.le_of_ble_eq_true rfl) ?_
  refine go_icmp_ge 23 (DL_does.at 11 rfl) (by decide) (fun c16 => ?_) (fun c16 => ?_)
  · rw [nI_leI (by omega) (by omega)] at c16
    have fin : ¬ c < nc (aG A) (aS A) := by omega
    refine go_iconst (v := nI 0) (DL_does.at 14 rfl) (by decide) ?_
    exact t24 _ (by first | exact Or.inl ⟨rfl, fin⟩ | exact Or.inr ⟨rfl, fin⟩)
  · rw [nI_leI (by omega) (by omega)] at c16
    have fin : c < nc (aG A) (aS A) := by omega
    refine go_iconst (v := nI 1) (DL_does.at 12 rfl) (by decide) ?_
    refine go_goto 24 (DL_does.at 13 rfl) (by decide) ?_
    exact t24 _ (by first | exact Or.inl ⟨rfl, fin⟩ | exact Or.inr ⟨rfl, fin⟩)

theorem c_does1 {t c v : Nat} {tl : Int32} (ht : t < aT A) (hc : c < nc (aG A) (aS A)) (htl : tl = (opR A 1 t c v).1) (h60 : ρ 6 0 = nI 1) (h61 : ρ 6 1 = nI t) (h62 : ρ 6 2 = nI c) (h63 : ρ 6 3 = nI v) (hK : Cw A) (hL : LA h ρ) (hR : LR A ρ) (hd : 3 ≤ d) : Calls E mL_does d 0 0 [.int tl, .ref 57, .ref 58, .ref 52, .ref 53, .ref 54, .ref 55, .ref 56] h (RI (DP A h (opR A 1 t c v))) := by
  refine Calls.of (ls := [some (.int tl), some (.ref 57), some (.ref 58), some (.ref 52), some (.ref 53), some (.ref 54), some (.ref 55), some (.ref 56), none, none, none, none, none, none]) (by decide +kernel) rfl (Nat.le_of_ble_eq_true rfl) (cat_ok rfl) ?_
  have hA := hR.1
  have hY := hR.2.1
  have hLO := hY.1
  have hT3 : aT A ≤ 3 := hY.2.1
  have hn := hLO.nc
  have hg4 : aG A ≤ 4 := hLO.2.1
  have hg1 : 1 ≤ aG A := hLO.1
  have hs6 : aS A ≤ 6 := hLO.2.2.2.1
  have hs2 : 2 ≤ aS A := hLO.2.2.1
  have hgs : aG A * aS A ≤ 15 := hLO.2.2.2.2.1
  have hH5 : aH A ≤ 5 := hLO.2.2.2.2.2.2.2
  have hT1 : 1 ≤ aT A := hLO.2.2.2.2.2.1
  have en : nc (aG A) (aS A) = aG A * aS A + aG A + 2 := rfl
  have hM20 := hA.m20 ht
  have hq60 := hA.q60 hT3
  have t24 : ∀ b : Int32, ((b = nI 1 ∧ c < nc (aG A) (aS A)) ∨ (b = nI 0 ∧ ¬ c < nc (aG A) (aS A))) → Go E mL_does d 0 0 24 [some (.int tl), some (.ref 57), some (.ref 58), some (.ref 52), some (.ref 53), some (.ref 54), some (.ref 55), some (.ref 56), some (.int (nI t)), some (.int (nI c)), none, none, none, none] [.int b] h (RI (DP A h (opR A 1 t c v))) := by
    intro b hb
    have tn : ∀ x : Int32, x < 0 → (tl = x ∧ stp A (opR A 1 t c v) = A) → Go E mL_does d 0 0 148 [some (.int tl), some (.ref 57), some (.ref 58), some (.ref 52), some (.ref 53), some (.ref 54), some (.ref 55), some (.ref 56), some (.int (nI t)), some (.int (nI c)), some (.int b), some (.int (nI 0)), none, none] [.int x] h (RI (DP A h (opR A 1 t c v))) := by
      intro x hx eN
      refine go_istore_11 (DL_does.at 87 rfl) ?_
      refine go_iload_11 (DL_does.at 88 rfl) ?_
      refine go_if_lt 460 (DL_does.at 89 rfl) (by decide) (fun c152 => ?_) (fun c152 => absurd hx c152)
      refine go_iload_0 (DL_does.at 261 rfl) ?_
      refine go_iload_11 (DL_does.at 262 rfl) ?_
      refine go_icmp_ne 470 (DL_does.at 263 rfl) (by decide) (fun c463 => absurd eN.1 c463) (fun c463 => ?_)
      refine go_iconst (v := nI 1) (DL_does.at 264 rfl) (by decide) ?_
      refine go_goto 471 (DL_does.at 265 rfl) (by decide) ?_
      exact go_iret (DL_does.at 267 rfl) rfl rfl (RI.mk ⟨rfl, Only.rf, ρ, hL, by rw [eN.2]; exact hR⟩)
    have tp : ¬ bit (aM A t) c → Go E mL_does d 0 0 148 [some (.int tl), some (.ref 57), some (.ref 58), some (.ref 52), some (.ref 53), some (.ref 54), some (.ref 55), some (.ref 56), some (.int (nI t)), some (.int (nI c)), some (.int b), some (.int (nI 0)), none, none] [.int (nI ((aQ A).length + 1))] h (RI (DP A h (opR A 1 t c v))) := by
      intro hnb
      have eR := lo_n hA ht hc hnb
      refine go_istore_11 (DL_does.at 87 rfl) ?_
      refine go_iload_11 (DL_does.at 88 rfl) ?_
      refine go_if_lt 460 (DL_does.at 89 rfl) (by decide) (fun c152 => absurd c152 (nI_pos (by omega))) (fun c152 => ?_)
      refine go_iload_8 (DL_does.at 90 rfl) ?_
      refine go_iload_9 (DL_does.at 91 rfl) ?_
      refine go_aload_3 (DL_does.at 92 rfl) ?_
      refine go_aload_5 (DL_does.at 93 rfl) ?_
      refine go_aload_6 (DL_does.at 94 rfl) ?_
      refine go_cSv5 (DL_does.at 95 rfl) nL_116 vL_lose (by omega) (c_llose ht hc hnb hL hR) (Nat.le_of_ble_eq_true rfl) (fun h164 q164 => ?_)
      obtain ⟨O1, ρ1, L1, R1, -, -⟩ := q164
      refine go_goto 460 (DL_does.at 96 rfl) (by decide) ?_
      refine go_iload_0 (DL_does.at 261 rfl) ?_
      refine go_iload_11 (DL_does.at 262 rfl) ?_
      refine go_icmp_ne 470 (DL_does.at 263 rfl) (by decide) (fun c463 => absurd (by rw [htl, opR_1, eR]) c463) (fun c463 => ?_)
      refine go_iconst (v := nI 1) (DL_does.at 264 rfl) (by decide) ?_
      refine go_goto 471 (DL_does.at 265 rfl) (by decide) ?_
      exact go_iret (DL_does.at 267 rfl) rfl rfl (RI.mk ⟨rfl, O1, ρ1, L1, by rw [opR_1, eR, stp_y (nI_pos (by omega))]; exact R1⟩)
    refine go_istore_10 (DL_does.at 15 rfl) ?_
    refine go_iconst (v := nI 0) (DL_does.at 16 rfl) (by decide) ?_
    refine go_istore_11 (DL_does.at 17 rfl) ?_
    refine go_aload_2 (DL_does.at 18 rfl) ?_
    refine go_iconst (v := nI 0) (DL_does.at 19 rfl) (by decide) ?_
    refine go_ialdL 6 (DL_does.at 20 rfl) hL (by decide) (show 0 < 4 by decide) ?_
    rw [h60]
    refine go_if_ne 117 (DL_does.at 21 rfl) (by decide) (fun c32 => ?_) (fun c32 => absurd c32 (by decide))
    refine go_aload_2 (DL_does.at 66 rfl) ?_
    refine go_iconst (v := nI 0) (DL_does.at 67 rfl) (by decide) ?_
    refine go_ialdL 6 (DL_does.at 68 rfl) hL (by decide) (show 0 < 4 by decide) ?_
    rw [h60]
    refine go_iconst (v := nI 1) (DL_does.at 69 rfl) (by decide) ?_
    refine go_icmp_ne 170 (DL_does.at 70 rfl) (by decide) (fun c121 => absurd rfl c121) (fun c121 => ?_)
    refine go_aload_5 (DL_does.at 71 rfl) ?_
    refine go_iload_8 (DL_does.at 72 rfl) ?_
    refine go_ialdL 2 (DL_does.at 73 rfl) hL (by decide) (show t < 3 by omega) ?_
    rw [hR.2.2.2.2.2.1 t ht]
    refine go_iload_9 (DL_does.at 74 rfl) ?_
    refine go_ishr (DL_does.at 75 rfl) ?_
    refine go_iconst (v := nI 1) (DL_does.at 76 rfl) (by decide) ?_
    refine go_iand (DL_does.at 77 rfl) ?_
    rw [nx_bit (by omega) (by omega)]
    refine go_iconst (v := nI 1) (DL_does.at 78 rfl) (by decide) ?_
    refine go_icmp_ne 143 (DL_does.at 79 rfl) (by decide) (fun c135 => ?_) (fun c135 => ?_)
    · have hnb : ¬ bit (aM A t) c := fun q => c135 (congrArg nI (show aM A t / 2 ^ c % 2 = 1 from q))
      have eP := hnb
      refine go_aload_3 (DL_does.at 82 rfl) ?_
      refine go_iconst (v := nI 4) (DL_does.at 83 rfl) (by decide) ?_
      refine go_ialdL 0 (DL_does.at 84 rfl) hL (by decide) (show 4 < 9 by decide) ?_
      rw [hR.2.2.1]
      refine go_iconst (v := nI 1) (DL_does.at 85 rfl) (by decide) ?_
      refine go_iadd (DL_does.at 86 rfl) ?_
      rw [nI_add]
      first | exact tn _ (by decide) eP | exact tp eP
    · have hbb : bit (aM A t) c := (nI_eq (by omega) (by decide)).mp c135
      have eR := lo_b hA ht hc hbb
      have eN : tl = (-5) ∧ stp A (opR A 1 t c v) = A := by rw [htl, opR_1, eR]; exact ⟨rfl, stp_n (by decide)⟩
      have eP := eN
      refine go_bipush (v := (-5)) (DL_does.at 80 rfl) (by decide) ?_
      refine go_goto 148 (DL_does.at 81 rfl) (by decide) ?_
      first | exact tn _ (by decide) eP | exact tp eP
  refine go_aload_2 (DL_does.at 0 rfl) ?_
  refine go_iconst (v := nI 1) (DL_does.at 1 rfl) (by decide) ?_
  refine go_ialdL 6 (DL_does.at 2 rfl) hL (by decide) (show 1 < 4 by decide) ?_
  rw [h61]
  refine go_istore_8 (DL_does.at 3 rfl) ?_
  refine go_aload_2 (DL_does.at 4 rfl) ?_
  refine go_iconst (v := nI 2) (DL_does.at 5 rfl) (by decide) ?_
  refine go_ialdL 6 (DL_does.at 6 rfl) hL (by decide) (show 2 < 4 by decide) ?_
  rw [h62]
  refine go_istore_9 (DL_does.at 7 rfl) ?_
  refine go_iload_9 (DL_does.at 8 rfl) ?_
  refine go_aload_3 (DL_does.at 9 rfl) ?_
  refine go_cSx1 (DL_does.at 10 rfl) nL_16 vL_all (by omega) (c_all hL hY) (Nat.le_of_ble_eq_true rfl) ?_
  refine go_icmp_ge 23 (DL_does.at 11 rfl) (by decide) (fun c16 => ?_) (fun c16 => ?_)
  · rw [nI_leI (by omega) (by omega)] at c16
    have fin : ¬ c < nc (aG A) (aS A) := by omega
    refine go_iconst (v := nI 0) (DL_does.at 14 rfl) (by decide) ?_
    exact t24 _ (by first | exact Or.inl ⟨rfl, fin⟩ | exact Or.inr ⟨rfl, fin⟩)
  · rw [nI_leI (by omega) (by omega)] at c16
    have fin : c < nc (aG A) (aS A) := by omega
    refine go_iconst (v := nI 1) (DL_does.at 12 rfl) (by decide) ?_
    refine go_goto 24 (DL_does.at 13 rfl) (by decide) ?_
    exact t24 _ (by first | exact Or.inl ⟨rfl, fin⟩ | exact Or.inr ⟨rfl, fin⟩)

theorem c_does3 {t c v : Nat} {tl : Int32} (ht : t < aT A) (hc : c < nc (aG A) (aS A)) (hw0 : ρ 5 t = wnF A t c) (htl : tl = (opR A 3 t c v).1) (h60 : ρ 6 0 = nI 3) (h61 : ρ 6 1 = nI t) (h62 : ρ 6 2 = nI c) (h63 : ρ 6 3 = nI v) (hK : Cw A) (hL : LA h ρ) (hR : LR A ρ) (hd : 4 ≤ d) : Calls E mL_does d 0 0 [.int tl, .ref 57, .ref 58, .ref 52, .ref 53, .ref 54, .ref 55, .ref 56] h (RI (DP A h (opR A 3 t c v))) := by
  refine Calls.of (ls := [some (.int tl), some (.ref 57), some (.ref 58), some (.ref 52), some (.ref 53), some (.ref 54), some (.ref 55), some (.ref 56), none, none, none, none, none, none]) (by decide +kernel) rfl (Nat.le_of_ble_eq_true rfl) (cat_ok rfl) ?_
  have hA := hR.1
  have hY := hR.2.1
  have hLO := hY.1
  have hT3 : aT A ≤ 3 := hY.2.1
  have hn := hLO.nc
  have hg4 : aG A ≤ 4 := hLO.2.1
  have hg1 : 1 ≤ aG A := hLO.1
  have hs6 : aS A ≤ 6 := hLO.2.2.2.1
  have hs2 : 2 ≤ aS A := hLO.2.2.1
  have hgs : aG A * aS A ≤ 15 := hLO.2.2.2.2.1
  have hH5 : aH A ≤ 5 := hLO.2.2.2.2.2.2.2
  have hT1 : 1 ≤ aT A := hLO.2.2.2.2.2.1
  have en : nc (aG A) (aS A) = aG A * aS A + aG A + 2 := rfl
  have t24 : ∀ b : Int32, ((b = nI 1 ∧ c < nc (aG A) (aS A)) ∨ (b = nI 0 ∧ ¬ c < nc (aG A) (aS A))) → Go E mL_does d 0 0 24 [some (.int tl), some (.ref 57), some (.ref 58), some (.ref 52), some (.ref 53), some (.ref 54), some (.ref 55), some (.ref 56), some (.int (nI t)), some (.int (nI c)), none, none, none, none] [.int b] h (RI (DP A h (opR A 3 t c v))) := by
    intro b hb
    by_cases hbt : bit (aM A t) c
    · rcases way_cases A t c with ⟨w, src, X, hw⟩ | hw
      · have hw3 := hw.w
        have eX := hw.val hA hK ht hc hbt
        subst eX
        refine go_istore_10 (DL_does.at 15 rfl) ?_
        refine go_iconst (v := nI 0) (DL_does.at 16 rfl) (by decide) ?_
        refine go_istore_11 (DL_does.at 17 rfl) ?_
        refine go_aload_2 (DL_does.at 18 rfl) ?_
        refine go_iconst (v := nI 0) (DL_does.at 19 rfl) (by decide) ?_
        refine go_ialdL 6 (DL_does.at 20 rfl) hL (by decide) (show 0 < 4 by decide) ?_
        rw [h60]
        refine go_if_ne 117 (DL_does.at 21 rfl) (by decide) (fun c32 => ?_) (fun c32 => absurd c32 (by decide))
        refine go_aload_2 (DL_does.at 66 rfl) ?_
        refine go_iconst (v := nI 0) (DL_does.at 67 rfl) (by decide) ?_
        refine go_ialdL 6 (DL_does.at 68 rfl) hL (by decide) (show 0 < 4 by decide) ?_
        rw [h60]
        refine go_iconst (v := nI 1) (DL_does.at 69 rfl) (by decide) ?_
        refine go_icmp_ne 170 (DL_does.at 70 rfl) (by decide) (fun c121 => ?_) (fun c121 => absurd c121 (by decide))
        refine go_aload_2 (DL_does.at 97 rfl) ?_
        refine go_iconst (v := nI 0) (DL_does.at 98 rfl) (by decide) ?_
        refine go_ialdL 6 (DL_does.at 99 rfl) hL (by decide) (show 0 < 4 by decide) ?_
        rw [h60]
        refine go_iconst (v := nI 3) (DL_does.at 100 rfl) (by decide) ?_
        refine go_icmp_ne 241 (DL_does.at 101 rfl) (by decide) (fun c174 => absurd rfl c174) (fun c174 => ?_)
        refine go_aload_1 (DL_does.at 102 rfl) ?_
        refine go_iload_8 (DL_does.at 103 rfl) ?_
        refine go_ialdL 5 (DL_does.at 104 rfl) hL (by decide) (show t < 3 by omega) ?_
        rw [show ρ 5 t = nI w from hw0.trans (wnF_s hbt hw)]
        refine go_if_ge 189 (DL_does.at 105 rfl) (by decide) (fun c181 => ?_) (fun c181 => absurd (nI_0le (by omega)) c181)
        refine go_aload_1 (DL_does.at 108 rfl) ?_
        refine go_iload_8 (DL_does.at 109 rfl) ?_
        refine go_ialdL 5 (DL_does.at 110 rfl) hL (by decide) (show t < 3 by omega) ?_
        rw [show ρ 5 t = nI w from hw0.trans (wnF_s hbt hw)]
        refine go_if_ne 201 (DL_does.at 111 rfl) (by decide) (fun c193 => ?_) (fun c193 => absurd ((nI_eq0 (by omega)).mp c193) (by omega))
        refine go_iload_8 (DL_does.at 114 rfl) ?_
        refine go_aload_1 (DL_does.at 115 rfl) ?_
        refine go_iload_8 (DL_does.at 116 rfl) ?_
        refine go_ialdL 5 (DL_does.at 117 rfl) hL (by decide) (show t < 3 by omega) ?_
        rw [show ρ 5 t = nI w from hw0.trans (wnF_s hbt hw)]
        refine go_aload_3 (DL_does.at 118 rfl) ?_
        refine go_aload_5 (DL_does.at 119 rfl) ?_
        refine go_cSx4 (DL_does.at 120 rfl) nL_43 vL_reads (by omega) (c_lreads ht (by omega) hL hR (by omega)) (Nat.le_of_ble_eq_true rfl) ?_
        rw [← hw.cnt hA ht hc]
        refine go_istore_11 (DL_does.at 121 rfl) ?_
        refine go_iload_11 (DL_does.at 122 rfl) ?_
        refine go_if_lt 460 (DL_does.at 123 rfl) (by decide) (fun c217 => absurd c217 (nI_pos (by have := pcn_le src 20; omega))) (fun c217 => ?_)
        refine go_iload_8 (DL_does.at 124 rfl) ?_
        refine go_iload_9 (DL_does.at 125 rfl) ?_
        refine go_aload_1 (DL_does.at 126 rfl) ?_
        refine go_iload_8 (DL_does.at 127 rfl) ?_
        refine go_ialdL 5 (DL_does.at 128 rfl) hL (by decide) (show t < 3 by omega) ?_
        rw [show ρ 5 t = nI w from hw0.trans (wnF_s hbt hw)]
        refine go_aload_3 (DL_does.at 129 rfl) ?_
        refine go_aload_5 (DL_does.at 130 rfl) ?_
        refine go_aload_6 (DL_does.at 131 rfl) ?_
        refine go_aload_7 (DL_does.at 132 rfl) ?_
        refine go_cSv7 (DL_does.at 133 rfl) nL_119 vL_mend (by omega) (c_lmend ht hc hbt hw hL hR (by omega)) (Nat.le_of_ble_eq_true rfl) (fun h235 q235 => ?_)
        obtain ⟨O1, ρ1, L1, R1, -, -⟩ := q235
        refine go_goto 460 (DL_does.at 134 rfl) (by decide) ?_
        refine go_iload_0 (DL_does.at 261 rfl) ?_
        refine go_iload_11 (DL_does.at 262 rfl) ?_
        refine go_icmp_ne 470 (DL_does.at 263 rfl) (by decide) (fun c463 => absurd (by rw [htl, opR_3, md_s hA ht hc hbt hw]) c463) (fun c463 => ?_)
        refine go_iconst (v := nI 1) (DL_does.at 264 rfl) (by decide) ?_
        refine go_goto 471 (DL_does.at 265 rfl) (by decide) ?_
        exact go_iret (DL_does.at 267 rfl) rfl rfl (RI.mk ⟨rfl, O1, ρ1, L1, by rw [opR_3, md_s hA ht hc hbt hw, stp_y (nI_pos (by have := pcn_le src 20; omega))]; exact R1⟩)
      · refine go_istore_10 (DL_does.at 15 rfl) ?_
        refine go_iconst (v := nI 0) (DL_does.at 16 rfl) (by decide) ?_
        refine go_istore_11 (DL_does.at 17 rfl) ?_
        refine go_aload_2 (DL_does.at 18 rfl) ?_
        refine go_iconst (v := nI 0) (DL_does.at 19 rfl) (by decide) ?_
        refine go_ialdL 6 (DL_does.at 20 rfl) hL (by decide) (show 0 < 4 by decide) ?_
        rw [h60]
        refine go_if_ne 117 (DL_does.at 21 rfl) (by decide) (fun c32 => ?_) (fun c32 => absurd c32 (by decide))
        refine go_aload_2 (DL_does.at 66 rfl) ?_
        refine go_iconst (v := nI 0) (DL_does.at 67 rfl) (by decide) ?_
        refine go_ialdL 6 (DL_does.at 68 rfl) hL (by decide) (show 0 < 4 by decide) ?_
        rw [h60]
        refine go_iconst (v := nI 1) (DL_does.at 69 rfl) (by decide) ?_
        refine go_icmp_ne 170 (DL_does.at 70 rfl) (by decide) (fun c121 => ?_) (fun c121 => absurd c121 (by decide))
        refine go_aload_2 (DL_does.at 97 rfl) ?_
        refine go_iconst (v := nI 0) (DL_does.at 98 rfl) (by decide) ?_
        refine go_ialdL 6 (DL_does.at 99 rfl) hL (by decide) (show 0 < 4 by decide) ?_
        rw [h60]
        refine go_iconst (v := nI 3) (DL_does.at 100 rfl) (by decide) ?_
        refine go_icmp_ne 241 (DL_does.at 101 rfl) (by decide) (fun c174 => absurd rfl c174) (fun c174 => ?_)
        refine go_aload_1 (DL_does.at 102 rfl) ?_
        refine go_iload_8 (DL_does.at 103 rfl) ?_
        refine go_ialdL 5 (DL_does.at 104 rfl) hL (by decide) (show t < 3 by omega) ?_
        rw [show ρ 5 t = 0 from hw0.trans (wnF_0 hbt hw)]
        refine go_if_ge 189 (DL_does.at 105 rfl) (by decide) (fun c181 => ?_) (fun c181 => absurd (Int32.le_refl _) c181)
        refine go_aload_1 (DL_does.at 108 rfl) ?_
        refine go_iload_8 (DL_does.at 109 rfl) ?_
        refine go_ialdL 5 (DL_does.at 110 rfl) hL (by decide) (show t < 3 by omega) ?_
        rw [show ρ 5 t = 0 from hw0.trans (wnF_0 hbt hw)]
        refine go_if_ne 201 (DL_does.at 111 rfl) (by decide) (fun c193 => absurd rfl c193) (fun c193 => ?_)
        refine go_bipush (v := (-4)) (DL_does.at 112 rfl) (by decide) ?_
        refine go_goto 213 (DL_does.at 113 rfl) (by decide) ?_
        refine go_istore_11 (DL_does.at 121 rfl) ?_
        refine go_iload_11 (DL_does.at 122 rfl) ?_
        refine go_if_lt 460 (DL_does.at 123 rfl) (by decide) (fun c217 => ?_) (fun c217 => absurd (show (-4 : Int32) < 0 by decide) c217)
        refine go_iload_0 (DL_does.at 261 rfl) ?_
        refine go_iload_11 (DL_does.at 262 rfl) ?_
        refine go_icmp_ne 470 (DL_does.at 263 rfl) (by decide) (fun c463 => absurd (by rw [htl, opR_3, md_0 hA ht hc hbt hw]) c463) (fun c463 => ?_)
        refine go_iconst (v := nI 1) (DL_does.at 264 rfl) (by decide) ?_
        refine go_goto 471 (DL_does.at 265 rfl) (by decide) ?_
        exact go_iret (DL_does.at 267 rfl) rfl rfl (RI.mk ⟨rfl, Only.rf, ρ, hL, by rw [opR_3, md_0 hA ht hc hbt hw, stp_n (by decide)]; exact hR⟩)
    · refine go_istore_10 (DL_does.at 15 rfl) ?_
      refine go_iconst (v := nI 0) (DL_does.at 16 rfl) (by decide) ?_
      refine go_istore_11 (DL_does.at 17 rfl) ?_
      refine go_aload_2 (DL_does.at 18 rfl) ?_
      refine go_iconst (v := nI 0) (DL_does.at 19 rfl) (by decide) ?_
      refine go_ialdL 6 (DL_does.at 20 rfl) hL (by decide) (show 0 < 4 by decide) ?_
      rw [h60]
      refine go_if_ne 117 (DL_does.at 21 rfl) (by decide) (fun c32 => ?_) (fun c32 => absurd c32 (by decide))
      refine go_aload_2 (DL_does.at 66 rfl) ?_
      refine go_iconst (v := nI 0) (DL_does.at 67 rfl) (by decide) ?_
      refine go_ialdL 6 (DL_does.at 68 rfl) hL (by decide) (show 0 < 4 by decide) ?_
      rw [h60]
      refine go_iconst (v := nI 1) (DL_does.at 69 rfl) (by decide) ?_
      refine go_icmp_ne 170 (DL_does.at 70 rfl) (by decide) (fun c121 => ?_) (fun c121 => absurd c121 (by decide))
      refine go_aload_2 (DL_does.at 97 rfl) ?_
      refine go_iconst (v := nI 0) (DL_does.at 98 rfl) (by decide) ?_
      refine go_ialdL 6 (DL_does.at 99 rfl) hL (by decide) (show 0 < 4 by decide) ?_
      rw [h60]
      refine go_iconst (v := nI 3) (DL_does.at 100 rfl) (by decide) ?_
      refine go_icmp_ne 241 (DL_does.at 101 rfl) (by decide) (fun c174 => absurd rfl c174) (fun c174 => ?_)
      refine go_aload_1 (DL_does.at 102 rfl) ?_
      refine go_iload_8 (DL_does.at 103 rfl) ?_
      refine go_ialdL 5 (DL_does.at 104 rfl) hL (by decide) (show t < 3 by omega) ?_
      rw [show ρ 5 t = -1 from hw0.trans (wnF_n hbt)]
      refine go_if_ge 189 (DL_does.at 105 rfl) (by decide) (fun c181 => absurd c181 (by decide)) (fun c181 => ?_)
      refine go_bipush (v := (-5)) (DL_does.at 106 rfl) (by decide) ?_
      refine go_goto 213 (DL_does.at 107 rfl) (by decide) ?_
      refine go_istore_11 (DL_does.at 121 rfl) ?_
      refine go_iload_11 (DL_does.at 122 rfl) ?_
      refine go_if_lt 460 (DL_does.at 123 rfl) (by decide) (fun c217 => ?_) (fun c217 => absurd (show (-5 : Int32) < 0 by decide) c217)
      refine go_iload_0 (DL_does.at 261 rfl) ?_
      refine go_iload_11 (DL_does.at 262 rfl) ?_
      refine go_icmp_ne 470 (DL_does.at 263 rfl) (by decide) (fun c463 => absurd (by rw [htl, opR_3, md_n hA ht hc hbt]) c463) (fun c463 => ?_)
      refine go_iconst (v := nI 1) (DL_does.at 264 rfl) (by decide) ?_
      refine go_goto 471 (DL_does.at 265 rfl) (by decide) ?_
      exact go_iret (DL_does.at 267 rfl) rfl rfl (RI.mk ⟨rfl, Only.rf, ρ, hL, by rw [opR_3, md_n hA ht hc hbt, stp_n (by decide)]; exact hR⟩)
  refine go_aload_2 (DL_does.at 0 rfl) ?_
  refine go_iconst (v := nI 1) (DL_does.at 1 rfl) (by decide) ?_
  refine go_ialdL 6 (DL_does.at 2 rfl) hL (by decide) (show 1 < 4 by decide) ?_
  rw [h61]
  refine go_istore_8 (DL_does.at 3 rfl) ?_
  refine go_aload_2 (DL_does.at 4 rfl) ?_
  refine go_iconst (v := nI 2) (DL_does.at 5 rfl) (by decide) ?_
  refine go_ialdL 6 (DL_does.at 6 rfl) hL (by decide) (show 2 < 4 by decide) ?_
  rw [h62]
  refine go_istore_9 (DL_does.at 7 rfl) ?_
  refine go_iload_9 (DL_does.at 8 rfl) ?_
  refine go_aload_3 (DL_does.at 9 rfl) ?_
  refine go_cSx1 (DL_does.at 10 rfl) nL_16 vL_all (by omega) (c_all hL hY) (Nat.le_of_ble_eq_true rfl) ?_
  refine go_icmp_ge 23 (DL_does.at 11 rfl) (by decide) (fun c16 => ?_) (fun c16 => ?_)
  · rw [nI_leI (by omega) (by omega)] at c16
    have fin : ¬ c < nc (aG A) (aS A) := by omega
    refine go_iconst (v := nI 0) (DL_does.at 14 rfl) (by decide) ?_
    exact t24 _ (by first | exact Or.inl ⟨rfl, fin⟩ | exact Or.inr ⟨rfl, fin⟩)
  · rw [nI_leI (by omega) (by omega)] at c16
    have fin : c < nc (aG A) (aS A) := by omega
    refine go_iconst (v := nI 1) (DL_does.at 12 rfl) (by decide) ?_
    refine go_goto 24 (DL_does.at 13 rfl) (by decide) ?_
    exact t24 _ (by first | exact Or.inl ⟨rfl, fin⟩ | exact Or.inr ⟨rfl, fin⟩)

end LM
