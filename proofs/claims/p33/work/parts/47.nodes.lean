/-! THE CLASS: what is done to a node -/
theorem Go.weaken {E : AEnv} {Y : MI} {d k n pc : Nat} {ls : List (Option Value)} {st : List Value} {h : List va_E} {Ψ Φ : Pst} (hG : Go E Y d k n pc ls st h Ψ) (hw : ∀ r h', Ψ r h' → Φ r h') : Go E Y d k n pc ls st h Φ := by
  intro p l e R s m args below meth c Q C ret
  exact hG p l e R s m args below meth c Q C (fun r h' H locs cells slots lsA pc hΨ => ret r h' H locs cells slots lsA pc (hw r h' hΨ))
noncomputable def lnG (nd : Nat) : Nat → Nat → Ab → Nat × Ab
  | 0, _, A => (0, A)
  | m + 1, t, A => cI (bit (aM A t) (con (nc (aG A) (aS A)) nd (t * aH A))) (lnG nd m (t + 1) A) ((lnG nd m (t + 1) (aLos A t (con (nc (aG A) (aS A)) nd (t * aH A)))).1 + 1, (lnG nd m (t + 1) (aLos A t (con (nc (aG A) (aS A)) nd (t * aH A)))).2)
theorem lnG_t {nd m t : Nat} {A : Ab} (h : bit (aM A t) (con (nc (aG A) (aS A)) nd (t * aH A))) : lnG nd (m + 1) t A = lnG nd m (t + 1) A := cI_t h
theorem lnG_f {nd m t : Nat} {A : Ab} (h : ¬ bit (aM A t) (con (nc (aG A) (aS A)) nd (t * aH A))) : lnG nd (m + 1) t A = ((lnG nd m (t + 1) (aLos A t (con (nc (aG A) (aS A)) nd (t * aH A)))).1 + 1, (lnG nd m (t + 1) (aLos A t (con (nc (aG A) (aS A)) nd (t * aH A)))).2) := cI_f h
/-- a count; none is NONE -/
def cnI (k : Nat) : Int32 := if k = 0 then -5 else nI k
noncomputable def lsF (A : Ab) (x : Int32) : Int32 × Ab := cI (inR x (nc (aG A) (aS A))) (cnI (lnG x.toNatClampNeg (aT A) 0 A).1, (lnG x.toNatClampNeg (aT A) 0 A).2) (-1, A)
noncomputable def mnG (nd : Nat) : Nat → Nat → Ab → Option (Nat × Ab)
  | 0, _, A => some (0, A)
  | m + 1, t, A => cI (bit (aM A t) (con (nc (aG A) (aS A)) nd (t * aH A)))
    (match wyF A t (con (nc (aG A) (aS A)) nd (t * aH A)) with
      | none => none
      | some p => match mnG nd m (t + 1) (aMnd A t (con (nc (aG A) (aS A)) nd (t * aH A)) p.1 p.2.1 p.2.2) with
        | none => none
        | some r => some (pcn p.2.1 20 + r.1, r.2)) (mnG nd m (t + 1) A)
theorem mnG_f {nd m t : Nat} {A : Ab} (h : ¬ bit (aM A t) (con (nc (aG A) (aS A)) nd (t * aH A))) : mnG nd (m + 1) t A = mnG nd m (t + 1) A := cI_f h
theorem mnG_n {nd m t : Nat} {A : Ab} (h : bit (aM A t) (con (nc (aG A) (aS A)) nd (t * aH A))) (hw : NoX A t (con (nc (aG A) (aS A)) nd (t * aH A))) : mnG nd (m + 1) t A = none := (cI_t h).trans (by rw [wyF_n hw])
theorem mnG_s {nd m t w src X : Nat} {A : Ab} (h : bit (aM A t) (con (nc (aG A) (aS A)) nd (t * aH A))) (hw : WyX A t (con (nc (aG A) (aS A)) nd (t * aH A)) w src X) : mnG nd (m + 1) t A = (match mnG nd m (t + 1) (aMnd A t (con (nc (aG A) (aS A)) nd (t * aH A)) w src X) with
        | none => none
        | some r => some (pcn src 20 + r.1, r.2)) := (cI_t h).trans (by rw [wyF_s hw])
noncomputable def mnF (A : Ab) (x : Int32) : Int32 × Ab := cI (inR x (nc (aG A) (aS A))) (match mnG x.toNatClampNeg (aT A) 0 A with
  | none => (-4, A)
  | some r => (cnI r.1, r.2)) (-1, A)
theorem way_cases (A : Ab) (t c : Nat) : (∃ w src X, WyX A t c w src X) ∨ wyF A t c = none := by
  by_cases q : ∃ p : Nat × Nat × Nat, WyX A t c p.1 p.2.1 p.2.2
  · obtain ⟨p, q⟩ := q
    exact Or.inl ⟨_, _, _, q⟩
  · exact Or.inr (dif_neg q)
theorem mdA_0 {A : Ab} {t c : Nat} (h : wyF A t c = none) : mdA A t c = (-4, A) := by
  unfold mdA
  rw [h]
theorem nI_m4 {k : Nat} (h : k < 2 ^ 31) : ¬ nI k = -4 := fun e => absurd (show nI k < 0 by rw [e]; decide) (nI_pos h)
theorem mnG_0 {nd m t : Nat} {A : Ab} (h : bit (aM A t) (con (nc (aG A) (aS A)) nd (t * aH A))) (hw : wyF A t (con (nc (aG A) (aS A)) nd (t * aH A)) = none) : mnG nd (m + 1) t A = none := (cI_t h).trans (by rw [hw])
section CL
variable {E : AEnv} {d : Nat} {h h' : List va_E} {b : Nat} {A : Ab} {B S : RP} {n : Nat} {Hs : Nat → RP} {tk : Nat} {o X : Nat → Int32} {G : Nat → Option va_E}
theorem c_loseCellsOn {x : Int32} (hC : ClAt G h b (RepS A) B S n Hs tk o X) (hd : 4 ≤ d) : Calls E mX5_loseCellsOn d 0 0 [.ref b, .int x] h (RI (fun r h' => r = (lsF A x).1 ∧ ClAt G h' b (RepS (lsF A x).2) B S n Hs tk o X)) := by
  refine Calls.of (ls := [some (.ref b), some (.int x), none, none]) (by decide +kernel) rfl (Nat.le_of_ble_eq_true rfl) (cat_ok rfl) ?_
  obtain ⟨σ, hS, hR⟩ := hC.2.2.1
  have hA := hR.1
  have hL := hR.2.1
  have hn20 := hA.1.nc
  have hT8 : aT A ≤ 8 := hA.1.2.2.2.2.2.2.1
  refine go_aload_0 (DX5_loseCellsOn.at 0 rfl) ?_
  refine go_getfield (DX5_loseCellsOn.at 1 rfl) fX5_10 hC.1 rfl ?_
  refine go_iload_1 (DX5_loseCellsOn.at 2 rfl) ?_
  refine go_cVx1 (DX5_loseCellsOn.at 3 rfl) nX5_147 vX4_hasNode (by omega) (c_hasNode hS hL (by omega)) hS.1 rfl (Nat.le_of_ble_eq_true rfl) ?_
  refine go_if_ne 13 (DX5_loseCellsOn.at 4 rfl) (by decide) (fun c8 => ?_) (fun c8 => ?_)
  · rw [bP_eq0, Classical.not_not] at c8
    obtain ⟨nd, hnd, rfl⟩ := inR_ex (by omega) c8
    have e : lsF A (nI nd) = (cnI (lnG nd (aT A) 0 A).1, (lnG nd (aT A) 0 A).2) := by
      unfold lsF
      rw [cI_t c8, nI_cl (by omega)]
    rw [e]
    generalize hRR : lnG nd (aT A) 0 A = R
    refine go_iconst (v := nI 0) (DX5_loseCellsOn.at 7 rfl) (by decide) ?_
    refine go_istore_2 (DX5_loseCellsOn.at 8 rfl) ?_
    refine go_iconst (v := nI 0) (DX5_loseCellsOn.at 9 rfl) (by decide) ?_
    refine go_istore_3 (DX5_loseCellsOn.at 10 rfl) ?_
    have loop : ∀ (m t k : Nat) (A : Ab) (h : List va_E), t + m = aT A → nd < nc (aG A) (aS A) → k ≤ t → ClAt G h b (RepS A) B S n Hs tk o X → (k + (lnG nd m t A).1, (lnG nd m t A).2) = R → Go E mX5_loseCellsOn d 0 0 17 [some (.ref b), some (.int (nI nd)), some (.int (nI k)), some (.int (nI t))] [] h (RI (fun r h' => r = cnI R.1 ∧ ClAt G h' b (RepS R.2) B S n Hs tk o X)) := by
      intro m
      induction m with
      | zero =>
        intro t k A h htm hnd hk hC hRR
        obtain ⟨σ, hS, hR⟩ := hC.2.2.1
        have hA := hR.1
        have hL := hR.2.1
        have hn20 := hA.1.nc
        have hT8 : aT A ≤ 8 := hA.1.2.2.2.2.2.2.1
        obtain rfl : t = aT A := by omega
        subst hRR
        show Go E mX5_loseCellsOn d 0 0 17 _ [] h (RI (fun r h' => r = cnI k ∧ ClAt G h' b (RepS A) B S n Hs tk o X))
        refine go_iload_3 (DX5_loseCellsOn.at 11 rfl) ?_
        refine go_aload_0 (DX5_loseCellsOn.at 12 rfl) ?_
        refine go_getfield (DX5_loseCellsOn.at 13 rfl) fX5_10 hC.1 rfl ?_
        refine go_getfield (DX5_loseCellsOn.at 14 rfl) fX5_183 hS.1 rfl ?_
        rw [show σ 0 2 = nI (aT A) from hL.2.2.1]
        refine go_icmp_ge 54 (DX5_loseCellsOn.at 15 rfl) (by decide) (fun c25 => ?_) (fun c25 => absurd (Int32.le_refl _) c25)
        refine go_iload_2 (DX5_loseCellsOn.at 28 rfl) ?_
        refine go_if_ne 63 (DX5_loseCellsOn.at 29 rfl) (by decide) (fun c55 => ?_) (fun c55 => ?_)
        · refine go_iload_2 (DX5_loseCellsOn.at 32 rfl) ?_
          exact go_iret (DX5_loseCellsOn.at 33 rfl) rfl rfl (RI.mk (by first | exact ⟨(if_neg (fun e => c55 (by rw [e]; rfl))).symm, hC⟩ | exact ⟨(if_pos ((nI_eq0 (by omega)).mp c55)).symm, hC⟩))
        · refine go_bipush (v := (-5)) (DX5_loseCellsOn.at 30 rfl) (by decide) ?_
          refine go_goto 64 (DX5_loseCellsOn.at 31 rfl) (by decide) ?_
          exact go_iret (DX5_loseCellsOn.at 33 rfl) rfl rfl (RI.mk (by first | exact ⟨(if_neg (fun e => c55 (by rw [e]; rfl))).symm, hC⟩ | exact ⟨(if_pos ((nI_eq0 (by omega)).mp c55)).symm, hC⟩))
      | succ m ih =>
        intro t k A h htm hnd hk hC hRR
        obtain ⟨σ, hS, hR⟩ := hC.2.2.1
        have hA := hR.1
        have hL := hR.2.1
        have hn20 := hA.1.nc
        have hT8 : aT A ≤ 8 := hA.1.2.2.2.2.2.2.1
        refine go_iload_3 (DX5_loseCellsOn.at 11 rfl) ?_
        refine go_aload_0 (DX5_loseCellsOn.at 12 rfl) ?_
        refine go_getfield (DX5_loseCellsOn.at 13 rfl) fX5_10 hC.1 rfl ?_
        refine go_getfield (DX5_loseCellsOn.at 14 rfl) fX5_183 hS.1 rfl ?_
        rw [show σ 0 2 = nI (aT A) from hL.2.2.1]
        refine go_icmp_ge 54 (DX5_loseCellsOn.at 15 rfl) (by decide) (fun c25 => absurd ((nI_leI (by omega) (by omega)).mp c25) (by omega)) (fun c25 => ?_)
        refine go_aload_0 (DX5_loseCellsOn.at 16 rfl) ?_
        refine go_iload_3 (DX5_loseCellsOn.at 17 rfl) ?_
        refine go_aload_0 (DX5_loseCellsOn.at 18 rfl) ?_
        refine go_getfield (DX5_loseCellsOn.at 19 rfl) fX5_10 hC.1 rfl ?_
        refine go_iload_3 (DX5_loseCellsOn.at 20 rfl) ?_
        refine go_iload_1 (DX5_loseCellsOn.at 21 rfl) ?_
        refine go_cVx2 (DX5_loseCellsOn.at 22 rfl) nX5_259 vX4_cellOn (by omega) (c_cellOn hS hL (by omega) (show nd < 20 by omega) (by omega)) hS.1 rfl (Nat.le_of_ble_eq_true rfl) ?_
        refine go_cVi2 (DX5_loseCellsOn.at 23 rfl) nX5_81 vX5_loseCell (by omega) (c_loseCell hC (by omega)) hC.1 rfl (Nat.le_of_ble_eq_true rfl) (fun x39 h39 q39 => ?_)
        rw [loF_in hA (by omega) (con_lt (by omega))] at q39
        by_cases hb : bit (aM A t) (con (nc (aG A) (aS A)) nd (t * aH A))
        · rw [cI_t hb] at q39
          dsimp only at q39
          obtain ⟨rfl, hC1⟩ := q39
          refine go_if_lt 48 (DX5_loseCellsOn.at 24 rfl) (by decide) (fun c42 => ?_) (fun c42 => absurd (by decide) c42)
          refine go_iincN_3 (DX5_loseCellsOn.at 26 rfl) ?_
          refine go_goto 17 (DX5_loseCellsOn.at 27 rfl) (by decide) ?_
          exact ih (t + 1) k A _ (by omega) hnd (by omega) hC1 (by rw [← hRR, lnG_t hb])
        · rw [cI_f hb] at q39
          dsimp only at q39
          obtain ⟨rfl, hC1⟩ := q39
          have hroom := hA.qroom (show t < aT A by omega) (con_lt (by omega)) hb
          refine go_if_lt 48 (DX5_loseCellsOn.at 24 rfl) (by decide) (fun c42 => absurd c42 (nI_pos (by omega))) (fun c42 => ?_)
          refine go_iincN_2 (DX5_loseCellsOn.at 25 rfl) ?_
          refine go_iincN_3 (DX5_loseCellsOn.at 26 rfl) ?_
          refine go_goto 17 (DX5_loseCellsOn.at 27 rfl) (by decide) ?_
          exact ih (t + 1) (k + 1) (aLos A t (con (nc (aG A) (aS A)) nd (t * aH A))) _ (by show t + 1 + m = aT A; omega) hnd (by omega) hC1 (by rw [← hRR, lnG_f hb, Nat.add_assoc, Nat.add_comm 1])
    exact loop (aT A) 0 0 A h (Nat.zero_add _) hnd (Nat.le_refl 0) hC (by rw [hRR, Nat.zero_add])
  · rw [bP_eq0] at c8
    have e : lsF A x = (-1, A) := cI_f c8
    refine go_iconst (v := (-1)) (DX5_loseCellsOn.at 5 rfl) (by decide) ?_
    exact go_iret (DX5_loseCellsOn.at 6 rfl) rfl rfl (RI.mk (by rw [e]; exact ⟨rfl, hC⟩))

theorem c_mendCellsOn {x : Int32} (hC : ClAt G h b (RepS A) B S n Hs tk o X) (hd : 6 ≤ d) : Calls E mX5_mendCellsOn d 0 0 [.ref b, .int x] h (RI (fun r h' => r = (mnF A x).1 ∧ ∃ N', ClAt G h' b N' B S n Hs tk o X ∧ (0 ≤ r → N' = RepS (mnF A x).2))) := by
  refine Calls.of (ls := [some (.ref b), some (.int x), none, none, none]) (by decide +kernel) rfl (Nat.le_of_ble_eq_true rfl) (cat_ok rfl) ?_
  obtain ⟨σ, hS, hR⟩ := hC.2.2.1
  have hA := hR.1
  have hL := hR.2.1
  have hn20 := hA.1.nc
  have hT8 : aT A ≤ 8 := hA.1.2.2.2.2.2.2.1
  refine go_aload_0 (DX5_mendCellsOn.at 0 rfl) ?_
  refine go_getfield (DX5_mendCellsOn.at 1 rfl) fX5_10 hC.1 rfl ?_
  refine go_iload_1 (DX5_mendCellsOn.at 2 rfl) ?_
  refine go_cVx1 (DX5_mendCellsOn.at 3 rfl) nX5_147 vX4_hasNode (by omega) (c_hasNode hS hL (by omega)) hS.1 rfl (Nat.le_of_ble_eq_true rfl) ?_
  refine go_if_ne 13 (DX5_mendCellsOn.at 4 rfl) (by decide) (fun c8 => ?_) (fun c8 => ?_)
  · rw [bP_eq0, Classical.not_not] at c8
    obtain ⟨nd, hnd, rfl⟩ := inR_ex (by omega) c8
    refine go_iconst (v := nI 0) (DX5_mendCellsOn.at 7 rfl) (by decide) ?_
    refine go_istore_2 (DX5_mendCellsOn.at 8 rfl) ?_
    refine go_iconst (v := nI 0) (DX5_mendCellsOn.at 9 rfl) (by decide) ?_
    refine go_istore_3 (DX5_mendCellsOn.at 10 rfl) ?_
    have e : mnF A (nI nd) = (match mnG nd (aT A) 0 A with
      | none => (-4, A)
      | some r => (cnI r.1, r.2)) := by
      unfold mnF
      rw [cI_t c8, nI_cl (by omega)]
    rw [e]
    generalize hRR : mnG nd (aT A) 0 A = R
    have loop : ∀ (m t k : Nat) (A : Ab) (h : List va_E) (x4 : Option Value), t + m = aT A → nd < nc (aG A) (aS A) → k ≤ 20 * t → ClAt G h b (RepS A) B S n Hs tk o X → R = (match mnG nd m t A with | none => none | some r => some (k + r.1, r.2)) → Go E mX5_mendCellsOn d 0 0 17 [some (.ref b), some (.int (nI nd)), some (.int (nI k)), some (.int (nI t)), x4] [] h (RI (fun r h' => (R = none → r = (-4)) ∧ (∀ p, R = some p → r = cnI p.1) ∧ ∃ N', ClAt G h' b N' B S n Hs tk o X ∧ ∀ p, R = some p → N' = RepS p.2)) := by
      intro m
      induction m with
      | zero =>
        intro t k A h x4 htm hnd hk hC hRR
        obtain ⟨σ, hS, hR⟩ := hC.2.2.1
        have hA := hR.1
        have hL := hR.2.1
        have hn20 := hA.1.nc
        have hT8 : aT A ≤ 8 := hA.1.2.2.2.2.2.2.1
        obtain rfl : t = aT A := by omega
        replace hRR : R = some (k, A) := hRR
        refine go_iload_3 (DX5_mendCellsOn.at 11 rfl) ?_
        refine go_aload_0 (DX5_mendCellsOn.at 12 rfl) ?_
        refine go_getfield (DX5_mendCellsOn.at 13 rfl) fX5_10 hC.1 rfl ?_
        refine go_getfield (DX5_mendCellsOn.at 14 rfl) fX5_183 hS.1 rfl ?_
        rw [show σ 0 2 = nI (aT A) from hL.2.2.1]
        refine go_icmp_ge 69 (DX5_mendCellsOn.at 15 rfl) (by decide) (fun c25 => ?_) (fun c25 => absurd (Int32.le_refl _) c25)
        refine go_iload_2 (DX5_mendCellsOn.at 38 rfl) ?_
        refine go_if_ne 78 (DX5_mendCellsOn.at 39 rfl) (by decide) (fun c70 => ?_) (fun c70 => ?_)
        · have ek : cnI k = nI k := if_neg (fun e => c70 (by rw [e]; rfl))
          refine go_iload_2 (DX5_mendCellsOn.at 42 rfl) ?_
          exact go_iret (DX5_mendCellsOn.at 43 rfl) rfl rfl (RI.mk ⟨fun e => (by rw [hRR] at e; cases e), fun p e => (by rw [hRR] at e; cases e; exact ek.symm), _, hC, fun p e => (by rw [hRR] at e; cases e; rfl)⟩)
        · have ek : cnI k = -5 := if_pos ((nI_eq0 (by omega)).mp c70)
          refine go_bipush (v := (-5)) (DX5_mendCellsOn.at 40 rfl) (by decide) ?_
          refine go_goto 79 (DX5_mendCellsOn.at 41 rfl) (by decide) ?_
          exact go_iret (DX5_mendCellsOn.at 43 rfl) rfl rfl (RI.mk ⟨fun e => (by rw [hRR] at e; cases e), fun p e => (by rw [hRR] at e; cases e; exact ek.symm), _, hC, fun p e => (by rw [hRR] at e; cases e; rfl)⟩)
      | succ m ih =>
        intro t k A h x4 htm hnd hk hC hRR
        obtain ⟨σ, hS, hR⟩ := hC.2.2.1
        have hA := hR.1
        have hL := hR.2.1
        have hn20 := hA.1.nc
        have hT8 : aT A ≤ 8 := hA.1.2.2.2.2.2.2.1
        refine go_iload_3 (DX5_mendCellsOn.at 11 rfl) ?_
        refine go_aload_0 (DX5_mendCellsOn.at 12 rfl) ?_
        refine go_getfield (DX5_mendCellsOn.at 13 rfl) fX5_10 hC.1 rfl ?_
        refine go_getfield (DX5_mendCellsOn.at 14 rfl) fX5_183 hS.1 rfl ?_
        rw [show σ 0 2 = nI (aT A) from hL.2.2.1]
        refine go_icmp_ge 69 (DX5_mendCellsOn.at 15 rfl) (by decide) (fun c25 => absurd ((nI_leI (by omega) (by omega)).mp c25) (by omega)) (fun c25 => ?_)
        refine go_aload_0 (DX5_mendCellsOn.at 16 rfl) ?_
        refine go_iload_3 (DX5_mendCellsOn.at 17 rfl) ?_
        refine go_aload_0 (DX5_mendCellsOn.at 18 rfl) ?_
        refine go_getfield (DX5_mendCellsOn.at 19 rfl) fX5_10 hC.1 rfl ?_
        refine go_iload_3 (DX5_mendCellsOn.at 20 rfl) ?_
        refine go_iload_1 (DX5_mendCellsOn.at 21 rfl) ?_
        refine go_cVx2 (DX5_mendCellsOn.at 22 rfl) nX5_259 vX4_cellOn (by omega) (c_cellOn hS hL (by omega) (show nd < 20 by omega) (by omega)) hS.1 rfl (Nat.le_of_ble_eq_true rfl) ?_
        refine go_cVi2 (DX5_mendCellsOn.at 23 rfl) nX5_88 vX5_mendCell (by omega) (c_mendCell hC (by omega)) hC.1 rfl (Nat.le_of_ble_eq_true rfl) (fun x39 h39 q39 => ?_)
        rw [mdF_in hA (by omega) (con_lt (by omega))] at q39
        by_cases hb : bit (aM A t) (con (nc (aG A) (aS A)) nd (t * aH A))
        · rcases way_cases A t (con (nc (aG A) (aS A)) nd (t * aH A)) with ⟨w, src, X', hW⟩ | hW
          · rw [cI_t hb, mdA_s hW] at q39
            dsimp only at q39
            obtain ⟨rfl, hC1⟩ := q39
            have hp20 := pcn_le src 20
            refine go_istore_4 (DX5_mendCellsOn.at 24 rfl) ?_
            refine go_iload_4 (DX5_mendCellsOn.at 25 rfl) ?_
            refine go_bipush (v := (-4)) (DX5_mendCellsOn.at 26 rfl) (by decide) ?_
            refine go_icmp_ne 54 (DX5_mendCellsOn.at 27 rfl) (by decide) (fun c48 => ?_) (fun c48 => absurd c48 (nI_m4 (by omega)))
            refine go_iload_2 (DX5_mendCellsOn.at 30 rfl) ?_
            refine go_iload_4 (DX5_mendCellsOn.at 31 rfl) ?_
            refine go_iconst (v := nI 0) (DX5_mendCellsOn.at 32 rfl) (by decide) ?_
            refine go_cSx2 (DX5_mendCellsOn.at 33 rfl) nX5_268 vJ9_max_7cf53 (by omega) c_max (Nat.le_of_ble_eq_true rfl) ?_
            rw [show (if nI (pcn src 20) < nI 0 then nI 0 else nI (pcn src 20)) = nI (pcn src 20) from if_neg (nI_pos (by omega))]
            refine go_iadd (DX5_mendCellsOn.at 34 rfl) ?_
            rw [nI_add]
            refine go_istore_2 (DX5_mendCellsOn.at 35 rfl) ?_
            refine go_iincN_3 (DX5_mendCellsOn.at 36 rfl) ?_
            refine go_goto 17 (DX5_mendCellsOn.at 37 rfl) (by decide) ?_
            refine ih (t + 1) (k + pcn src 20) (aMnd A t (con (nc (aG A) (aS A)) nd (t * aH A)) w src X') _ _ (by show t + 1 + m = aT A; omega) hnd (by omega) hC1 ?_
            rw [hRR, mnG_s hb hW]
            cases mnG nd m (t + 1) (aMnd A t (con (nc (aG A) (aS A)) nd (t * aH A)) w src X') with
            | none => rfl
            | some r => show some (k + (pcn src 20 + r.1), r.2) = some (k + pcn src 20 + r.1, r.2); rw [Nat.add_assoc]
          · rw [cI_t hb, mdA_0 hW] at q39
            dsimp only at q39
            obtain ⟨rfl, hC1⟩ := q39
            have hR0 : R = none := by rw [hRR, mnG_0 hb hW]
            refine go_istore_4 (DX5_mendCellsOn.at 24 rfl) ?_
            refine go_iload_4 (DX5_mendCellsOn.at 25 rfl) ?_
            refine go_bipush (v := (-4)) (DX5_mendCellsOn.at 26 rfl) (by decide) ?_
            refine go_icmp_ne 54 (DX5_mendCellsOn.at 27 rfl) (by decide) (fun c48 => absurd rfl c48) (fun c48 => ?_)
            refine go_bipush (v := (-4)) (DX5_mendCellsOn.at 28 rfl) (by decide) ?_
            exact go_iret (DX5_mendCellsOn.at 29 rfl) rfl rfl (RI.mk ⟨fun _ => rfl, fun p e => (by rw [hR0] at e; cases e), _, hC1, fun p e => (by rw [hR0] at e; cases e)⟩)
        · rw [cI_f hb] at q39
          dsimp only at q39
          obtain ⟨rfl, hC1⟩ := q39
          refine go_istore_4 (DX5_mendCellsOn.at 24 rfl) ?_
          refine go_iload_4 (DX5_mendCellsOn.at 25 rfl) ?_
          refine go_bipush (v := (-4)) (DX5_mendCellsOn.at 26 rfl) (by decide) ?_
          refine go_icmp_ne 54 (DX5_mendCellsOn.at 27 rfl) (by decide) (fun c48 => ?_) (fun c48 => absurd c48 (by decide))
          refine go_iload_2 (DX5_mendCellsOn.at 30 rfl) ?_
          refine go_iload_4 (DX5_mendCellsOn.at 31 rfl) ?_
          refine go_iconst (v := nI 0) (DX5_mendCellsOn.at 32 rfl) (by decide) ?_
          refine go_cSx2 (DX5_mendCellsOn.at 33 rfl) nX5_268 vJ9_max_7cf53 (by omega) c_max (Nat.le_of_ble_eq_true rfl) ?_
          rw [if_pos (by decide)]
          refine go_iadd (DX5_mendCellsOn.at 34 rfl) ?_
          rw [show nI k + nI 0 = nI k from by rw [nI_add]; rfl]
          refine go_istore_2 (DX5_mendCellsOn.at 35 rfl) ?_
          refine go_iincN_3 (DX5_mendCellsOn.at 36 rfl) ?_
          refine go_goto 17 (DX5_mendCellsOn.at 37 rfl) (by decide) ?_
          exact ih (t + 1) k A _ _ (by omega) hnd (by omega) hC1 (by rw [hRR, mnG_f hb])
    refine Go.weaken (loop (aT A) 0 0 A h _ (Nat.zero_add _) hnd (Nat.zero_le _) hC ?_) ?_
    · rw [hRR]
      cases R with
      | none => rfl
      | some r => show some r = some (0 + r.1, r.2); rw [Nat.zero_add]
    · rintro r h1 ⟨y, rfl, h2, h3, N', h4, h5⟩
      refine RI.mk ?_
      cases R with
      | none => exact ⟨h2 rfl, N', h4, fun q => absurd q (by rw [h2 rfl]; decide)⟩
      | some p => exact ⟨h3 p rfl, N', h4, fun _ => h5 p rfl⟩
  · rw [bP_eq0] at c8
    have e : mnF A x = (-1, A) := cI_f c8
    refine go_iconst (v := (-1)) (DX5_mendCellsOn.at 5 rfl) (by decide) ?_
    exact go_iret (DX5_mendCellsOn.at 6 rfl) rfl rfl (RI.mk (by rw [e]; exact ⟨rfl, _, hC, fun _ => rfl⟩))

end CL
