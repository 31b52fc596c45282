/-! THE CLASS: the queue is worked on, the stripes are scrubbed -/
noncomputable def wkG : Nat → Ab → Nat × Ab
  | 0, A => (0, A)
  | m + 1, A => match aQ A with
    | [] => (0, A)
    | x :: _ => match wyF A (x / 20) (x % 20) with
      | none => wkG m (aRot A)
      | some p => ((wkG m (aMnd A (x / 20) (x % 20) p.1 p.2.1 p.2.2)).1 + 1, (wkG m (aMnd A (x / 20) (x % 20) p.1 p.2.1 p.2.2)).2)
theorem wkG_e {m : Nat} {A : Ab} (h : aQ A = []) : wkG m A = (0, A) := by
  cases m with
  | zero => rfl
  | succ m =>
    unfold wkG
    rw [h]
theorem wkG_n {m x : Nat} {l : List Nat} {A : Ab} (h : aQ A = x :: l) (hw : wyF A (x / 20) (x % 20) = none) : wkG (m + 1) A = wkG m (aRot A) := by
  rw [wkG.eq_2, h]
  dsimp only
  rw [hw]
theorem wkG_s {m x w src X : Nat} {l : List Nat} {A : Ab} (h : aQ A = x :: l) (hw : WyX A (x / 20) (x % 20) w src X) : wkG (m + 1) A = ((wkG m (aMnd A (x / 20) (x % 20) w src X)).1 + 1, (wkG m (aMnd A (x / 20) (x % 20) w src X)).2) := by
  rw [wkG.eq_2, h]
  dsimp only
  rw [wyF_s hw]
noncomputable def wkF (A : Ab) (x : Int32) : Int32 × Ab := cI (nI 1 ≤ x ∧ x ≤ nI 50) (cI (aQ A = []) (-5, A) (nI (wkG x.toNatClampNeg A).1, (wkG x.toNatClampNeg A).2)) (-2, A)
/-- the sums of the checks of a stripe -/
def aSum (A : Ab) (t : Nat) : Nat → Nat := vsum (colv (aG A) (aS A)) (aV A t) (2 ^ nc (aG A) (aS A) - 1) (nc (aG A) (aS A))
/-- the first cell up to j that is the culprit -/
noncomputable def cpG (A : Ab) (t : Nat) : Nat → Option Nat
  | 0 => none
  | j + 1 => match cpG A t j with
    | some c => some c
    | none => cI (CU (colv (aG A) (aS A)) (aSum A t) (hcv (aG A) (aS A) j) j) (some j) none
noncomputable def cpF (A : Ab) (t : Nat) : Option Nat := cpG A t (nc (aG A) (aS A))
theorem cpG_n {A : Ab} {t : Nat} : ∀ k, (∀ j, j < k → ¬ CU (colv (aG A) (aS A)) (aSum A t) (hcv (aG A) (aS A) j) j) → cpG A t k = none
  | 0, _ => rfl
  | k + 1, h => by
    show (match cpG A t k with | some c => some c | none => cI (CU (colv (aG A) (aS A)) (aSum A t) (hcv (aG A) (aS A) k) k) (some k) none) = none
    rw [cpG_n k (fun j hj => h j (by omega))]
    exact cI_f (h k (by omega))
theorem cpG_s {A : Ab} {t c : Nat} (hc : CU (colv (aG A) (aS A)) (aSum A t) (hcv (aG A) (aS A) c) c) (h : ∀ j, j < c → ¬ CU (colv (aG A) (aS A)) (aSum A t) (hcv (aG A) (aS A) j) j) : ∀ k, cpG A t (c + 1 + k) = some c
  | 0 => by
    show (match cpG A t c with | some c => some c | none => cI (CU (colv (aG A) (aS A)) (aSum A t) (hcv (aG A) (aS A) c) c) (some c) none) = some c
    rw [cpG_n c h]
    exact cI_t hc
  | k + 1 => by
    show (match cpG A t (c + 1 + k) with | some c => some c | none => cI (CU (colv (aG A) (aS A)) (aSum A t) (hcv (aG A) (aS A) (c + 1 + k)) (c + 1 + k)) (some (c + 1 + k)) none) = some c
    rw [cpG_s hc h k]
theorem cpF_s {A : Ab} {t c : Nat} (hn : c < nc (aG A) (aS A)) (hc : CU (colv (aG A) (aS A)) (aSum A t) (hcv (aG A) (aS A) c) c) (h : ∀ j, j < c → ¬ CU (colv (aG A) (aS A)) (aSum A t) (hcv (aG A) (aS A) j) j) : cpF A t = some c := by
  have q := cpG_s hc h (nc (aG A) (aS A) - (c + 1))
  rw [show c + 1 + (nc (aG A) (aS A) - (c + 1)) = nc (aG A) (aS A) by omega] at q
  exact q
theorem aSum_lt {A : Ab} {t : Nat} (hA : AOK A) : B6 (aSum A t) := vsum_lt (fun c _ i _ => colv_lt i) (fun c _ _ => hA.2.2.1 t c) _ (Nat.le_refl _)
noncomputable def scG : Nat → Nat → Ab → Nat × Ab
  | 0, _, A => (0, A)
  | m + 1, t, A => match cI (aM A t = 0) (cpF A t) none with
    | none => scG m (t + 1) A
    | some c => ((scG m (t + 1) (aPut A t c (aV A t c ^^^ aSum A t (hcv (aG A) (aS A) c)))).1 + 1, (scG m (t + 1) (aPut A t c (aV A t c ^^^ aSum A t (hcv (aG A) (aS A) c)))).2)
theorem scG_n {m t : Nat} {A : Ab} (h : cI (aM A t = 0) (cpF A t) none = none) : scG (m + 1) t A = scG m (t + 1) A := by
  rw [scG.eq_2, h]
theorem scG_s {m t c : Nat} {A : Ab} (h : cI (aM A t = 0) (cpF A t) none = some c) : scG (m + 1) t A = ((scG m (t + 1) (aPut A t c (aV A t c ^^^ aSum A t (hcv (aG A) (aS A) c)))).1 + 1, (scG m (t + 1) (aPut A t c (aV A t c ^^^ aSum A t (hcv (aG A) (aS A) c)))).2) := by
  rw [scG.eq_2, h]
noncomputable def scF (A : Ab) : Int32 × Ab := (cnI (scG (aT A) 0 A).1, (scG (aT A) 0 A).2)
section CL
variable {E : AEnv} {d : Nat} {h h' : List va_E} {b : Nat} {A : Ab} {B S : RP} {n : Nat} {Hs : Nat → RP} {tk : Nat} {o X : Nat → Int32} {G : Nat → Option va_E}
theorem c_workOnQueue {x : Int32} (hC : ClAt G h b (RepS A) B S n Hs tk o X) (hd : 6 ≤ d) : Calls E mX5_workOnQueue d 0 0 [.ref b, .int x] h (RI (fun r h' => r = (wkF A x).1 ∧ ClAt G h' b (RepS (wkF A x).2) B S n Hs tk o X)) := by
  refine Calls.of (ls := [some (.ref b), some (.int x), none, none, none]) (by decide +kernel) rfl (Nat.le_of_ble_eq_true rfl) (cat_ok rfl) ?_
  obtain ⟨σ, hS, hR⟩ := hC.2.2.1
  have hA := hR.1
  have hL := hR.2.1
  have hX := hR.2.2.1
  have hM := hR.2.2.2.1
  have hV := hR.2.2.2.2.1
  have hql := hR.2.2.2.2.2.1
  have hQ := hR.2.2.2.2.2.2.1
  have hn20 := hA.1.nc
  have hT8 : aT A ≤ 8 := hA.1.2.2.2.2.2.2.1
  refine go_iload_1 (DX5_workOnQueue.at 0 rfl) ?_
  refine go_iconst (v := nI 1) (DX5_workOnQueue.at 1 rfl) (by decide) ?_
  refine go_bipush (v := nI 50) (DX5_workOnQueue.at 2 rfl) (by decide) ?_
  refine go_cSx3 (DX5_workOnQueue.at 3 rfl) nX5_55 vX5_isWithin (by omega) c_isWithin (Nat.le_of_ble_eq_true rfl) ?_
  refine go_if_ne 13 (DX5_workOnQueue.at 4 rfl) (by decide) (fun c7 => ?_) (fun c7 => ?_)
  · rw [bI_eq0, Classical.not_not] at c7
    refine go_aload_0 (DX5_workOnQueue.at 7 rfl) ?_
    refine go_getfield (DX5_workOnQueue.at 8 rfl) fX5_10 hC.1 rfl ?_
    refine go_getfield (DX5_workOnQueue.at 9 rfl) fX5_131 hS.1 rfl ?_
    rw [hql]
    refine go_if_ne 26 (DX5_workOnQueue.at 10 rfl) (by decide) (fun c20 => ?_) (fun c20 => ?_)
    · refine go_iconst (v := nI 0) (DX5_workOnQueue.at 13 rfl) (by decide) ?_
      refine go_istore_2 (DX5_workOnQueue.at 14 rfl) ?_
      refine go_iconst (v := nI 0) (DX5_workOnQueue.at 15 rfl) (by decide) ?_
      refine go_istore_3 (DX5_workOnQueue.at 16 rfl) ?_
      obtain ⟨st, hst, rfl⟩ := inR_ex (n := 51) (by decide) (show inR x 51 from ⟨Int32.le_trans (by decide) c7.1, Int32.lt_of_le_of_lt c7.2 (by decide)⟩)
      have h5 : ¬ aQ A = [] := fun q => c20 (by rw [q]; rfl)
      have e : wkF A (nI st) = (nI (wkG st A).1, (wkG st A).2) := by
        unfold wkF
        rw [cI_t c7, cI_f h5, nI_cl (by omega)]
      rw [e]
      generalize hR0 : wkG st A = R
      have loop : ∀ (m s k : Nat) (A : Ab) (h : List va_E) (x4 : Option Value), s + m = st → k ≤ s → ClAt G h b (RepS A) B S n Hs tk o X → (k + (wkG m A).1, (wkG m A).2) = R → Go E mX5_workOnQueue d 0 0 30 [some (.ref b), some (.int (nI st)), some (.int (nI k)), some (.int (nI s)), x4] [] h (RI (fun r h' => r = nI R.1 ∧ ClAt G h' b (RepS R.2) B S n Hs tk o X)) := by
        intro m
        induction m with
        | zero =>
          intro s k A h x4 hsm hk hC hRR
          obtain rfl : s = st := by omega
          subst hRR
          refine go_iload_3 (DX5_workOnQueue.at 17 rfl) ?_
          refine go_iload_1 (DX5_workOnQueue.at 18 rfl) ?_
          refine go_icmp_ge 105 (DX5_workOnQueue.at 19 rfl) (by decide) (fun c32 => ?_) (fun c32 => absurd (Int32.le_refl _) c32)
          refine go_iload_2 (DX5_workOnQueue.at 51 rfl) ?_
          exact go_iret (DX5_workOnQueue.at 52 rfl) rfl rfl (RI.mk ⟨rfl, hC⟩)
        | succ m ih =>
          intro s k A h x4 hsm hk hC hRR
          obtain ⟨σ, hS, hR⟩ := hC.2.2.1
          have hA := hR.1
          have hL := hR.2.1
          have hX := hR.2.2.1
          have hM := hR.2.2.2.1
          have hV := hR.2.2.2.2.1
          have hql := hR.2.2.2.2.2.1
          have hQ := hR.2.2.2.2.2.2.1
          have hn20 := hA.1.nc
          have hT8 : aT A ≤ 8 := hA.1.2.2.2.2.2.2.1
          cases hq : aQ A with
          | nil =>
            refine go_iload_3 (DX5_workOnQueue.at 17 rfl) ?_
            refine go_iload_1 (DX5_workOnQueue.at 18 rfl) ?_
            refine go_icmp_ge 105 (DX5_workOnQueue.at 19 rfl) (by decide) (fun c32 => absurd ((nI_leI (by omega) (by omega)).mp c32) (by omega)) (fun c32 => ?_)
            refine go_aload_0 (DX5_workOnQueue.at 20 rfl) ?_
            refine go_getfield (DX5_workOnQueue.at 21 rfl) fX5_10 hC.1 rfl ?_
            refine go_getfield (DX5_workOnQueue.at 22 rfl) fX5_131 hS.1 rfl ?_
            rw [hql, hq]
            refine go_if_le 105 (DX5_workOnQueue.at 23 rfl) (by decide) (fun c42 => ?_) (fun c42 => absurd (by decide) c42)
            refine go_iload_2 (DX5_workOnQueue.at 51 rfl) ?_
            exact go_iret (DX5_workOnQueue.at 52 rfl) rfl rfl (RI.mk ⟨by rw [← hRR, wkG_e hq]; rfl, by rw [← hRR, wkG_e hq]; exact hC⟩)
          | cons x l =>
            have hxm : x ∈ aQ A := by rw [hq]; exact List.mem_cons_self
            have hx0 := hA.lt160 hxm
            obtain ⟨ht, hc, hb⟩ := (hA.2.2.2.2 x).mp hxm
            have hlen : (aQ A).length = l.length + 1 := by rw [hq]; rfl
            have hq160 := hA.q160
            refine go_iload_3 (DX5_workOnQueue.at 17 rfl) ?_
            refine go_iload_1 (DX5_workOnQueue.at 18 rfl) ?_
            refine go_icmp_ge 105 (DX5_workOnQueue.at 19 rfl) (by decide) (fun c32 => absurd ((nI_leI (by omega) (by omega)).mp c32) (by omega)) (fun c32 => ?_)
            refine go_aload_0 (DX5_workOnQueue.at 20 rfl) ?_
            refine go_getfield (DX5_workOnQueue.at 21 rfl) fX5_10 hC.1 rfl ?_
            refine go_getfield (DX5_workOnQueue.at 22 rfl) fX5_131 hS.1 rfl ?_
            rw [hql, hlen]
            refine go_if_le 105 (DX5_workOnQueue.at 23 rfl) (by decide) (fun c42 => absurd c42 (by rw [show (0 : Int32) = nI 0 from rfl, nI_leI (by omega) (by decide)]; omega)) (fun c42 => ?_)
            refine go_aload_0 (DX5_workOnQueue.at 24 rfl) ?_
            refine go_getfield (DX5_workOnQueue.at 25 rfl) fX5_10 hC.1 rfl ?_
            refine go_getfield (DX5_workOnQueue.at 26 rfl) fX5_165 hS.1 rfl ?_
            refine go_iconst (v := nI 0) (DX5_workOnQueue.at 27 rfl) (by decide) ?_
            refine go_cSx2 (DX5_workOnQueue.at 28 rfl) nX5_155 vX5_at (by omega) (c_at (Or.inl hS.2.1) (show 0 < 160 by decide) (by decide)) (Nat.le_of_ble_eq_true rfl) ?_
            rw [hQ 0 x (by rw [hq]; rfl)]
            refine go_istore_4 (DX5_workOnQueue.at 29 rfl) ?_
            refine go_aload_0 (DX5_workOnQueue.at 30 rfl) ?_
            refine go_iload_4 (DX5_workOnQueue.at 31 rfl) ?_
            refine go_bipush (v := nI 100) (DX5_workOnQueue.at 32 rfl) (by decide) ?_
            refine go_idiv (DX5_workOnQueue.at 33 rfl) (by decide) ?_
            rw [pk_div (by omega) (by decide) (by decide), show (100 * (x / 20) + x % 20) / 100 = x / 20 by omega]
            refine go_iload_4 (DX5_workOnQueue.at 34 rfl) ?_
            refine go_bipush (v := nI 100) (DX5_workOnQueue.at 35 rfl) (by decide) ?_
            refine go_irem (DX5_workOnQueue.at 36 rfl) (by decide) ?_
            rw [pk_rem (by omega) (by decide) (by decide), show (100 * (x / 20) + x % 20) % 100 = x % 20 by omega]
            refine go_cVi2 (DX5_workOnQueue.at 37 rfl) nX5_88 vX5_mendCell (by omega) (c_mendCell hC (by omega)) hC.1 rfl (Nat.le_of_ble_eq_true rfl) (fun x69 h69 q69 => ?_)
            rw [mdF_in hA ht hc, cI_t hb] at q69
            rcases way_cases A (x / 20) (x % 20) with ⟨w, src, X', hW⟩ | hW
            · rw [mdA_s hW] at q69
              dsimp only at q69
              obtain ⟨rfl, hC1⟩ := q69
              refine go_if_lt 81 (DX5_workOnQueue.at 38 rfl) (by decide) (fun c72 => absurd c72 (nI_pos (by have := pcn_le src 20; omega))) (fun c72 => ?_)
              refine go_iincN_2 (DX5_workOnQueue.at 39 rfl) ?_
              refine go_goto 99 (DX5_workOnQueue.at 40 rfl) (by decide) ?_
              refine go_iincN_3 (DX5_workOnQueue.at 49 rfl) ?_
              refine go_goto 30 (DX5_workOnQueue.at 50 rfl) (by decide) ?_
              exact ih (s + 1) (k + 1) _ _ _ (by omega) (by omega) hC1 (by rw [← hRR, wkG_s hq hW, Nat.add_assoc, Nat.add_comm 1])
            · rw [mdA_0 hW] at q69
              dsimp only at q69
              obtain ⟨rfl, hC1⟩ := q69
              obtain ⟨σ2, hS2, hR2⟩ := hC1.2.2.1
              have hql2 := hR2.2.2.2.2.2.1
              rw [hlen] at hql2
              refine go_if_lt 81 (DX5_workOnQueue.at 38 rfl) (by decide) (fun c72 => ?_) (fun c72 => absurd (by decide) c72)
              refine go_aload_0 (DX5_workOnQueue.at 41 rfl) ?_
              refine go_getfield (DX5_workOnQueue.at 42 rfl) fX5_10 hC1.1 rfl ?_
              refine go_iload_4 (DX5_workOnQueue.at 43 rfl) ?_
              refine go_cVv1 (DX5_workOnQueue.at 44 rfl) nX5_273 vX4_leaveQueue (by omega) (c_leaveQueue hS2 (p := 0) hql2 (by omega) (by omega) (hR2.2.2.2.2.2.2.1 0 x (by rw [hq]; rfl)) (fun j hj => absurd hj (Nat.not_lt_zero j)) (by omega)) hS2.1 rfl (Nat.le_of_ble_eq_true rfl) (fun h87 q87 => ?_)
              have hC2 := hC1.toNow (M := fun _ => True) q87 trivial
              refine go_aload_0 (DX5_workOnQueue.at 45 rfl) ?_
              refine go_getfield (DX5_workOnQueue.at 46 rfl) fX5_10 hC2.1 rfl ?_
              refine go_iload_4 (DX5_workOnQueue.at 47 rfl) ?_
              refine go_cVv1 (DX5_workOnQueue.at 48 rfl) nX5_277 vX4_joinQueue (by omega) (c_joinQueue q87.1 (q := l.length) rfl (by omega) (by omega)) q87.1.1 rfl (Nat.le_of_ble_eq_true rfl) (fun h96 q96 => ?_)
              have hC3 := hC1.toNow (q87.then q96) (hR2.rot hq rfl (fun a ha => by
                rw [rset_n (by omega), rset_n (by omega), rset_n (by omega), rset_n (by omega)]) (fun k hk => by
                show upd (upd (σ2 0) 8 (nI l.length)) 8 (nI (l.length + 1)) k = σ2 0 k
                by_cases e : k = 8
                · rw [e, pk_us, hql2]
                · rw [pk_un e, pk_un e]))
              refine go_iincN_3 (DX5_workOnQueue.at 49 rfl) ?_
              refine go_goto 30 (DX5_workOnQueue.at 50 rfl) (by decide) ?_
              exact ih (s + 1) k _ _ _ (by omega) (by omega) hC3 (by rw [← hRR, wkG_n hq hW])
      exact loop st 0 0 A h _ (Nat.zero_add _) (Nat.le_refl 0) hC (by rw [hR0, Nat.zero_add])
    · have h5 : aQ A = [] := List.length_eq_zero_iff.mp ((nI_eq0 (by have := hA.q160; omega)).mp c20)
      have e : wkF A x = (-5, A) := by
        unfold wkF
        rw [cI_t c7, cI_t h5]
      refine go_bipush (v := (-5)) (DX5_workOnQueue.at 11 rfl) (by decide) ?_
      exact go_iret (DX5_workOnQueue.at 12 rfl) rfl rfl (RI.mk (by rw [e]; exact ⟨rfl, hC⟩))
  · rw [bI_eq0] at c7
    have e : wkF A x = (-2, A) := cI_f c7
    refine go_bipush (v := (-2)) (DX5_workOnQueue.at 5 rfl) (by decide) ?_
    exact go_iret (DX5_workOnQueue.at 6 rfl) rfl rfl (RI.mk (by rw [e]; exact ⟨rfl, hC⟩))

end CL
