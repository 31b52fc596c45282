/-! THE CLASS: orders are carried out -/
/-- the order at p -/
noncomputable def exO (Y : Nat → Nat) (N p : Nat) (A : Ab) : Int32 × Ab :=
  if Y p = 110 then lsF A (nI (nmv Y N (p + 1)))
  else if Y p = 119 then wrF A (nI (Y (p + 1) - 48)) (nI (nmv Y N (p + 3))) (nI (nmv Y N (nme Y N (p + 3) + 1)))
  else if Y p = 120 then loF A (nI (Y (p + 1) - 48)) (nI (nmv Y N (p + 3)))
  else mdF A (nI (Y (p + 1) - 48)) (nI (nmv Y N (p + 3)))
/-- an error, that is not NONE -/
def errI (x : Int32) : Prop := x < 0 ∧ x ≠ -5
/-- the orders from p on, so many -/
noncomputable def prG (Y : Nat → Nat) (N : Nat) : Nat → Nat → Ab → Int32 × Ab
  | 0, _, A => (0, A)
  | m + 1, p, A => cI (errI (exO Y N p A).1) (exO Y N p A) (prG Y N m ((ordR Y N p).2 + 1) (exO Y N p A).2)
noncomputable def pfF (Y : Nat → Nat) (N : Nat) (A : Ab) : Int32 × Ab := match (ffS Y N (N + 1) 0).1 with
  | some f => (-100 - nI f, A)
  | none => cI ((prG Y N (ffS Y N (N + 1) 0).2 0 A).1 < 0) (prG Y N (ffS Y N (N + 1) 0).2 0 A) (nI (ffS Y N (N + 1) 0).2, (prG Y N (ffS Y N (N + 1) 0).2 0 A).2)
theorem ordR_kind {Y : Nat → Nat} {N p : Nat} (h : (ordR Y N p).1 = true) : p < N ∧ (Y p = 110 ∨ Y p = 119 ∨ Y p = 120 ∨ Y p = 109) := by
  unfold ordR at h
  by_cases q : p < N ∧ Y p = 110
  · exact ⟨q.1, Or.inl q.2⟩
  · rw [if_neg q] at h
    by_cases q2 : p < N ∧ (Y p = 119 ∨ Y p = 120 ∨ Y p = 109)
    · exact ⟨q2.1, Or.inr q2.2⟩
    · rw [if_neg q2] at h
      cases h
theorem ffS_cnt {Y : Nat → Nat} {N : Nat} : ∀ m p, p ≤ N → (ffS Y N m p).2 ≤ N - p + 1
  | 0, p, _ => Nat.zero_le _
  | m + 1, p, hp => by
    unfold ffS
    by_cases q : (ordR Y N p).1 = false
    · rw [if_pos q]
      exact Nat.zero_le _
    · have ho : (ordR Y N p).1 = true := by
        cases e : (ordR Y N p).1 with
        | true => rfl
        | false => exact absurd e q
      have h1 := ordR_ok ho
      rw [if_neg q]
      by_cases q2 : (ordR Y N p).2 < N ∧ Y (ordR Y N p).2 = 59
      · rw [if_pos q2]
        have ih := ffS_cnt (Y := Y) (N := N) m ((ordR Y N p).2 + 1) (by omega)
        show (ffS Y N m ((ordR Y N p).2 + 1)).2 + 1 ≤ N - p + 1
        omega
      · rw [if_neg q2]
        by_cases q3 : (ordR Y N p).2 < N
        · rw [if_pos q3]
          show 1 ≤ N - p + 1
          omega
        · rw [if_neg q3]
          show 1 ≤ N - p + 1
          omega
theorem prG_no {Y : Nat → Nat} {N m p : Nat} {A : Ab} (h : ¬ errI (exO Y N p A).1) : prG Y N (m + 1) p A = prG Y N m ((ordR Y N p).2 + 1) (exO Y N p A).2 := cI_f h
theorem prG_yes {Y : Nat → Nat} {N m p : Nat} {A : Ab} (h : errI (exO Y N p A).1) : prG Y N (m + 1) p A = exO Y N p A := cI_t h
theorem nI_0x {x : Int32} : nI 0 ≤ x ↔ ¬ x < 0 := Int32.not_lt.symm
section CL
variable {E : AEnv} {d : Nat} {h h' : List va_E} {b : Nat} {A : Ab} {B S : RP} {n : Nat} {Hs : Nat → RP} {tk : Nat} {o X : Nat → Int32} {G : Nat → Option va_E} {Y : Nat → Nat} {N p : Nat}
theorem c_carryOut (hC : ClAt G h b (RepS A) B S n Hs tk o X) (hok : (ordR Y N p).1 = true) (h4 : o 4 = nI (Y p)) (hn : Y p = 110 → o 7 = nI (nmv Y N (p + 1))) (hx : Y p ≠ 110 → o 5 = nI (Y (p + 1) - 48) ∧ o 6 = nI (nmv Y N (p + 3)) ∧ (Y p = 119 → o 8 = nI (nmv Y N (nme Y N (p + 3) + 1)))) (hd : 6 ≤ d) : Calls E mX5_carryOut d 0 0 [.ref b] h (RI (fun r h' => r = (exO Y N p A).1 ∧ ClAt G h' b (RepS (exO Y N p A).2) B S n Hs tk o X)) := by
  refine Calls.of (ls := [some (.ref b)]) (by decide +kernel) rfl (Nat.le_of_ble_eq_true rfl) (cat_ok rfl) ?_
  obtain ⟨hpN, hk⟩ := ordR_kind hok
  rcases hk with hk | hk | hk | hk
  · rw [hk] at h4
    refine go_aload_0 (DX5_carryOut.at 0 rfl) ?_
    refine go_getfield (DX5_carryOut.at 1 rfl) fX5_29 hC.1 rfl ?_
    refine go_getfield (DX5_carryOut.at 2 rfl) fX5_283 hC.2.2.2.2.2.2.1.1 rfl ?_
    rw [h4]
    refine go_lookup (off := 86) 93 (DX5_carryOut.at 3 rfl) rfl (by decide +kernel) (by decide) ?_
    refine go_aload_0 (DX5_carryOut.at 25 rfl) ?_
    refine go_aload_0 (DX5_carryOut.at 26 rfl) ?_
    refine go_getfield (DX5_carryOut.at 27 rfl) fX5_29 hC.1 rfl ?_
    refine go_getfield (DX5_carryOut.at 28 rfl) fX5_295 hC.2.2.2.2.2.2.1.1 rfl ?_
    rw [hn hk]
    refine go_cVi1 (DX5_carryOut.at 29 rfl) nX5_85 vX5_loseCellsOn (by omega) (c_loseCellsOn hC (by omega)) hC.1 rfl (Nat.le_of_ble_eq_true rfl) (fun x101 h101 q101 => ?_)
    exact go_iret (DX5_carryOut.at 30 rfl) rfl rfl (RI.mk (by rw [show exO Y N p A = lsF A (nI (nmv Y N (p + 1))) from if_pos hk]; exact q101))
  · rw [hk] at h4
    refine go_aload_0 (DX5_carryOut.at 0 rfl) ?_
    refine go_getfield (DX5_carryOut.at 1 rfl) fX5_29 hC.1 rfl ?_
    refine go_getfield (DX5_carryOut.at 2 rfl) fX5_283 hC.2.2.2.2.2.2.1.1 rfl ?_
    rw [h4]
    refine go_lookup (off := 41) 48 (DX5_carryOut.at 3 rfl) rfl (by decide +kernel) (by decide) ?_
    refine go_aload_0 (DX5_carryOut.at 4 rfl) ?_
    refine go_aload_0 (DX5_carryOut.at 5 rfl) ?_
    refine go_getfield (DX5_carryOut.at 6 rfl) fX5_29 hC.1 rfl ?_
    refine go_getfield (DX5_carryOut.at 7 rfl) fX5_286 hC.2.2.2.2.2.2.1.1 rfl ?_
    rw [(hx (by omega)).1]
    refine go_aload_0 (DX5_carryOut.at 8 rfl) ?_
    refine go_getfield (DX5_carryOut.at 9 rfl) fX5_29 hC.1 rfl ?_
    refine go_getfield (DX5_carryOut.at 10 rfl) fX5_289 hC.2.2.2.2.2.2.1.1 rfl ?_
    rw [(hx (by omega)).2.1]
    refine go_aload_0 (DX5_carryOut.at 11 rfl) ?_
    refine go_getfield (DX5_carryOut.at 12 rfl) fX5_29 hC.1 rfl ?_
    refine go_getfield (DX5_carryOut.at 13 rfl) fX5_292 hC.2.2.2.2.2.2.1.1 rfl ?_
    rw [(hx (by omega)).2.2 hk]
    refine go_cVi3 (DX5_carryOut.at 14 rfl) nX5_74 vX5_writeCell (by omega) (c_writeCell hC (by omega)) hC.1 rfl (Nat.le_of_ble_eq_true rfl) (fun x70 h70 q70 => ?_)
    exact go_iret (DX5_carryOut.at 15 rfl) rfl rfl (RI.mk (by rw [show exO Y N p A = wrF A (nI (Y (p + 1) - 48)) (nI (nmv Y N (p + 3))) (nI (nmv Y N (nme Y N (p + 3) + 1))) from by unfold exO; rw [if_neg (by omega), if_pos hk]]; exact q70))
  · rw [hk] at h4
    refine go_aload_0 (DX5_carryOut.at 0 rfl) ?_
    refine go_getfield (DX5_carryOut.at 1 rfl) fX5_29 hC.1 rfl ?_
    refine go_getfield (DX5_carryOut.at 2 rfl) fX5_283 hC.2.2.2.2.2.2.1.1 rfl ?_
    rw [h4]
    refine go_lookup (off := 67) 74 (DX5_carryOut.at 3 rfl) rfl (by decide +kernel) (by decide) ?_
    refine go_aload_0 (DX5_carryOut.at 16 rfl) ?_
    refine go_aload_0 (DX5_carryOut.at 17 rfl) ?_
    refine go_getfield (DX5_carryOut.at 18 rfl) fX5_29 hC.1 rfl ?_
    refine go_getfield (DX5_carryOut.at 19 rfl) fX5_286 hC.2.2.2.2.2.2.1.1 rfl ?_
    rw [(hx (by omega)).1]
    refine go_aload_0 (DX5_carryOut.at 20 rfl) ?_
    refine go_getfield (DX5_carryOut.at 21 rfl) fX5_29 hC.1 rfl ?_
    refine go_getfield (DX5_carryOut.at 22 rfl) fX5_289 hC.2.2.2.2.2.2.1.1 rfl ?_
    rw [(hx (by omega)).2.1]
    refine go_cVi2 (DX5_carryOut.at 23 rfl) nX5_81 vX5_loseCell (by omega) (c_loseCell hC (by omega)) hC.1 rfl (Nat.le_of_ble_eq_true rfl) (fun x89 h89 q89 => ?_)
    exact go_iret (DX5_carryOut.at 24 rfl) rfl rfl (RI.mk (by rw [show exO Y N p A = loF A (nI (Y (p + 1) - 48)) (nI (nmv Y N (p + 3))) from by unfold exO; rw [if_neg (by omega), if_neg (by omega), if_pos hk]]; exact q89))
  · rw [hk] at h4
    refine go_aload_0 (DX5_carryOut.at 0 rfl) ?_
    refine go_getfield (DX5_carryOut.at 1 rfl) fX5_29 hC.1 rfl ?_
    refine go_getfield (DX5_carryOut.at 2 rfl) fX5_283 hC.2.2.2.2.2.2.1.1 rfl ?_
    rw [h4]
    refine go_lookup (off := 98) 105 (DX5_carryOut.at 3 rfl) rfl (by decide +kernel) (by decide) ?_
    refine go_aload_0 (DX5_carryOut.at 31 rfl) ?_
    refine go_aload_0 (DX5_carryOut.at 32 rfl) ?_
    refine go_getfield (DX5_carryOut.at 33 rfl) fX5_29 hC.1 rfl ?_
    refine go_getfield (DX5_carryOut.at 34 rfl) fX5_286 hC.2.2.2.2.2.2.1.1 rfl ?_
    rw [(hx (by omega)).1]
    refine go_aload_0 (DX5_carryOut.at 35 rfl) ?_
    refine go_getfield (DX5_carryOut.at 36 rfl) fX5_29 hC.1 rfl ?_
    refine go_getfield (DX5_carryOut.at 37 rfl) fX5_289 hC.2.2.2.2.2.2.1.1 rfl ?_
    rw [(hx (by omega)).2.1]
    refine go_cVi2 (DX5_carryOut.at 38 rfl) nX5_88 vX5_mendCell (by omega) (c_mendCell hC (by omega)) hC.1 rfl (Nat.le_of_ble_eq_true rfl) (fun x120 h120 q120 => ?_)
    exact go_iret (DX5_carryOut.at 39 rfl) rfl rfl (RI.mk (by rw [show exO Y N p A = mdF A (nI (Y (p + 1) - 48)) (nI (nmv Y N (p + 3))) from by unfold exO; rw [if_neg (by omega), if_neg (by omega), if_neg (by omega)]]; exact q120))

theorem ffS_le {Y : Nat → Nat} {N f : Nat} (hN : N ≤ 60) (h : (ffS Y N (N + 1) 0).1 = some f) : f ≤ 100 := by
  have key : ∀ m p, p ≤ N → N < p + m → ∀ f, (ffS Y N m p).1 = some f → f ≤ N := by
    intro m
    induction m with
    | zero => intro p h1 h2; omega
    | succ m ih =>
      intro p hp hm f hf
      have hle := ordR_le (Y := Y) hp
      unfold ffS at hf
      by_cases q : (ordR Y N p).1 = false
      · rw [if_pos q] at hf
        cases hf
        exact hle
      · rw [if_neg q] at hf
        have ho : (ordR Y N p).1 = true := by
          cases e : (ordR Y N p).1 with
          | true => rfl
          | false => exact absurd e q
        have h1 := ordR_ok ho
        by_cases q2 : (ordR Y N p).2 < N ∧ Y (ordR Y N p).2 = 59
        · rw [if_pos q2] at hf
          exact ih ((ordR Y N p).2 + 1) (by omega) (by omega) f hf
        · rw [if_neg q2] at hf
          by_cases q3 : (ordR Y N p).2 < N
          · rw [if_pos q3] at hf
            cases hf
            exact hle
          · rw [if_neg q3] at hf
            cases hf
  have := key (N + 1) 0 (Nat.zero_le _) (by omega) f h
  omega
theorem m100 {f : Nat} (h : f ≤ 100) : -100 - nI f < 0 := by
  have hd : (List.range 101).all (fun f => decide (-100 - nI f < 0)) = true := by decide +kernel
  exact of_decide_eq_true (List.all_eq_true.mp hd f (List.mem_range.mpr (by omega)))
theorem c_perform (hC : ClAt G h b (RepS A) B S n Hs tk o X) (hT : TxtIs X Y N) (hN : o 1 = nI N) (hd : 8 ≤ d) : Calls E mX5_perform d 0 0 [.ref b] h (RI (fun r h' => ∃ o', o' 1 = o 1 ∧ r = (pfF Y N A).1 ∧ ((r < 0 ∧ ∃ B', ClAt G h' b (RepS A) B' S n Hs tk o' X) ∨ (0 ≤ r ∧ ∃ B', ClAt G h' b (RepS (pfF Y N A).2) B' S (recN n) (recH n Hs (RepS A)) tk o' X)))) := by
  refine Calls.of (ls := [some (.ref b), none, none, none]) (by decide +kernel) rfl (Nat.le_of_ble_eq_true rfl) (cat_ok rfl) ?_
  have hN60 := hT.1
  refine go_aload_0 (DX5_perform.at 0 rfl) ?_
  refine go_getfield (DX5_perform.at 1 rfl) fX5_29 hC.1 rfl ?_
  refine go_cVi0 (DX5_perform.at 2 rfl) nX5_107 vX1_findFault (by omega) (c_findFault hC.2.2.2.2.2.2.1 hT hN (by omega)) hC.2.2.2.2.2.2.1.1 rfl (Nat.le_of_ble_eq_true rfl) (fun x4 h4 q4 => ?_)
  obtain ⟨o1, u4, f1, q4⟩ := q4
  have hC1 := hC.toText u4
  rcases q4 with ⟨f, hf, rfl⟩ | ⟨hf, rfl, h3⟩
  · have e : pfF Y N A = (-100 - nI f, A) := by
      unfold pfF
      rw [hf]
    have hfN : f ≤ 100 := ffS_le hT.1 hf
    refine go_istore_1 (DX5_perform.at 3 rfl) ?_
    refine go_iload_1 (DX5_perform.at 4 rfl) ?_
    refine go_iconst (v := (-1)) (DX5_perform.at 5 rfl) (by decide) ?_
    refine go_icmp_eq 18 (DX5_perform.at 6 rfl) (by decide) (fun c10 => absurd c10 (nI_ne1 (by omega))) (fun c10 => ?_)
    refine go_bipush (v := (-100)) (DX5_perform.at 7 rfl) (by decide) ?_
    refine go_iload_1 (DX5_perform.at 8 rfl) ?_
    refine go_isub (DX5_perform.at 9 rfl) ?_
    exact go_iret (DX5_perform.at 10 rfl) rfl rfl (RI.mk ⟨o1, f1, by rw [e], Or.inl ⟨m100 hfN, _, hC1⟩⟩)
  · refine go_istore_1 (DX5_perform.at 3 rfl) ?_
    refine go_iload_1 (DX5_perform.at 4 rfl) ?_
    refine go_iconst (v := (-1)) (DX5_perform.at 5 rfl) (by decide) ?_
    refine go_icmp_eq 18 (DX5_perform.at 6 rfl) (by decide) (fun c10 => ?_) (fun c10 => absurd rfl c10)
    refine go_aload_0 (DX5_perform.at 11 rfl) ?_
    refine go_cVv0 (DX5_perform.at 12 rfl) nX5_59 vX5_begin (by omega) (c_begin hC1 RepS.rc (by omega)) hC1.1 rfl (Nat.le_of_ble_eq_true rfl) (fun h19 q19 => ?_)
    refine go_aload_0 (DX5_perform.at 13 rfl) ?_
    refine go_getfield (DX5_perform.at 14 rfl) fX5_29 q19.1 rfl ?_
    refine go_cVv0 (DX5_perform.at 15 rfl) nX5_110 vX1_goToStart (by omega) (c_goToStart_ q19.2.2.2.2.2.2.1) q19.2.2.2.2.2.2.1.1 rfl (Nat.le_of_ble_eq_true rfl) (fun h26 q26 => ?_)
    refine go_iconst (v := nI 0) (DX5_perform.at 16 rfl) (by decide) ?_
    refine go_istore_2 (DX5_perform.at 17 rfl) ?_
    have e : pfF Y N A = cI ((prG Y N (ffS Y N (N + 1) 0).2 0 A).1 < 0) (prG Y N (ffS Y N (N + 1) 0).2 0 A) (nI (ffS Y N (N + 1) 0).2, (prG Y N (ffS Y N (N + 1) 0).2 0 A).2) := by
      unfold pfF
      rw [hf]
    rw [e]
    have hK60 := ffS_cnt (Y := Y) (N := N) (N + 1) 0 (Nat.zero_le _)
    generalize hKK : (ffS Y N (N + 1) 0).2 = K at h3 hK60 ⊢
    generalize hR0 : prG Y N K 0 A = R
    generalize hA0 : A = A0 at hC hC1 q19 ⊢
    have fin : ∀ (x3 : Option Value) (A : Ab) (h : List va_E) (o : Nat → Int32) (R : Int32 × Ab), ClAt G h b (RepS A) (RepS A0) S n Hs tk o X → o 1 = nI N → o 3 = nI K → R = (0, A) → Go E mX5_perform d 0 0 31 [some (.ref b), some (.int (-1)), some (.int (nI K)), x3] [] h (RI (fun r h' => ∃ o', o' 1 = nI N ∧ ((R.1 < 0 ∧ r = R.1 ∧ ∃ B', ClAt G h' b (RepS A0) B' S n Hs tk o' X) ∨ (¬ R.1 < 0 ∧ r = nI K ∧ ∃ B', ClAt G h' b (RepS R.2) B' S (recN n) (recH n Hs (RepS A0)) tk o' X)))) := by
      intro x3 A h o R hC h1 h3 hRR
      subst hRR
      refine go_iload_2 (DX5_perform.at 18 rfl) ?_
      refine go_aload_0 (DX5_perform.at 19 rfl) ?_
      refine go_getfield (DX5_perform.at 20 rfl) fX5_29 hC.1 rfl ?_
      refine go_getfield (DX5_perform.at 21 rfl) fX5_113 hC.2.2.2.2.2.2.1.1 rfl ?_
      rw [h3]
      refine go_icmp_ge 87 (DX5_perform.at 22 rfl) (by decide) (fun c39 => ?_) (fun c39 => absurd (Int32.le_refl _) c39)
      refine go_aload_0 (DX5_perform.at 46 rfl) ?_
      refine go_aload_0 (DX5_perform.at 47 rfl) ?_
      refine go_getfield (DX5_perform.at 48 rfl) fX5_29 hC.1 rfl ?_
      refine go_getfield (DX5_perform.at 49 rfl) fX5_113 hC.2.2.2.2.2.2.1.1 rfl ?_
      rw [h3]
      refine go_cVi1 (DX5_perform.at 50 rfl) nX5_70 vX5_finish (by omega) (c_finishYes hC RepS.rc (nI_0le (by omega)) (by omega)) hC.1 rfl (Nat.le_of_ble_eq_true rfl) (fun x95 h95 q95 => ?_)
      exact go_iret (DX5_perform.at 51 rfl) rfl rfl (RI.mk ⟨o, h1, Or.inr ⟨(show ¬ (0 : Int32) < 0 from by decide), q95.1, _, q95.2⟩⟩)
    have loop : ∀ (f p done : Nat) (A : Ab) (h : List va_E) (o : Nat → Int32) (x3 : Option Value), ClAt G h b (RepS A) (RepS A0) S n Hs tk o X → o 1 = nI N → o 2 = nI p → o 3 = nI K → p ≤ N → (ffS Y N f p).1 = none → done + (ffS Y N f p).2 = K → prG Y N (ffS Y N f p).2 p A = R → Go E mX5_perform d 0 0 31 [some (.ref b), some (.int (-1)), some (.int (nI done)), x3] [] h (RI (fun r h' => ∃ o', o' 1 = nI N ∧ ((R.1 < 0 ∧ r = R.1 ∧ ∃ B', ClAt G h' b (RepS A0) B' S n Hs tk o' X) ∨ (¬ R.1 < 0 ∧ r = nI K ∧ ∃ B', ClAt G h' b (RepS R.2) B' S (recN n) (recH n Hs (RepS A0)) tk o' X)))) := by
      intro f
      induction f with
      | zero =>
        intro p done A h o x3 _ _ _ _ _ hno
        cases hno
      | succ f ih =>
        intro p done A h o x3 hC h1 h2 h3 hpN hno hcnt hRR
        have hok : (ordR Y N p).1 = true := by
          cases e : (ordR Y N p).1 with
          | true => rfl
          | false =>
            rw [ffS, if_pos e] at hno
            cases hno
        have hor := ordR_ok hok
        have hm2 : (ffS Y N (f + 1) p).2 = (ffS Y N (f + 1) p).2 - 1 + 1 := by
          have : 1 ≤ (ffS Y N (f + 1) p).2 := by
            rw [ffS, if_neg (by rw [hok]; decide)]
            split
            · show 1 ≤ (ffS Y N f ((ordR Y N p).2 + 1)).2 + 1
              omega
            · split
              · exact Nat.le_refl 1
              · exact Nat.le_refl 1
          omega
        refine go_iload_2 (DX5_perform.at 18 rfl) ?_
        refine go_aload_0 (DX5_perform.at 19 rfl) ?_
        refine go_getfield (DX5_perform.at 20 rfl) fX5_29 hC.1 rfl ?_
        refine go_getfield (DX5_perform.at 21 rfl) fX5_113 hC.2.2.2.2.2.2.1.1 rfl ?_
        rw [h3]
        refine go_icmp_ge 87 (DX5_perform.at 22 rfl) (by decide) (fun c39 => absurd ((nI_leI (by omega) (by omega)).mp c39) (by omega)) (fun c39 => ?_)
        refine go_aload_0 (DX5_perform.at 23 rfl) ?_
        refine go_getfield (DX5_perform.at 24 rfl) fX5_29 hC.1 rfl ?_
        refine go_cVi0 (DX5_perform.at 25 rfl) nX5_116 vX1_readOrder (by omega) (c_readOrder hC.2.2.2.2.2.2.1 hT h1 h2 (by omega) (by omega)) hC.2.2.2.2.2.2.1.1 rfl (Nat.le_of_ble_eq_true rfl) (fun x46 h46 q46 => ?_)
        obtain ⟨o2, u46, e1, e3, e2, q46⟩ := q46
        rcases q46 with ⟨-, rfl, k4, kn, kx⟩ | ⟨q46, -⟩
        · have hC3 := hC.toText u46
          refine go_pop (DX5_perform.at 26 rfl) rfl ?_
          refine go_aload_0 (DX5_perform.at 27 rfl) ?_
          refine go_cVi0 (DX5_perform.at 28 rfl) nX5_120 vX5_carryOut (by omega) (c_carryOut hC3 hok k4 kn kx (by omega)) hC3.1 rfl (Nat.le_of_ble_eq_true rfl) (fun x51 h51 q51 => ?_)
          obtain ⟨e51, hC4⟩ := q51
          subst e51
          by_cases he : errI (exO Y N p A).1
          · have hRe : R = exO Y N p A := by rw [← hRR, hm2, prG_yes he]
            refine go_istore_3 (DX5_perform.at 29 rfl) ?_
            refine go_iload_3 (DX5_perform.at 30 rfl) ?_
            refine go_if_ge 71 (DX5_perform.at 31 rfl) (by decide) (fun c56 => absurd c56 (Int32.not_le.mpr he.1)) (fun c56 => ?_)
            refine go_iload_3 (DX5_perform.at 32 rfl) ?_
            refine go_bipush (v := (-5)) (DX5_perform.at 33 rfl) (by decide) ?_
            refine go_icmp_eq 71 (DX5_perform.at 34 rfl) (by decide) (fun c62 => absurd c62 he.2) (fun c62 => ?_)
            refine go_aload_0 (DX5_perform.at 35 rfl) ?_
            refine go_iload_3 (DX5_perform.at 36 rfl) ?_
            refine go_cVi1 (DX5_perform.at 37 rfl) nX5_70 vX5_finish (by omega) (c_finishNo hC4 RepS.rc he.1 (by omega)) hC4.1 rfl (Nat.le_of_ble_eq_true rfl) (fun x67 h67 q67 => ?_)
            exact go_iret (DX5_perform.at 38 rfl) rfl rfl (RI.mk ⟨o2, e1.trans h1, Or.inl ⟨by rw [hRe]; exact he.1, by rw [hRe]; exact q67.1, _, q67.2⟩⟩)
          · have hRe : prG Y N (ffS Y N (f + 1) p).2 p A = prG Y N ((ffS Y N (f + 1) p).2 - 1) ((ordR Y N p).2 + 1) (exO Y N p A).2 := by rw [hm2, prG_no he]; rfl
            generalize hA4 : (exO Y N p A).2 = A4 at hC4 hRe
            by_cases hz : (exO Y N p A).1 = -5
            · refine go_istore_3 (DX5_perform.at 29 rfl) ?_
              refine go_iload_3 (DX5_perform.at 30 rfl) ?_
              refine go_if_ge 71 (DX5_perform.at 31 rfl) (by decide) (fun c56 => absurd c56 (by rw [hz]; decide)) (fun c56 => ?_)
              refine go_iload_3 (DX5_perform.at 32 rfl) ?_
              refine go_bipush (v := (-5)) (DX5_perform.at 33 rfl) (by decide) ?_
              refine go_icmp_eq 71 (DX5_perform.at 34 rfl) (by decide) (fun c62 => ?_) (fun c62 => absurd hz c62)
              refine go_aload_0 (DX5_perform.at 39 rfl) ?_
              refine go_getfield (DX5_perform.at 40 rfl) fX5_29 hC4.1 rfl ?_
              refine go_bipush (v := nI 59) (DX5_perform.at 41 rfl) (by decide) ?_
              refine go_cVi1 (DX5_perform.at 42 rfl) nX5_123 vX1_pass (by omega) (c_pass (p := (ordR Y N p).2) (wn := 59) hC4.2.2.2.2.2.2.1 hT (e1.trans h1) e2 (by omega) (by decide) (by omega)) hC4.2.2.2.2.2.2.1.1 rfl (Nat.le_of_ble_eq_true rfl) (fun x77 h77 q77 => ?_)
              rcases q77 with ⟨k1, k2, rfl, u77⟩ | ⟨g2, rfl, rfl⟩
              · have eR : ffS Y N (f + 1) p = ((ffS Y N f ((ordR Y N p).2 + 1)).1, (ffS Y N f ((ordR Y N p).2 + 1)).2 + 1) := by rw [ffS, if_neg (by rw [hok]; decide), if_pos ⟨k1, k2⟩]
                rw [eR] at hRe hm2 hcnt hno
                rw [eR] at hRR
                refine go_pop (DX5_perform.at 43 rfl) rfl ?_
                refine go_iincN_2 (DX5_perform.at 44 rfl) ?_
                refine go_goto 31 (DX5_perform.at 45 rfl) (by decide) ?_
                refine ih ((ordR Y N p).2 + 1) (done + 1) A4 _ _ _ (hC4.toText u77) (e1.trans h1) rfl (e3.trans h3) (by omega) hno (by dsimp only at hcnt; omega) (by rw [← hRR]; exact hRe.symm)
              · have hno2 := hno
                rw [ffS, if_neg (by rw [hok]; decide), if_neg g2] at hno2
                have eR : ffS Y N (f + 1) p = (none, 1) := by
                  rw [ffS, if_neg (by rw [hok]; decide), if_neg g2]
                  by_cases q : (ordR Y N p).2 < N
                  · rw [if_pos q] at hno2
                    cases hno2
                  · rw [if_neg q]
                rw [eR] at hRe hcnt hRR
                refine go_pop (DX5_perform.at 43 rfl) rfl ?_
                refine go_iincN_2 (DX5_perform.at 44 rfl) ?_
                refine go_goto 31 (DX5_perform.at 45 rfl) (by decide) ?_
                obtain rfl : K = done + 1 := hcnt.symm
                refine fin _ A4 _ _ _ hC4 (e1.trans h1) (e3.trans h3) ?_
                rw [← hRR]
                exact hRe
              
            · refine go_istore_3 (DX5_perform.at 29 rfl) ?_
              refine go_iload_3 (DX5_perform.at 30 rfl) ?_
              refine go_if_ge 71 (DX5_perform.at 31 rfl) (by decide) (fun c56 => ?_) (fun c56 => absurd (Int32.not_le.mp c56) (fun q => he ⟨q, hz⟩))
              refine go_aload_0 (DX5_perform.at 39 rfl) ?_
              refine go_getfield (DX5_perform.at 40 rfl) fX5_29 hC4.1 rfl ?_
              refine go_bipush (v := nI 59) (DX5_perform.at 41 rfl) (by decide) ?_
              refine go_cVi1 (DX5_perform.at 42 rfl) nX5_123 vX1_pass (by omega) (c_pass (p := (ordR Y N p).2) (wn := 59) hC4.2.2.2.2.2.2.1 hT (e1.trans h1) e2 (by omega) (by decide) (by omega)) hC4.2.2.2.2.2.2.1.1 rfl (Nat.le_of_ble_eq_true rfl) (fun x77 h77 q77 => ?_)
              rcases q77 with ⟨k1, k2, rfl, u77⟩ | ⟨g2, rfl, rfl⟩
              · have eR : ffS Y N (f + 1) p = ((ffS Y N f ((ordR Y N p).2 + 1)).1, (ffS Y N f ((ordR Y N p).2 + 1)).2 + 1) := by rw [ffS, if_neg (by rw [hok]; decide), if_pos ⟨k1, k2⟩]
                rw [eR] at hRe hm2 hcnt hno
                rw [eR] at hRR
                refine go_pop (DX5_perform.at 43 rfl) rfl ?_
                refine go_iincN_2 (DX5_perform.at 44 rfl) ?_
                refine go_goto 31 (DX5_perform.at 45 rfl) (by decide) ?_
                refine ih ((ordR Y N p).2 + 1) (done + 1) A4 _ _ _ (hC4.toText u77) (e1.trans h1) rfl (e3.trans h3) (by omega) hno (by dsimp only at hcnt; omega) (by rw [← hRR]; exact hRe.symm)
              · have hno2 := hno
                rw [ffS, if_neg (by rw [hok]; decide), if_neg g2] at hno2
                have eR : ffS Y N (f + 1) p = (none, 1) := by
                  rw [ffS, if_neg (by rw [hok]; decide), if_neg g2]
                  by_cases q : (ordR Y N p).2 < N
                  · rw [if_pos q] at hno2
                    cases hno2
                  · rw [if_neg q]
                rw [eR] at hRe hcnt hRR
                refine go_pop (DX5_perform.at 43 rfl) rfl ?_
                refine go_iincN_2 (DX5_perform.at 44 rfl) ?_
                refine go_goto 31 (DX5_perform.at 45 rfl) (by decide) ?_
                obtain rfl : K = done + 1 := hcnt.symm
                refine fin _ A4 _ _ _ hC4 (e1.trans h1) (e3.trans h3) ?_
                rw [← hRR]
                exact hRe
              
        · rw [hok] at q46
          cases q46
        
    refine Go.weaken (loop (N + 1) 0 0 A0 _ _ _ (q19.toText q26) (f1.trans hN) rfl h3 (Nat.zero_le _) hf (by rw [hKK, Nat.zero_add]) (by rw [hKK, ← hA0]; exact hR0)) ?_
    rintro r h1 ⟨y, rfl, o2, g1, g2 | g2⟩
    · obtain ⟨g2, rfl, B', g3⟩ := g2
      rw [cI_t g2]
      exact RI.mk ⟨o2, g1.trans hN.symm, rfl, Or.inl ⟨g2, B', g3⟩⟩
    · obtain ⟨g2, rfl, B', g3⟩ := g2
      rw [cI_f g2]
      exact RI.mk ⟨o2, g1.trans hN.symm, rfl, Or.inr ⟨nI_0le (by omega), B', g3⟩⟩
  

end CL
