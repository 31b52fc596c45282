/-! WHAT A NODE IS DUE -/
noncomputable def du4 (A : Ab) (nd : Nat) : Int32 := match mnC A nd (aT A) 0 with
  | none => -4
  | some s => cnI s
theorem du4_n {A : Ab} {nd : Nat} (h : mnC A nd (aT A) 0 = none) : du4 A nd = -4 := by
  unfold du4
  rw [h]
theorem du4_s {A : Ab} {nd s : Nat} (h : mnC A nd (aT A) 0 = some s) : du4 A nd = cnI s := by
  unfold du4
  rw [h]
theorem cnI_0 : cnI 0 = -5 := if_pos rfl
theorem cnI_p {k : Nat} (h : k ≠ 0) : cnI k = nI k := if_neg h
/-- while the ways are added -/
def DuI (A : Ab) (nd m t x : Nat) (y z : Int32) : Prop := (z = nI 1 ∧ ((x = 0 ∧ y = nI 0) ∨ (x ≠ 0 ∧ y = nI 1)) ∧ mnC A nd (aT A) 0 = (mnC A nd m t).map (fun r => x + r)) ∨ (z = nI 0 ∧ y = nI 1 ∧ mnC A nd (aT A) 0 = none)
theorem map_0 {o : Option Nat} : o.map (fun r => 0 + r) = o := by
  cases o with
  | none => rfl
  | some r =>
    show some (0 + r) = some r
    rw [Nat.zero_add]
theorem map_a {o : Option Nat} {x y : Nat} : (o.map (fun r => y + r)).map (fun r => x + r) = o.map (fun r => x + y + r) := by
  cases o with
  | none => rfl
  | some r =>
    show some (x + (y + r)) = some (x + y + r)
    rw [Nat.add_assoc]
section LM
variable {E : AEnv} {d : Nat} {h h' h0 : List va_E} {ρ ρ' : Nat → Nat → Int32} {A : Ab} {Z : Zt} {G : Nat → Option va_E}
theorem c_due2 {nd : Nat} (hnd : nd < nc (aG A) (aS A)) (hL : LA h ρ) (hR : LR A ρ) (hd : 2 ≤ d) : Calls E mL_nodeDue d 0 0 [.int (nI 2), .ref 57, .int (nI nd), .ref 52, .ref 54] h (RX (cnI (lnC A nd (aT A) 0)) h) := by
  refine Calls.of (ls := [some (.int (nI 2)), some (.ref 57), some (.int (nI nd)), some (.ref 52), some (.ref 54), none, none, none, none, none]) (by decide +kernel) rfl (Nat.le_of_ble_eq_true rfl) (cat_ok rfl) ?_
  have hA := hR.1
  have hY := hR.2.1
  have hLO := hY.1
  have hT3 : aT A ≤ 3 := hY.2.1
  have hn := hLO.nc
  have hg4 : aG A ≤ 4 := hLO.2.1
  have hg1 : 1 ≤ aG A := hLO.1
  have hs6 : aS A ≤ 6 := hLO.2.2.2.1
  have hs2 : 2 ≤ aS A := hLO.2.2.1
  have hgs : aG A * aS A ≤ 15 := hLO.2.2.2.2.1
  have hH5 : aH A ≤ 5 := hLO.2.2.2.2.2.2.2
  have hT1 : 1 ≤ aT A := hLO.2.2.2.2.2.1
  have en : nc (aG A) (aS A) = aG A * aS A + aG A + 2 := rfl
  have loop : ∀ (m t x : Nat) (y : Int32) (u9 : Option Value), ((x = 0 ∧ y = nI 0) ∨ (x ≠ 0 ∧ y = nI 1)) → t + m = aT A → x + lnC A nd m t = lnC A nd (aT A) 0 → Go E mL_nodeDue d 0 0 12 [some (.int (nI 2)), some (.ref 57), some (.int (nI nd)), some (.ref 52), some (.ref 54), some (.int (nI x)), some (.int y), some (.int (nI 1)), some (.int (nI t)), u9] [] h (RX (cnI (lnC A nd (aT A) 0)) h) := by
    intro m
    induction m with
    | zero =>
      intro t x y u9 hy hm hx
      have et : t = aT A := by omega
      subst et
      have hx : x + 0 = lnC A nd (aT A) 0 := hx
      rw [Nat.add_zero] at hx
      rcases hy with ⟨ex, ey⟩ | ⟨ex, ey⟩
      · subst ey
        refine go_iload_8 (DL_nodeDue.at 8 rfl) ?_
        refine go_aload_3 (DL_nodeDue.at 9 rfl) ?_
        refine go_iconst (v := nI 2) (DL_nodeDue.at 10 rfl) (by decide) ?_
        refine go_ialdL 0 (DL_nodeDue.at 11 rfl) hL (by decide) (show 2 < 9 by decide) ?_
        rw [hY.2.2.2.2.1]
        refine go_icmp_ge 149 (DL_nodeDue.at 12 rfl) (by decide) (fun c17 => ?_) (fun c17 => absurd (Int32.le_refl _) c17)
        refine go_iload_6 (DL_nodeDue.at 83 rfl) ?_
        refine go_if_ne 159 (DL_nodeDue.at 84 rfl) (by decide) (fun c151 => absurd (show nI 0 = 0 by decide) c151) (fun c151 => ?_)
        refine go_bipush (v := (-5)) (DL_nodeDue.at 85 rfl) (by decide) ?_
        refine go_goto 171 (DL_nodeDue.at 86 rfl) (by decide) ?_
        exact go_iret (DL_nodeDue.at 92 rfl) rfl rfl (RX.mk (by rw [← hx, ex]; exact cnI_0.symm) rfl)
      · subst ey
        refine go_iload_8 (DL_nodeDue.at 8 rfl) ?_
        refine go_aload_3 (DL_nodeDue.at 9 rfl) ?_
        refine go_iconst (v := nI 2) (DL_nodeDue.at 10 rfl) (by decide) ?_
        refine go_ialdL 0 (DL_nodeDue.at 11 rfl) hL (by decide) (show 2 < 9 by decide) ?_
        rw [hY.2.2.2.2.1]
        refine go_icmp_ge 149 (DL_nodeDue.at 12 rfl) (by decide) (fun c17 => ?_) (fun c17 => absurd (Int32.le_refl _) c17)
        refine go_iload_6 (DL_nodeDue.at 83 rfl) ?_
        refine go_if_ne 159 (DL_nodeDue.at 84 rfl) (by decide) (fun c151 => ?_) (fun c151 => absurd c151 (by decide))
        refine go_iload_7 (DL_nodeDue.at 87 rfl) ?_
        refine go_if_eq 169 (DL_nodeDue.at 88 rfl) (by decide) (fun c161 => absurd c161 (by decide)) (fun c161 => ?_)
        refine go_iload_5 (DL_nodeDue.at 89 rfl) ?_
        refine go_goto 171 (DL_nodeDue.at 90 rfl) (by decide) ?_
        exact go_iret (DL_nodeDue.at 92 rfl) rfl rfl (RX.mk (by rw [← hx, cnI_p (by omega)]) rfl)
    | succ m ih =>
      intro t x y u9 hy hm hx
      have ht : t < aT A := by omega
      have hM20 := hA.m20 ht
      have hcn : cnA A nd t < nc (aG A) (aS A) := con_lt (by omega)
      have hx3 := lnC_le (A := A) (nd := nd) (aT A) 0
      by_cases hb : bit (aM A t) (cnA A nd t)
      · have hs : lnC A nd (aT A) 0 = x + (0 + lnC A nd m (t + 1)) := by
          rw [← hx]
          show x + ((if bit (aM A t) (cnA A nd t) then 0 else 1) + lnC A nd m (t + 1)) = _
          rw [if_pos hb]
        rcases hy with ⟨ex, ey⟩ | ⟨ex, ey⟩
        · subst ey
          refine go_iload_8 (DL_nodeDue.at 8 rfl) ?_
          refine go_aload_3 (DL_nodeDue.at 9 rfl) ?_
          refine go_iconst (v := nI 2) (DL_nodeDue.at 10 rfl) (by decide) ?_
          refine go_ialdL 0 (DL_nodeDue.at 11 rfl) hL (by decide) (show 2 < 9 by decide) ?_
          rw [hY.2.2.2.2.1]
          refine go_icmp_ge 149 (DL_nodeDue.at 12 rfl) (by decide) (fun c17 => absurd c17 (by rw [nI_leI (by omega) (by omega)]; omega)) (fun c17 => ?_)
          refine go_aload_4 (DL_nodeDue.at 13 rfl) ?_
          refine go_iload_8 (DL_nodeDue.at 14 rfl) ?_
          refine go_ialdL 2 (DL_nodeDue.at 15 rfl) hL (by decide) (show t < 3 by omega) ?_
          rw [hR.2.2.2.2.2.1 t ht]
          refine go_iload_2 (DL_nodeDue.at 16 rfl) ?_
          refine go_iload_8 (DL_nodeDue.at 17 rfl) ?_
          refine go_aload_3 (DL_nodeDue.at 18 rfl) ?_
          refine go_cSx3 (DL_nodeDue.at 19 rfl) nL_126 vL_cellOn (by omega) (c_lcellOn ht (by omega) hL hY (by omega)) (Nat.le_of_ble_eq_true rfl) ?_
          refine go_ishr (DL_nodeDue.at 20 rfl) ?_
          refine go_iconst (v := nI 1) (DL_nodeDue.at 21 rfl) (by decide) ?_
          refine go_iand (DL_nodeDue.at 22 rfl) ?_
          rw [nx_bit (by omega) (by omega)]
          refine go_iconst (v := nI 1) (DL_nodeDue.at 23 rfl) (by decide) ?_
          refine go_icmp_ne 43 (DL_nodeDue.at 24 rfl) (by decide) (fun c36 => absurd (congrArg nI (show aM A t / 2 ^ (cnA A nd t) % 2 = 1 from hb)) c36) (fun c36 => ?_)
          refine go_iconst (v := nI 1) (DL_nodeDue.at 25 rfl) (by decide) ?_
          refine go_goto 44 (DL_nodeDue.at 26 rfl) (by decide) ?_
          refine go_istore_9 (DL_nodeDue.at 28 rfl) ?_
          refine go_iload_6 (DL_nodeDue.at 29 rfl) ?_
          refine go_if_ne 66 (DL_nodeDue.at 30 rfl) (by decide) (fun c48 => absurd (show nI 0 = 0 by decide) c48) (fun c48 => ?_)
          refine go_iload_0 (DL_nodeDue.at 31 rfl) ?_
          refine go_iconst (v := nI 4) (DL_nodeDue.at 32 rfl) (by decide) ?_
          refine go_icmp_ne 60 (DL_nodeDue.at 33 rfl) (by decide) (fun c53 => ?_) (fun c53 => absurd c53 (by decide))
          refine go_iconst (v := nI 0) (DL_nodeDue.at 36 rfl) (by decide) ?_
          refine go_iload_9 (DL_nodeDue.at 37 rfl) ?_
          refine go_icmp_ne 70 (DL_nodeDue.at 38 rfl) (by decide) (fun c63 => ?_) (fun c63 => absurd c63 (by decide))
          refine go_iconst (v := nI 0) (DL_nodeDue.at 41 rfl) (by decide) ?_
          refine go_istore_6 (DL_nodeDue.at 42 rfl) ?_
          refine go_iload_7 (DL_nodeDue.at 43 rfl) ?_
          refine go_if_eq 94 (DL_nodeDue.at 44 rfl) (by decide) (fun c75 => absurd c75 (by decide)) (fun c75 => ?_)
          refine go_iload_0 (DL_nodeDue.at 45 rfl) ?_
          refine go_iconst (v := nI 2) (DL_nodeDue.at 46 rfl) (by decide) ?_
          refine go_icmp_eq 90 (DL_nodeDue.at 47 rfl) (by decide) (fun c80 => ?_) (fun c80 => absurd rfl c80)
          refine go_iconst (v := nI 1) (DL_nodeDue.at 52 rfl) (by decide) ?_
          refine go_goto 95 (DL_nodeDue.at 53 rfl) (by decide) ?_
          refine go_istore_7 (DL_nodeDue.at 55 rfl) ?_
          refine go_iload_5 (DL_nodeDue.at 56 rfl) ?_
          refine go_iload_0 (DL_nodeDue.at 57 rfl) ?_
          refine go_iconst (v := nI 2) (DL_nodeDue.at 58 rfl) (by decide) ?_
          refine go_icmp_ne 117 (DL_nodeDue.at 59 rfl) (by decide) (fun c101 => absurd rfl c101) (fun c101 => ?_)
          refine go_iload_9 (DL_nodeDue.at 60 rfl) ?_
          refine go_if_eq 113 (DL_nodeDue.at 61 rfl) (by decide) (fun c106 => absurd c106 (by decide)) (fun c106 => ?_)
          refine go_iconst (v := nI 0) (DL_nodeDue.at 62 rfl) (by decide) ?_
          refine go_goto 140 (DL_nodeDue.at 63 rfl) (by decide) ?_
          refine go_iadd (DL_nodeDue.at 79 rfl) ?_
          rw [nI_add]
          refine go_istore_5 (DL_nodeDue.at 80 rfl) ?_
          refine go_iincN_8 (DL_nodeDue.at 81 rfl) ?_
          refine go_goto 12 (DL_nodeDue.at 82 rfl) (by decide) ?_
          exact ih (t + 1) (x + 0) _ _ (Or.inl ⟨by omega, rfl⟩) (by omega) (by rw [hs]; omega)
        · subst ey
          refine go_iload_8 (DL_nodeDue.at 8 rfl) ?_
          refine go_aload_3 (DL_nodeDue.at 9 rfl) ?_
          refine go_iconst (v := nI 2) (DL_nodeDue.at 10 rfl) (by decide) ?_
          refine go_ialdL 0 (DL_nodeDue.at 11 rfl) hL (by decide) (show 2 < 9 by decide) ?_
          rw [hY.2.2.2.2.1]
          refine go_icmp_ge 149 (DL_nodeDue.at 12 rfl) (by decide) (fun c17 => absurd c17 (by rw [nI_leI (by omega) (by omega)]; omega)) (fun c17 => ?_)
          refine go_aload_4 (DL_nodeDue.at 13 rfl) ?_
          refine go_iload_8 (DL_nodeDue.at 14 rfl) ?_
          refine go_ialdL 2 (DL_nodeDue.at 15 rfl) hL (by decide) (show t < 3 by omega) ?_
          rw [hR.2.2.2.2.2.1 t ht]
          refine go_iload_2 (DL_nodeDue.at 16 rfl) ?_
          refine go_iload_8 (DL_nodeDue.at 17 rfl) ?_
          refine go_aload_3 (DL_nodeDue.at 18 rfl) ?_
          refine go_cSx3 (DL_nodeDue.at 19 rfl) nL_126 vL_cellOn (by omega) (c_lcellOn ht (by omega) hL hY (by omega)) (Nat.le_of_ble_eq_true rfl) ?_
          refine go_ishr (DL_nodeDue.at 20 rfl) ?_
          refine go_iconst (v := nI 1) (DL_nodeDue.at 21 rfl) (by decide) ?_
          refine go_iand (DL_nodeDue.at 22 rfl) ?_
          rw [nx_bit (by omega) (by omega)]
          refine go_iconst (v := nI 1) (DL_nodeDue.at 23 rfl) (by decide) ?_
          refine go_icmp_ne 43 (DL_nodeDue.at 24 rfl) (by decide) (fun c36 => absurd (congrArg nI (show aM A t / 2 ^ (cnA A nd t) % 2 = 1 from hb)) c36) (fun c36 => ?_)
          refine go_iconst (v := nI 1) (DL_nodeDue.at 25 rfl) (by decide) ?_
          refine go_goto 44 (DL_nodeDue.at 26 rfl) (by decide) ?_
          refine go_istore_9 (DL_nodeDue.at 28 rfl) ?_
          refine go_iload_6 (DL_nodeDue.at 29 rfl) ?_
          refine go_if_ne 66 (DL_nodeDue.at 30 rfl) (by decide) (fun c48 => ?_) (fun c48 => absurd c48 (by decide))
          refine go_iconst (v := nI 1) (DL_nodeDue.at 39 rfl) (by decide) ?_
          refine go_goto 71 (DL_nodeDue.at 40 rfl) (by decide) ?_
          refine go_istore_6 (DL_nodeDue.at 42 rfl) ?_
          refine go_iload_7 (DL_nodeDue.at 43 rfl) ?_
          refine go_if_eq 94 (DL_nodeDue.at 44 rfl) (by decide) (fun c75 => absurd c75 (by decide)) (fun c75 => ?_)
          refine go_iload_0 (DL_nodeDue.at 45 rfl) ?_
          refine go_iconst (v := nI 2) (DL_nodeDue.at 46 rfl) (by decide) ?_
          refine go_icmp_eq 90 (DL_nodeDue.at 47 rfl) (by decide) (fun c80 => ?_) (fun c80 => absurd rfl c80)
          refine go_iconst (v := nI 1) (DL_nodeDue.at 52 rfl) (by decide) ?_
          refine go_goto 95 (DL_nodeDue.at 53 rfl) (by decide) ?_
          refine go_istore_7 (DL_nodeDue.at 55 rfl) ?_
          refine go_iload_5 (DL_nodeDue.at 56 rfl) ?_
          refine go_iload_0 (DL_nodeDue.at 57 rfl) ?_
          refine go_iconst (v := nI 2) (DL_nodeDue.at 58 rfl) (by decide) ?_
          refine go_icmp_ne 117 (DL_nodeDue.at 59 rfl) (by decide) (fun c101 => absurd rfl c101) (fun c101 => ?_)
          refine go_iload_9 (DL_nodeDue.at 60 rfl) ?_
          refine go_if_eq 113 (DL_nodeDue.at 61 rfl) (by decide) (fun c106 => absurd c106 (by decide)) (fun c106 => ?_)
          refine go_iconst (v := nI 0) (DL_nodeDue.at 62 rfl) (by decide) ?_
          refine go_goto 140 (DL_nodeDue.at 63 rfl) (by decide) ?_
          refine go_iadd (DL_nodeDue.at 79 rfl) ?_
          rw [nI_add]
          refine go_istore_5 (DL_nodeDue.at 80 rfl) ?_
          refine go_iincN_8 (DL_nodeDue.at 81 rfl) ?_
          refine go_goto 12 (DL_nodeDue.at 82 rfl) (by decide) ?_
          exact ih (t + 1) (x + 0) _ _ (Or.inr ⟨by omega, rfl⟩) (by omega) (by rw [hs]; omega)
      · have hs : lnC A nd (aT A) 0 = x + (1 + lnC A nd m (t + 1)) := by
          rw [← hx]
          show x + ((if bit (aM A t) (cnA A nd t) then 0 else 1) + lnC A nd m (t + 1)) = _
          rw [if_neg hb]
        rcases hy with ⟨ex, ey⟩ | ⟨ex, ey⟩
        · subst ey
          refine go_iload_8 (DL_nodeDue.at 8 rfl) ?_
          refine go_aload_3 (DL_nodeDue.at 9 rfl) ?_
          refine go_iconst (v := nI 2) (DL_nodeDue.at 10 rfl) (by decide) ?_
          refine go_ialdL 0 (DL_nodeDue.at 11 rfl) hL (by decide) (show 2 < 9 by decide) ?_
          rw [hY.2.2.2.2.1]
          refine go_icmp_ge 149 (DL_nodeDue.at 12 rfl) (by decide) (fun c17 => absurd c17 (by rw [nI_leI (by omega) (by omega)]; omega)) (fun c17 => ?_)
          refine go_aload_4 (DL_nodeDue.at 13 rfl) ?_
          refine go_iload_8 (DL_nodeDue.at 14 rfl) ?_
          refine go_ialdL 2 (DL_nodeDue.at 15 rfl) hL (by decide) (show t < 3 by omega) ?_
          rw [hR.2.2.2.2.2.1 t ht]
          refine go_iload_2 (DL_nodeDue.at 16 rfl) ?_
          refine go_iload_8 (DL_nodeDue.at 17 rfl) ?_
          refine go_aload_3 (DL_nodeDue.at 18 rfl) ?_
          refine go_cSx3 (DL_nodeDue.at 19 rfl) nL_126 vL_cellOn (by omega) (c_lcellOn ht (by omega) hL hY (by omega)) (Nat.le_of_ble_eq_true rfl) ?_
          refine go_ishr (DL_nodeDue.at 20 rfl) ?_
          refine go_iconst (v := nI 1) (DL_nodeDue.at 21 rfl) (by decide) ?_
          refine go_iand (DL_nodeDue.at 22 rfl) ?_
          rw [nx_bit (by omega) (by omega)]
          refine go_iconst (v := nI 1) (DL_nodeDue.at 23 rfl) (by decide) ?_
          refine go_icmp_ne 43 (DL_nodeDue.at 24 rfl) (by decide) (fun c36 => ?_) (fun c36 => absurd ((nI_eq (by omega) (by decide)).mp c36) hb)
          refine go_iconst (v := nI 0) (DL_nodeDue.at 27 rfl) (by decide) ?_
          refine go_istore_9 (DL_nodeDue.at 28 rfl) ?_
          refine go_iload_6 (DL_nodeDue.at 29 rfl) ?_
          refine go_if_ne 66 (DL_nodeDue.at 30 rfl) (by decide) (fun c48 => absurd (show nI 0 = 0 by decide) c48) (fun c48 => ?_)
          refine go_iload_0 (DL_nodeDue.at 31 rfl) ?_
          refine go_iconst (v := nI 4) (DL_nodeDue.at 32 rfl) (by decide) ?_
          refine go_icmp_ne 60 (DL_nodeDue.at 33 rfl) (by decide) (fun c53 => ?_) (fun c53 => absurd c53 (by decide))
          refine go_iconst (v := nI 0) (DL_nodeDue.at 36 rfl) (by decide) ?_
          refine go_iload_9 (DL_nodeDue.at 37 rfl) ?_
          refine go_icmp_ne 70 (DL_nodeDue.at 38 rfl) (by decide) (fun c63 => absurd rfl c63) (fun c63 => ?_)
          refine go_iconst (v := nI 1) (DL_nodeDue.at 39 rfl) (by decide) ?_
          refine go_goto 71 (DL_nodeDue.at 40 rfl) (by decide) ?_
          refine go_istore_6 (DL_nodeDue.at 42 rfl) ?_
          refine go_iload_7 (DL_nodeDue.at 43 rfl) ?_
          refine go_if_eq 94 (DL_nodeDue.at 44 rfl) (by decide) (fun c75 => absurd c75 (by decide)) (fun c75 => ?_)
          refine go_iload_0 (DL_nodeDue.at 45 rfl) ?_
          refine go_iconst (v := nI 2) (DL_nodeDue.at 46 rfl) (by decide) ?_
          refine go_icmp_eq 90 (DL_nodeDue.at 47 rfl) (by decide) (fun c80 => ?_) (fun c80 => absurd rfl c80)
          refine go_iconst (v := nI 1) (DL_nodeDue.at 52 rfl) (by decide) ?_
          refine go_goto 95 (DL_nodeDue.at 53 rfl) (by decide) ?_
          refine go_istore_7 (DL_nodeDue.at 55 rfl) ?_
          refine go_iload_5 (DL_nodeDue.at 56 rfl) ?_
          refine go_iload_0 (DL_nodeDue.at 57 rfl) ?_
          refine go_iconst (v := nI 2) (DL_nodeDue.at 58 rfl) (by decide) ?_
          refine go_icmp_ne 117 (DL_nodeDue.at 59 rfl) (by decide) (fun c101 => absurd rfl c101) (fun c101 => ?_)
          refine go_iload_9 (DL_nodeDue.at 60 rfl) ?_
          refine go_if_eq 113 (DL_nodeDue.at 61 rfl) (by decide) (fun c106 => ?_) (fun c106 => absurd (show nI 0 = 0 by decide) c106)
          refine go_iconst (v := nI 1) (DL_nodeDue.at 64 rfl) (by decide) ?_
          refine go_goto 140 (DL_nodeDue.at 65 rfl) (by decide) ?_
          refine go_iadd (DL_nodeDue.at 79 rfl) ?_
          rw [nI_add]
          refine go_istore_5 (DL_nodeDue.at 80 rfl) ?_
          refine go_iincN_8 (DL_nodeDue.at 81 rfl) ?_
          refine go_goto 12 (DL_nodeDue.at 82 rfl) (by decide) ?_
          exact ih (t + 1) (x + 1) _ _ (Or.inr ⟨by omega, rfl⟩) (by omega) (by rw [hs]; omega)
        · subst ey
          refine go_iload_8 (DL_nodeDue.at 8 rfl) ?_
          refine go_aload_3 (DL_nodeDue.at 9 rfl) ?_
          refine go_iconst (v := nI 2) (DL_nodeDue.at 10 rfl) (by decide) ?_
          refine go_ialdL 0 (DL_nodeDue.at 11 rfl) hL (by decide) (show 2 < 9 by decide) ?_
          rw [hY.2.2.2.2.1]
          refine go_icmp_ge 149 (DL_nodeDue.at 12 rfl) (by decide) (fun c17 => absurd c17 (by rw [nI_leI (by omega) (by omega)]; omega)) (fun c17 => ?_)
          refine go_aload_4 (DL_nodeDue.at 13 rfl) ?_
          refine go_iload_8 (DL_nodeDue.at 14 rfl) ?_
          refine go_ialdL 2 (DL_nodeDue.at 15 rfl) hL (by decide) (show t < 3 by omega) ?_
          rw [hR.2.2.2.2.2.1 t ht]
          refine go_iload_2 (DL_nodeDue.at 16 rfl) ?_
          refine go_iload_8 (DL_nodeDue.at 17 rfl) ?_
          refine go_aload_3 (DL_nodeDue.at 18 rfl) ?_
          refine go_cSx3 (DL_nodeDue.at 19 rfl) nL_126 vL_cellOn (by omega) (c_lcellOn ht (by omega) hL hY (by omega)) (Nat.le_of_ble_eq_true rfl) ?_
          refine go_ishr (DL_nodeDue.at 20 rfl) ?_
          refine go_iconst (v := nI 1) (DL_nodeDue.at 21 rfl) (by decide) ?_
          refine go_iand (DL_nodeDue.at 22 rfl) ?_
          rw [nx_bit (by omega) (by omega)]
          refine go_iconst (v := nI 1) (DL_nodeDue.at 23 rfl) (by decide) ?_
          refine go_icmp_ne 43 (DL_nodeDue.at 24 rfl) (by decide) (fun c36 => ?_) (fun c36 => absurd ((nI_eq (by omega) (by decide)).mp c36) hb)
          refine go_iconst (v := nI 0) (DL_nodeDue.at 27 rfl) (by decide) ?_
          refine go_istore_9 (DL_nodeDue.at 28 rfl) ?_
          refine go_iload_6 (DL_nodeDue.at 29 rfl) ?_
          refine go_if_ne 66 (DL_nodeDue.at 30 rfl) (by decide) (fun c48 => ?_) (fun c48 => absurd c48 (by decide))
          refine go_iconst (v := nI 1) (DL_nodeDue.at 39 rfl) (by decide) ?_
          refine go_goto 71 (DL_nodeDue.at 40 rfl) (by decide) ?_
          refine go_istore_6 (DL_nodeDue.at 42 rfl) ?_
          refine go_iload_7 (DL_nodeDue.at 43 rfl) ?_
          refine go_if_eq 94 (DL_nodeDue.at 44 rfl) (by decide) (fun c75 => absurd c75 (by decide)) (fun c75 => ?_)
          refine go_iload_0 (DL_nodeDue.at 45 rfl) ?_
          refine go_iconst (v := nI 2) (DL_nodeDue.at 46 rfl) (by decide) ?_
          refine go_icmp_eq 90 (DL_nodeDue.at 47 rfl) (by decide) (fun c80 => ?_) (fun c80 => absurd rfl c80)
          refine go_iconst (v := nI 1) (DL_nodeDue.at 52 rfl) (by decide) ?_
          refine go_goto 95 (DL_nodeDue.at 53 rfl) (by decide) ?_
          refine go_istore_7 (DL_nodeDue.at 55 rfl) ?_
          refine go_iload_5 (DL_nodeDue.at 56 rfl) ?_
          refine go_iload_0 (DL_nodeDue.at 57 rfl) ?_
          refine go_iconst (v := nI 2) (DL_nodeDue.at 58 rfl) (by decide) ?_
          refine go_icmp_ne 117 (DL_nodeDue.at 59 rfl) (by decide) (fun c101 => absurd rfl c101) (fun c101 => ?_)
          refine go_iload_9 (DL_nodeDue.at 60 rfl) ?_
          refine go_if_eq 113 (DL_nodeDue.at 61 rfl) (by decide) (fun c106 => ?_) (fun c106 => absurd (show nI 0 = 0 by decide) c106)
          refine go_iconst (v := nI 1) (DL_nodeDue.at 64 rfl) (by decide) ?_
          refine go_goto 140 (DL_nodeDue.at 65 rfl) (by decide) ?_
          refine go_iadd (DL_nodeDue.at 79 rfl) ?_
          rw [nI_add]
          refine go_istore_5 (DL_nodeDue.at 80 rfl) ?_
          refine go_iincN_8 (DL_nodeDue.at 81 rfl) ?_
          refine go_goto 12 (DL_nodeDue.at 82 rfl) (by decide) ?_
          exact ih (t + 1) (x + 1) _ _ (Or.inr ⟨by omega, rfl⟩) (by omega) (by rw [hs]; omega)
  refine go_iconst (v := nI 0) (DL_nodeDue.at 0 rfl) (by decide) ?_
  refine go_istore_5 (DL_nodeDue.at 1 rfl) ?_
  refine go_iconst (v := nI 0) (DL_nodeDue.at 2 rfl) (by decide) ?_
  refine go_istore_6 (DL_nodeDue.at 3 rfl) ?_
  refine go_iconst (v := nI 1) (DL_nodeDue.at 4 rfl) (by decide) ?_
  refine go_istore_7 (DL_nodeDue.at 5 rfl) ?_
  refine go_iconst (v := nI 0) (DL_nodeDue.at 6 rfl) (by decide) ?_
  refine go_istore_8 (DL_nodeDue.at 7 rfl) ?_
  exact loop (aT A) 0 0 _ _ (Or.inl ⟨rfl, rfl⟩) (Nat.zero_add _) (Nat.zero_add _)

theorem c_due4 {nd : Nat} (hnd : nd < nc (aG A) (aS A)) (hW : ∀ t, t < aT A → ρ 5 t = wnF A t (cnA A nd t)) (hL : LA h ρ) (hR : LR A ρ) (hd : 3 ≤ d) : Calls E mL_nodeDue d 0 0 [.int (nI 4), .ref 57, .int (nI nd), .ref 52, .ref 54] h (RX (du4 A nd) h) := by
  refine Calls.of (ls := [some (.int (nI 4)), some (.ref 57), some (.int (nI nd)), some (.ref 52), some (.ref 54), none, none, none, none, none]) (by decide +kernel) rfl (Nat.le_of_ble_eq_true rfl) (cat_ok rfl) ?_
  have hA := hR.1
  have hY := hR.2.1
  have hLO := hY.1
  have hT3 : aT A ≤ 3 := hY.2.1
  have hn := hLO.nc
  have hg4 : aG A ≤ 4 := hLO.2.1
  have hg1 : 1 ≤ aG A := hLO.1
  have hs6 : aS A ≤ 6 := hLO.2.2.2.1
  have hs2 : 2 ≤ aS A := hLO.2.2.1
  have hgs : aG A * aS A ≤ 15 := hLO.2.2.2.2.1
  have hH5 : aH A ≤ 5 := hLO.2.2.2.2.2.2.2
  have hT1 : 1 ≤ aT A := hLO.2.2.2.2.2.1
  have en : nc (aG A) (aS A) = aG A * aS A + aG A + 2 := rfl
  have loop : ∀ (m t x : Nat) (s y z : Int32) (u9 : Option Value), DuI A nd m t x y z → (z = nI 1 → s = nI x) → t + m = aT A → Go E mL_nodeDue d 0 0 12 [some (.int (nI 4)), some (.ref 57), some (.int (nI nd)), some (.ref 52), some (.ref 54), some (.int s), some (.int y), some (.int z), some (.int (nI t)), u9] [] h (RX (du4 A nd) h) := by
    intro m
    induction m with
    | zero =>
      intro t x s y z u9 hI hs hm
      have et : t = aT A := by omega
      subst et
      rcases hI with ⟨ez, hy, hm0⟩ | ⟨ez, ey, hm0⟩
      · subst ez
        have es := hs rfl
        subst es
        have hm0 : mnC A nd (aT A) 0 = some x := hm0
        rcases hy with ⟨ex, ey⟩ | ⟨ex, ey⟩
        · subst ey
          refine go_iload_8 (DL_nodeDue.at 8 rfl) ?_
          refine go_aload_3 (DL_nodeDue.at 9 rfl) ?_
          refine go_iconst (v := nI 2) (DL_nodeDue.at 10 rfl) (by decide) ?_
          refine go_ialdL 0 (DL_nodeDue.at 11 rfl) hL (by decide) (show 2 < 9 by decide) ?_
          rw [hY.2.2.2.2.1]
          refine go_icmp_ge 149 (DL_nodeDue.at 12 rfl) (by decide) (fun c17 => ?_) (fun c17 => absurd (Int32.le_refl _) c17)
          refine go_iload_6 (DL_nodeDue.at 83 rfl) ?_
          refine go_if_ne 159 (DL_nodeDue.at 84 rfl) (by decide) (fun c151 => absurd (show nI 0 = 0 by decide) c151) (fun c151 => ?_)
          refine go_bipush (v := (-5)) (DL_nodeDue.at 85 rfl) (by decide) ?_
          refine go_goto 171 (DL_nodeDue.at 86 rfl) (by decide) ?_
          exact go_iret (DL_nodeDue.at 92 rfl) rfl rfl (RX.mk (by rw [du4_s hm0, ex]; exact cnI_0.symm) rfl)
        · subst ey
          refine go_iload_8 (DL_nodeDue.at 8 rfl) ?_
          refine go_aload_3 (DL_nodeDue.at 9 rfl) ?_
          refine go_iconst (v := nI 2) (DL_nodeDue.at 10 rfl) (by decide) ?_
          refine go_ialdL 0 (DL_nodeDue.at 11 rfl) hL (by decide) (show 2 < 9 by decide) ?_
          rw [hY.2.2.2.2.1]
          refine go_icmp_ge 149 (DL_nodeDue.at 12 rfl) (by decide) (fun c17 => ?_) (fun c17 => absurd (Int32.le_refl _) c17)
          refine go_iload_6 (DL_nodeDue.at 83 rfl) ?_
          refine go_if_ne 159 (DL_nodeDue.at 84 rfl) (by decide) (fun c151 => ?_) (fun c151 => absurd c151 (by decide))
          refine go_iload_7 (DL_nodeDue.at 87 rfl) ?_
          refine go_if_eq 169 (DL_nodeDue.at 88 rfl) (by decide) (fun c161 => absurd c161 (by decide)) (fun c161 => ?_)
          refine go_iload_5 (DL_nodeDue.at 89 rfl) ?_
          refine go_goto 171 (DL_nodeDue.at 90 rfl) (by decide) ?_
          exact go_iret (DL_nodeDue.at 92 rfl) rfl rfl (RX.mk (by rw [du4_s hm0, cnI_p ex]) rfl)
      · subst ez
        subst ey
        refine go_iload_8 (DL_nodeDue.at 8 rfl) ?_
        refine go_aload_3 (DL_nodeDue.at 9 rfl) ?_
        refine go_iconst (v := nI 2) (DL_nodeDue.at 10 rfl) (by decide) ?_
        refine go_ialdL 0 (DL_nodeDue.at 11 rfl) hL (by decide) (show 2 < 9 by decide) ?_
        rw [hY.2.2.2.2.1]
        refine go_icmp_ge 149 (DL_nodeDue.at 12 rfl) (by decide) (fun c17 => ?_) (fun c17 => absurd (Int32.le_refl _) c17)
        refine go_iload_6 (DL_nodeDue.at 83 rfl) ?_
        refine go_if_ne 159 (DL_nodeDue.at 84 rfl) (by decide) (fun c151 => ?_) (fun c151 => absurd c151 (by decide))
        refine go_iload_7 (DL_nodeDue.at 87 rfl) ?_
        refine go_if_eq 169 (DL_nodeDue.at 88 rfl) (by decide) (fun c161 => ?_) (fun c161 => absurd (show nI 0 = 0 by decide) c161)
        refine go_bipush (v := (-4)) (DL_nodeDue.at 91 rfl) (by decide) ?_
        exact go_iret (DL_nodeDue.at 92 rfl) rfl rfl (RX.mk (by rw [du4_n hm0]) rfl)
    | succ m ih =>
      intro t x s y z u9 hI hs hm
      have ht : t < aT A := by omega
      have hM20 := hA.m20 ht
      have hcn : cnA A nd t < nc (aG A) (aS A) := con_lt (by omega)
      have hwt := hW t ht
      by_cases hb : bit (aM A t) (cnA A nd t)
      · rcases way_cases A t (cnA A nd t) with ⟨w, src, X, hw⟩ | hw
        · have hw3 := hw.w
          have hp := hw.pos hA hcn
          have hp2 := pcn_le src 20
          rcases hI with ⟨ez, hy, hm0⟩ | ⟨ez, ey, hm0⟩
          · subst ez
            have es := hs rfl
            subst es
            rcases hy with ⟨ex, ey⟩ | ⟨ex, ey⟩
            · subst ey
              refine go_iload_8 (DL_nodeDue.at 8 rfl) ?_
              refine go_aload_3 (DL_nodeDue.at 9 rfl) ?_
              refine go_iconst (v := nI 2) (DL_nodeDue.at 10 rfl) (by decide) ?_
              refine go_ialdL 0 (DL_nodeDue.at 11 rfl) hL (by decide) (show 2 < 9 by decide) ?_
              rw [hY.2.2.2.2.1]
              refine go_icmp_ge 149 (DL_nodeDue.at 12 rfl) (by decide) (fun c17 => absurd c17 (by rw [nI_leI (by omega) (by omega)]; omega)) (fun c17 => ?_)
              refine go_aload_4 (DL_nodeDue.at 13 rfl) ?_
              refine go_iload_8 (DL_nodeDue.at 14 rfl) ?_
              refine go_ialdL 2 (DL_nodeDue.at 15 rfl) hL (by decide) (show t < 3 by omega) ?_
              rw [hR.2.2.2.2.2.1 t ht]
              refine go_iload_2 (DL_nodeDue.at 16 rfl) ?_
              refine go_iload_8 (DL_nodeDue.at 17 rfl) ?_
              refine go_aload_3 (DL_nodeDue.at 18 rfl) ?_
              refine go_cSx3 (DL_nodeDue.at 19 rfl) nL_126 vL_cellOn (by omega) (c_lcellOn ht (by omega) hL hY (by omega)) (Nat.le_of_ble_eq_true rfl) ?_
              refine go_ishr (DL_nodeDue.at 20 rfl) ?_
              refine go_iconst (v := nI 1) (DL_nodeDue.at 21 rfl) (by decide) ?_
              refine go_iand (DL_nodeDue.at 22 rfl) ?_
              rw [nx_bit (by omega) (by omega)]
              refine go_iconst (v := nI 1) (DL_nodeDue.at 23 rfl) (by decide) ?_
              refine go_icmp_ne 43 (DL_nodeDue.at 24 rfl) (by decide) (fun c36 => absurd (congrArg nI (show aM A t / 2 ^ (cnA A nd t) % 2 = 1 from hb)) c36) (fun c36 => ?_)
              refine go_iconst (v := nI 1) (DL_nodeDue.at 25 rfl) (by decide) ?_
              refine go_goto 44 (DL_nodeDue.at 26 rfl) (by decide) ?_
              refine go_istore_9 (DL_nodeDue.at 28 rfl) ?_
              refine go_iload_6 (DL_nodeDue.at 29 rfl) ?_
              refine go_if_ne 66 (DL_nodeDue.at 30 rfl) (by decide) (fun c48 => absurd (show nI 0 = 0 by decide) c48) (fun c48 => ?_)
              refine go_iload_0 (DL_nodeDue.at 31 rfl) ?_
              refine go_iconst (v := nI 4) (DL_nodeDue.at 32 rfl) (by decide) ?_
              refine go_icmp_ne 60 (DL_nodeDue.at 33 rfl) (by decide) (fun c53 => absurd rfl c53) (fun c53 => ?_)
              refine go_iconst (v := nI 1) (DL_nodeDue.at 34 rfl) (by decide) ?_
              refine go_goto 61 (DL_nodeDue.at 35 rfl) (by decide) ?_
              refine go_iload_9 (DL_nodeDue.at 37 rfl) ?_
              refine go_icmp_ne 70 (DL_nodeDue.at 38 rfl) (by decide) (fun c63 => absurd rfl c63) (fun c63 => ?_)
              refine go_iconst (v := nI 1) (DL_nodeDue.at 39 rfl) (by decide) ?_
              refine go_goto 71 (DL_nodeDue.at 40 rfl) (by decide) ?_
              refine go_istore_6 (DL_nodeDue.at 42 rfl) ?_
              refine go_iload_7 (DL_nodeDue.at 43 rfl) ?_
              refine go_if_eq 94 (DL_nodeDue.at 44 rfl) (by decide) (fun c75 => absurd c75 (by decide)) (fun c75 => ?_)
              refine go_iload_0 (DL_nodeDue.at 45 rfl) ?_
              refine go_iconst (v := nI 2) (DL_nodeDue.at 46 rfl) (by decide) ?_
              refine go_icmp_eq 90 (DL_nodeDue.at 47 rfl) (by decide) (fun c80 => absurd c80 (by decide)) (fun c80 => ?_)
              refine go_aload_1 (DL_nodeDue.at 48 rfl) ?_
              refine go_iload_8 (DL_nodeDue.at 49 rfl) ?_
              refine go_ialdL 5 (DL_nodeDue.at 50 rfl) hL (by decide) (show t < 3 by omega) ?_
              rw [show ρ 5 t = nI w from hwt.trans (wnF_s hb hw)]
              refine go_if_eq 94 (DL_nodeDue.at 51 rfl) (by decide) (fun c87 => absurd ((nI_eq0 (by omega)).mp c87) (by omega)) (fun c87 => ?_)
              refine go_iconst (v := nI 1) (DL_nodeDue.at 52 rfl) (by decide) ?_
              refine go_goto 95 (DL_nodeDue.at 53 rfl) (by decide) ?_
              refine go_istore_7 (DL_nodeDue.at 55 rfl) ?_
              refine go_iload_5 (DL_nodeDue.at 56 rfl) ?_
              refine go_iload_0 (DL_nodeDue.at 57 rfl) ?_
              refine go_iconst (v := nI 2) (DL_nodeDue.at 58 rfl) (by decide) ?_
              refine go_icmp_ne 117 (DL_nodeDue.at 59 rfl) (by decide) (fun c101 => ?_) (fun c101 => absurd c101 (by decide))
              refine go_aload_1 (DL_nodeDue.at 66 rfl) ?_
              refine go_iload_8 (DL_nodeDue.at 67 rfl) ?_
              refine go_ialdL 5 (DL_nodeDue.at 68 rfl) hL (by decide) (show t < 3 by omega) ?_
              rw [show ρ 5 t = nI w from hwt.trans (wnF_s hb hw)]
              refine go_if_le 139 (DL_nodeDue.at 69 rfl) (by decide) (fun c121 => absurd c121 (nI_nle (by omega) (by omega))) (fun c121 => ?_)
              refine go_iload_8 (DL_nodeDue.at 70 rfl) ?_
              refine go_aload_1 (DL_nodeDue.at 71 rfl) ?_
              refine go_iload_8 (DL_nodeDue.at 72 rfl) ?_
              refine go_ialdL 5 (DL_nodeDue.at 73 rfl) hL (by decide) (show t < 3 by omega) ?_
              rw [show ρ 5 t = nI w from hwt.trans (wnF_s hb hw)]
              refine go_aload_3 (DL_nodeDue.at 74 rfl) ?_
              refine go_aload_4 (DL_nodeDue.at 75 rfl) ?_
              refine go_cSx4 (DL_nodeDue.at 76 rfl) nL_43 vL_reads (by omega) (c_lreads ht (by omega) hL hR (by omega)) (Nat.le_of_ble_eq_true rfl) ?_
              rw [← hw.cnt hA ht hcn]
              refine go_goto 140 (DL_nodeDue.at 77 rfl) (by decide) ?_
              refine go_iadd (DL_nodeDue.at 79 rfl) ?_
              rw [nI_add]
              refine go_istore_5 (DL_nodeDue.at 80 rfl) ?_
              refine go_iincN_8 (DL_nodeDue.at 81 rfl) ?_
              refine go_goto 12 (DL_nodeDue.at 82 rfl) (by decide) ?_
              exact ih (t + 1) (x + pcn src 20) _ _ _ _ (Or.inl ⟨rfl, Or.inr ⟨by omega, rfl⟩, by rw [hm0, mnC_s hb hw, map_a]⟩) (fun _ => rfl) (by omega)
            · subst ey
              refine go_iload_8 (DL_nodeDue.at 8 rfl) ?_
              refine go_aload_3 (DL_nodeDue.at 9 rfl) ?_
              refine go_iconst (v := nI 2) (DL_nodeDue.at 10 rfl) (by decide) ?_
              refine go_ialdL 0 (DL_nodeDue.at 11 rfl) hL (by decide) (show 2 < 9 by decide) ?_
              rw [hY.2.2.2.2.1]
              refine go_icmp_ge 149 (DL_nodeDue.at 12 rfl) (by decide) (fun c17 => absurd c17 (by rw [nI_leI (by omega) (by omega)]; omega)) (fun c17 => ?_)
              refine go_aload_4 (DL_nodeDue.at 13 rfl) ?_
              refine go_iload_8 (DL_nodeDue.at 14 rfl) ?_
              refine go_ialdL 2 (DL_nodeDue.at 15 rfl) hL (by decide) (show t < 3 by omega) ?_
              rw [hR.2.2.2.2.2.1 t ht]
              refine go_iload_2 (DL_nodeDue.at 16 rfl) ?_
              refine go_iload_8 (DL_nodeDue.at 17 rfl) ?_
              refine go_aload_3 (DL_nodeDue.at 18 rfl) ?_
              refine go_cSx3 (DL_nodeDue.at 19 rfl) nL_126 vL_cellOn (by omega) (c_lcellOn ht (by omega) hL hY (by omega)) (Nat.le_of_ble_eq_true rfl) ?_
              refine go_ishr (DL_nodeDue.at 20 rfl) ?_
              refine go_iconst (v := nI 1) (DL_nodeDue.at 21 rfl) (by decide) ?_
              refine go_iand (DL_nodeDue.at 22 rfl) ?_
              rw [nx_bit (by omega) (by omega)]
              refine go_iconst (v := nI 1) (DL_nodeDue.at 23 rfl) (by decide) ?_
              refine go_icmp_ne 43 (DL_nodeDue.at 24 rfl) (by decide) (fun c36 => absurd (congrArg nI (show aM A t / 2 ^ (cnA A nd t) % 2 = 1 from hb)) c36) (fun c36 => ?_)
              refine go_iconst (v := nI 1) (DL_nodeDue.at 25 rfl) (by decide) ?_
              refine go_goto 44 (DL_nodeDue.at 26 rfl) (by decide) ?_
              refine go_istore_9 (DL_nodeDue.at 28 rfl) ?_
              refine go_iload_6 (DL_nodeDue.at 29 rfl) ?_
              refine go_if_ne 66 (DL_nodeDue.at 30 rfl) (by decide) (fun c48 => ?_) (fun c48 => absurd c48 (by decide))
              refine go_iconst (v := nI 1) (DL_nodeDue.at 39 rfl) (by decide) ?_
              refine go_goto 71 (DL_nodeDue.at 40 rfl) (by decide) ?_
              refine go_istore_6 (DL_nodeDue.at 42 rfl) ?_
              refine go_iload_7 (DL_nodeDue.at 43 rfl) ?_
              refine go_if_eq 94 (DL_nodeDue.at 44 rfl) (by decide) (fun c75 => absurd c75 (by decide)) (fun c75 => ?_)
              refine go_iload_0 (DL_nodeDue.at 45 rfl) ?_
              refine go_iconst (v := nI 2) (DL_nodeDue.at 46 rfl) (by decide) ?_
              refine go_icmp_eq 90 (DL_nodeDue.at 47 rfl) (by decide) (fun c80 => absurd c80 (by decide)) (fun c80 => ?_)
              refine go_aload_1 (DL_nodeDue.at 48 rfl) ?_
              refine go_iload_8 (DL_nodeDue.at 49 rfl) ?_
              refine go_ialdL 5 (DL_nodeDue.at 50 rfl) hL (by decide) (show t < 3 by omega) ?_
              rw [show ρ 5 t = nI w from hwt.trans (wnF_s hb hw)]
              refine go_if_eq 94 (DL_nodeDue.at 51 rfl) (by decide) (fun c87 => absurd ((nI_eq0 (by omega)).mp c87) (by omega)) (fun c87 => ?_)
              refine go_iconst (v := nI 1) (DL_nodeDue.at 52 rfl) (by decide) ?_
              refine go_goto 95 (DL_nodeDue.at 53 rfl) (by decide) ?_
              refine go_istore_7 (DL_nodeDue.at 55 rfl) ?_
              refine go_iload_5 (DL_nodeDue.at 56 rfl) ?_
              refine go_iload_0 (DL_nodeDue.at 57 rfl) ?_
              refine go_iconst (v := nI 2) (DL_nodeDue.at 58 rfl) (by decide) ?_
              refine go_icmp_ne 117 (DL_nodeDue.at 59 rfl) (by decide) (fun c101 => ?_) (fun c101 => absurd c101 (by decide))
              refine go_aload_1 (DL_nodeDue.at 66 rfl) ?_
              refine go_iload_8 (DL_nodeDue.at 67 rfl) ?_
              refine go_ialdL 5 (DL_nodeDue.at 68 rfl) hL (by decide) (show t < 3 by omega) ?_
              rw [show ρ 5 t = nI w from hwt.trans (wnF_s hb hw)]
              refine go_if_le 139 (DL_nodeDue.at 69 rfl) (by decide) (fun c121 => absurd c121 (nI_nle (by omega) (by omega))) (fun c121 => ?_)
              refine go_iload_8 (DL_nodeDue.at 70 rfl) ?_
              refine go_aload_1 (DL_nodeDue.at 71 rfl) ?_
              refine go_iload_8 (DL_nodeDue.at 72 rfl) ?_
              refine go_ialdL 5 (DL_nodeDue.at 73 rfl) hL (by decide) (show t < 3 by omega) ?_
              rw [show ρ 5 t = nI w from hwt.trans (wnF_s hb hw)]
              refine go_aload_3 (DL_nodeDue.at 74 rfl) ?_
              refine go_aload_4 (DL_nodeDue.at 75 rfl) ?_
              refine go_cSx4 (DL_nodeDue.at 76 rfl) nL_43 vL_reads (by omega) (c_lreads ht (by omega) hL hR (by omega)) (Nat.le_of_ble_eq_true rfl) ?_
              rw [← hw.cnt hA ht hcn]
              refine go_goto 140 (DL_nodeDue.at 77 rfl) (by decide) ?_
              refine go_iadd (DL_nodeDue.at 79 rfl) ?_
              rw [nI_add]
              refine go_istore_5 (DL_nodeDue.at 80 rfl) ?_
              refine go_iincN_8 (DL_nodeDue.at 81 rfl) ?_
              refine go_goto 12 (DL_nodeDue.at 82 rfl) (by decide) ?_
              exact ih (t + 1) (x + pcn src 20) _ _ _ _ (Or.inl ⟨rfl, Or.inr ⟨by omega, rfl⟩, by rw [hm0, mnC_s hb hw, map_a]⟩) (fun _ => rfl) (by omega)
          · subst ez
            subst ey
            refine go_iload_8 (DL_nodeDue.at 8 rfl) ?_
            refine go_aload_3 (DL_nodeDue.at 9 rfl) ?_
            refine go_iconst (v := nI 2) (DL_nodeDue.at 10 rfl) (by decide) ?_
            refine go_ialdL 0 (DL_nodeDue.at 11 rfl) hL (by decide) (show 2 < 9 by decide) ?_
            rw [hY.2.2.2.2.1]
            refine go_icmp_ge 149 (DL_nodeDue.at 12 rfl) (by decide) (fun c17 => absurd c17 (by rw [nI_leI (by omega) (by omega)]; omega)) (fun c17 => ?_)
            refine go_aload_4 (DL_nodeDue.at 13 rfl) ?_
            refine go_iload_8 (DL_nodeDue.at 14 rfl) ?_
            refine go_ialdL 2 (DL_nodeDue.at 15 rfl) hL (by decide) (show t < 3 by omega) ?_
            rw [hR.2.2.2.2.2.1 t ht]
            refine go_iload_2 (DL_nodeDue.at 16 rfl) ?_
            refine go_iload_8 (DL_nodeDue.at 17 rfl) ?_
            refine go_aload_3 (DL_nodeDue.at 18 rfl) ?_
            refine go_cSx3 (DL_nodeDue.at 19 rfl) nL_126 vL_cellOn (by omega) (c_lcellOn ht (by omega) hL hY (by omega)) (Nat.le_of_ble_eq_true rfl) ?_
            refine go_ishr (DL_nodeDue.at 20 rfl) ?_
            refine go_iconst (v := nI 1) (DL_nodeDue.at 21 rfl) (by decide) ?_
            refine go_iand (DL_nodeDue.at 22 rfl) ?_
            rw [nx_bit (by omega) (by omega)]
            refine go_iconst (v := nI 1) (DL_nodeDue.at 23 rfl) (by decide) ?_
            refine go_icmp_ne 43 (DL_nodeDue.at 24 rfl) (by decide) (fun c36 => absurd (congrArg nI (show aM A t / 2 ^ (cnA A nd t) % 2 = 1 from hb)) c36) (fun c36 => ?_)
            refine go_iconst (v := nI 1) (DL_nodeDue.at 25 rfl) (by decide) ?_
            refine go_goto 44 (DL_nodeDue.at 26 rfl) (by decide) ?_
            refine go_istore_9 (DL_nodeDue.at 28 rfl) ?_
            refine go_iload_6 (DL_nodeDue.at 29 rfl) ?_
            refine go_if_ne 66 (DL_nodeDue.at 30 rfl) (by decide) (fun c48 => ?_) (fun c48 => absurd c48 (by decide))
            refine go_iconst (v := nI 1) (DL_nodeDue.at 39 rfl) (by decide) ?_
            refine go_goto 71 (DL_nodeDue.at 40 rfl) (by decide) ?_
            refine go_istore_6 (DL_nodeDue.at 42 rfl) ?_
            refine go_iload_7 (DL_nodeDue.at 43 rfl) ?_
            refine go_if_eq 94 (DL_nodeDue.at 44 rfl) (by decide) (fun c75 => ?_) (fun c75 => absurd (show nI 0 = 0 by decide) c75)
            refine go_iconst (v := nI 0) (DL_nodeDue.at 54 rfl) (by decide) ?_
            refine go_istore_7 (DL_nodeDue.at 55 rfl) ?_
            refine go_iload_5 (DL_nodeDue.at 56 rfl) ?_
            refine go_iload_0 (DL_nodeDue.at 57 rfl) ?_
            refine go_iconst (v := nI 2) (DL_nodeDue.at 58 rfl) (by decide) ?_
            refine go_icmp_ne 117 (DL_nodeDue.at 59 rfl) (by decide) (fun c101 => ?_) (fun c101 => absurd c101 (by decide))
            refine go_aload_1 (DL_nodeDue.at 66 rfl) ?_
            refine go_iload_8 (DL_nodeDue.at 67 rfl) ?_
            refine go_ialdL 5 (DL_nodeDue.at 68 rfl) hL (by decide) (show t < 3 by omega) ?_
            rw [show ρ 5 t = nI w from hwt.trans (wnF_s hb hw)]
            refine go_if_le 139 (DL_nodeDue.at 69 rfl) (by decide) (fun c121 => absurd c121 (nI_nle (by omega) (by omega))) (fun c121 => ?_)
            refine go_iload_8 (DL_nodeDue.at 70 rfl) ?_
            refine go_aload_1 (DL_nodeDue.at 71 rfl) ?_
            refine go_iload_8 (DL_nodeDue.at 72 rfl) ?_
            refine go_ialdL 5 (DL_nodeDue.at 73 rfl) hL (by decide) (show t < 3 by omega) ?_
            rw [show ρ 5 t = nI w from hwt.trans (wnF_s hb hw)]
            refine go_aload_3 (DL_nodeDue.at 74 rfl) ?_
            refine go_aload_4 (DL_nodeDue.at 75 rfl) ?_
            refine go_cSx4 (DL_nodeDue.at 76 rfl) nL_43 vL_reads (by omega) (c_lreads ht (by omega) hL hR (by omega)) (Nat.le_of_ble_eq_true rfl) ?_
            rw [← hw.cnt hA ht hcn]
            refine go_goto 140 (DL_nodeDue.at 77 rfl) (by decide) ?_
            refine go_iadd (DL_nodeDue.at 79 rfl) ?_
            refine go_istore_5 (DL_nodeDue.at 80 rfl) ?_
            refine go_iincN_8 (DL_nodeDue.at 81 rfl) ?_
            refine go_goto 12 (DL_nodeDue.at 82 rfl) (by decide) ?_
            exact ih (t + 1) x _ _ _ _ (Or.inr ⟨rfl, rfl, hm0⟩) (fun e => absurd e (by decide)) (by omega)
        · rcases hI with ⟨ez, hy, hm0⟩ | ⟨ez, ey, hm0⟩
          · subst ez
            have es := hs rfl
            subst es
            rcases hy with ⟨ex, ey⟩ | ⟨ex, ey⟩
            · subst ey
              refine go_iload_8 (DL_nodeDue.at 8 rfl) ?_
              refine go_aload_3 (DL_nodeDue.at 9 rfl) ?_
              refine go_iconst (v := nI 2) (DL_nodeDue.at 10 rfl) (by decide) ?_
              refine go_ialdL 0 (DL_nodeDue.at 11 rfl) hL (by decide) (show 2 < 9 by decide) ?_
              rw [hY.2.2.2.2.1]
              refine go_icmp_ge 149 (DL_nodeDue.at 12 rfl) (by decide) (fun c17 => absurd c17 (by rw [nI_leI (by omega) (by omega)]; omega)) (fun c17 => ?_)
              refine go_aload_4 (DL_nodeDue.at 13 rfl) ?_
              refine go_iload_8 (DL_nodeDue.at 14 rfl) ?_
              refine go_ialdL 2 (DL_nodeDue.at 15 rfl) hL (by decide) (show t < 3 by omega) ?_
              rw [hR.2.2.2.2.2.1 t ht]
              refine go_iload_2 (DL_nodeDue.at 16 rfl) ?_
              refine go_iload_8 (DL_nodeDue.at 17 rfl) ?_
              refine go_aload_3 (DL_nodeDue.at 18 rfl) ?_
              refine go_cSx3 (DL_nodeDue.at 19 rfl) nL_126 vL_cellOn (by omega) (c_lcellOn ht (by omega) hL hY (by omega)) (Nat.le_of_ble_eq_true rfl) ?_
              refine go_ishr (DL_nodeDue.at 20 rfl) ?_
              refine go_iconst (v := nI 1) (DL_nodeDue.at 21 rfl) (by decide) ?_
              refine go_iand (DL_nodeDue.at 22 rfl) ?_
              rw [nx_bit (by omega) (by omega)]
              refine go_iconst (v := nI 1) (DL_nodeDue.at 23 rfl) (by decide) ?_
              refine go_icmp_ne 43 (DL_nodeDue.at 24 rfl) (by decide) (fun c36 => absurd (congrArg nI (show aM A t / 2 ^ (cnA A nd t) % 2 = 1 from hb)) c36) (fun c36 => ?_)
              refine go_iconst (v := nI 1) (DL_nodeDue.at 25 rfl) (by decide) ?_
              refine go_goto 44 (DL_nodeDue.at 26 rfl) (by decide) ?_
              refine go_istore_9 (DL_nodeDue.at 28 rfl) ?_
              refine go_iload_6 (DL_nodeDue.at 29 rfl) ?_
              refine go_if_ne 66 (DL_nodeDue.at 30 rfl) (by decide) (fun c48 => absurd (show nI 0 = 0 by decide) c48) (fun c48 => ?_)
              refine go_iload_0 (DL_nodeDue.at 31 rfl) ?_
              refine go_iconst (v := nI 4) (DL_nodeDue.at 32 rfl) (by decide) ?_
              refine go_icmp_ne 60 (DL_nodeDue.at 33 rfl) (by decide) (fun c53 => absurd rfl c53) (fun c53 => ?_)
              refine go_iconst (v := nI 1) (DL_nodeDue.at 34 rfl) (by decide) ?_
              refine go_goto 61 (DL_nodeDue.at 35 rfl) (by decide) ?_
              refine go_iload_9 (DL_nodeDue.at 37 rfl) ?_
              refine go_icmp_ne 70 (DL_nodeDue.at 38 rfl) (by decide) (fun c63 => absurd rfl c63) (fun c63 => ?_)
              refine go_iconst (v := nI 1) (DL_nodeDue.at 39 rfl) (by decide) ?_
              refine go_goto 71 (DL_nodeDue.at 40 rfl) (by decide) ?_
              refine go_istore_6 (DL_nodeDue.at 42 rfl) ?_
              refine go_iload_7 (DL_nodeDue.at 43 rfl) ?_
              refine go_if_eq 94 (DL_nodeDue.at 44 rfl) (by decide) (fun c75 => absurd c75 (by decide)) (fun c75 => ?_)
              refine go_iload_0 (DL_nodeDue.at 45 rfl) ?_
              refine go_iconst (v := nI 2) (DL_nodeDue.at 46 rfl) (by decide) ?_
              refine go_icmp_eq 90 (DL_nodeDue.at 47 rfl) (by decide) (fun c80 => absurd c80 (by decide)) (fun c80 => ?_)
              refine go_aload_1 (DL_nodeDue.at 48 rfl) ?_
              refine go_iload_8 (DL_nodeDue.at 49 rfl) ?_
              refine go_ialdL 5 (DL_nodeDue.at 50 rfl) hL (by decide) (show t < 3 by omega) ?_
              rw [show ρ 5 t = 0 from hwt.trans (wnF_0 hb hw)]
              refine go_if_eq 94 (DL_nodeDue.at 51 rfl) (by decide) (fun c87 => ?_) (fun c87 => absurd rfl c87)
              refine go_iconst (v := nI 0) (DL_nodeDue.at 54 rfl) (by decide) ?_
              refine go_istore_7 (DL_nodeDue.at 55 rfl) ?_
              refine go_iload_5 (DL_nodeDue.at 56 rfl) ?_
              refine go_iload_0 (DL_nodeDue.at 57 rfl) ?_
              refine go_iconst (v := nI 2) (DL_nodeDue.at 58 rfl) (by decide) ?_
              refine go_icmp_ne 117 (DL_nodeDue.at 59 rfl) (by decide) (fun c101 => ?_) (fun c101 => absurd c101 (by decide))
              refine go_aload_1 (DL_nodeDue.at 66 rfl) ?_
              refine go_iload_8 (DL_nodeDue.at 67 rfl) ?_
              refine go_ialdL 5 (DL_nodeDue.at 68 rfl) hL (by decide) (show t < 3 by omega) ?_
              rw [show ρ 5 t = 0 from hwt.trans (wnF_0 hb hw)]
              refine go_if_le 139 (DL_nodeDue.at 69 rfl) (by decide) (fun c121 => ?_) (fun c121 => absurd (Int32.le_refl _) c121)
              refine go_iconst (v := nI 0) (DL_nodeDue.at 78 rfl) (by decide) ?_
              refine go_iadd (DL_nodeDue.at 79 rfl) ?_
              rw [nI_add]
              refine go_istore_5 (DL_nodeDue.at 80 rfl) ?_
              refine go_iincN_8 (DL_nodeDue.at 81 rfl) ?_
              refine go_goto 12 (DL_nodeDue.at 82 rfl) (by decide) ?_
              exact ih (t + 1) (x + 0) _ _ _ _ (Or.inr ⟨rfl, rfl, by rw [hm0, mnC_0 hb hw]; rfl⟩) (fun e => absurd e (by decide)) (by omega)
            · subst ey
              refine go_iload_8 (DL_nodeDue.at 8 rfl) ?_
              refine go_aload_3 (DL_nodeDue.at 9 rfl) ?_
              refine go_iconst (v := nI 2) (DL_nodeDue.at 10 rfl) (by decide) ?_
              refine go_ialdL 0 (DL_nodeDue.at 11 rfl) hL (by decide) (show 2 < 9 by decide) ?_
              rw [hY.2.2.2.2.1]
              refine go_icmp_ge 149 (DL_nodeDue.at 12 rfl) (by decide) (fun c17 => absurd c17 (by rw [nI_leI (by omega) (by omega)]; omega)) (fun c17 => ?_)
              refine go_aload_4 (DL_nodeDue.at 13 rfl) ?_
              refine go_iload_8 (DL_nodeDue.at 14 rfl) ?_
              refine go_ialdL 2 (DL_nodeDue.at 15 rfl) hL (by decide) (show t < 3 by omega) ?_
              rw [hR.2.2.2.2.2.1 t ht]
              refine go_iload_2 (DL_nodeDue.at 16 rfl) ?_
              refine go_iload_8 (DL_nodeDue.at 17 rfl) ?_
              refine go_aload_3 (DL_nodeDue.at 18 rfl) ?_
              refine go_cSx3 (DL_nodeDue.at 19 rfl) nL_126 vL_cellOn (by omega) (c_lcellOn ht (by omega) hL hY (by omega)) (Nat.le_of_ble_eq_true rfl) ?_
              refine go_ishr (DL_nodeDue.at 20 rfl) ?_
              refine go_iconst (v := nI 1) (DL_nodeDue.at 21 rfl) (by decide) ?_
              refine go_iand (DL_nodeDue.at 22 rfl) ?_
              rw [nx_bit (by omega) (by omega)]
              refine go_iconst (v := nI 1) (DL_nodeDue.at 23 rfl) (by decide) ?_
              refine go_icmp_ne 43 (DL_nodeDue.at 24 rfl) (by decide) (fun c36 => absurd (congrArg nI (show aM A t / 2 ^ (cnA A nd t) % 2 = 1 from hb)) c36) (fun c36 => ?_)
              refine go_iconst (v := nI 1) (DL_nodeDue.at 25 rfl) (by decide) ?_
              refine go_goto 44 (DL_nodeDue.at 26 rfl) (by decide) ?_
              refine go_istore_9 (DL_nodeDue.at 28 rfl) ?_
              refine go_iload_6 (DL_nodeDue.at 29 rfl) ?_
              refine go_if_ne 66 (DL_nodeDue.at 30 rfl) (by decide) (fun c48 => ?_) (fun c48 => absurd c48 (by decide))
              refine go_iconst (v := nI 1) (DL_nodeDue.at 39 rfl) (by decide) ?_
              refine go_goto 71 (DL_nodeDue.at 40 rfl) (by decide) ?_
              refine go_istore_6 (DL_nodeDue.at 42 rfl) ?_
              refine go_iload_7 (DL_nodeDue.at 43 rfl) ?_
              refine go_if_eq 94 (DL_nodeDue.at 44 rfl) (by decide) (fun c75 => absurd c75 (by decide)) (fun c75 => ?_)
              refine go_iload_0 (DL_nodeDue.at 45 rfl) ?_
              refine go_iconst (v := nI 2) (DL_nodeDue.at 46 rfl) (by decide) ?_
              refine go_icmp_eq 90 (DL_nodeDue.at 47 rfl) (by decide) (fun c80 => absurd c80 (by decide)) (fun c80 => ?_)
              refine go_aload_1 (DL_nodeDue.at 48 rfl) ?_
              refine go_iload_8 (DL_nodeDue.at 49 rfl) ?_
              refine go_ialdL 5 (DL_nodeDue.at 50 rfl) hL (by decide) (show t < 3 by omega) ?_
              rw [show ρ 5 t = 0 from hwt.trans (wnF_0 hb hw)]
              refine go_if_eq 94 (DL_nodeDue.at 51 rfl) (by decide) (fun c87 => ?_) (fun c87 => absurd rfl c87)
              refine go_iconst (v := nI 0) (DL_nodeDue.at 54 rfl) (by decide) ?_
              refine go_istore_7 (DL_nodeDue.at 55 rfl) ?_
              refine go_iload_5 (DL_nodeDue.at 56 rfl) ?_
              refine go_iload_0 (DL_nodeDue.at 57 rfl) ?_
              refine go_iconst (v := nI 2) (DL_nodeDue.at 58 rfl) (by decide) ?_
              refine go_icmp_ne 117 (DL_nodeDue.at 59 rfl) (by decide) (fun c101 => ?_) (fun c101 => absurd c101 (by decide))
              refine go_aload_1 (DL_nodeDue.at 66 rfl) ?_
              refine go_iload_8 (DL_nodeDue.at 67 rfl) ?_
              refine go_ialdL 5 (DL_nodeDue.at 68 rfl) hL (by decide) (show t < 3 by omega) ?_
              rw [show ρ 5 t = 0 from hwt.trans (wnF_0 hb hw)]
              refine go_if_le 139 (DL_nodeDue.at 69 rfl) (by decide) (fun c121 => ?_) (fun c121 => absurd (Int32.le_refl _) c121)
              refine go_iconst (v := nI 0) (DL_nodeDue.at 78 rfl) (by decide) ?_
              refine go_iadd (DL_nodeDue.at 79 rfl) ?_
              rw [nI_add]
              refine go_istore_5 (DL_nodeDue.at 80 rfl) ?_
              refine go_iincN_8 (DL_nodeDue.at 81 rfl) ?_
              refine go_goto 12 (DL_nodeDue.at 82 rfl) (by decide) ?_
              exact ih (t + 1) (x + 0) _ _ _ _ (Or.inr ⟨rfl, rfl, by rw [hm0, mnC_0 hb hw]; rfl⟩) (fun e => absurd e (by decide)) (by omega)
          · subst ez
            subst ey
            refine go_iload_8 (DL_nodeDue.at 8 rfl) ?_
            refine go_aload_3 (DL_nodeDue.at 9 rfl) ?_
            refine go_iconst (v := nI 2) (DL_nodeDue.at 10 rfl) (by decide) ?_
            refine go_ialdL 0 (DL_nodeDue.at 11 rfl) hL (by decide) (show 2 < 9 by decide) ?_
            rw [hY.2.2.2.2.1]
            refine go_icmp_ge 149 (DL_nodeDue.at 12 rfl) (by decide) (fun c17 => absurd c17 (by rw [nI_leI (by omega) (by omega)]; omega)) (fun c17 => ?_)
            refine go_aload_4 (DL_nodeDue.at 13 rfl) ?_
            refine go_iload_8 (DL_nodeDue.at 14 rfl) ?_
            refine go_ialdL 2 (DL_nodeDue.at 15 rfl) hL (by decide) (show t < 3 by omega) ?_
            rw [hR.2.2.2.2.2.1 t ht]
            refine go_iload_2 (DL_nodeDue.at 16 rfl) ?_
            refine go_iload_8 (DL_nodeDue.at 17 rfl) ?_
            refine go_aload_3 (DL_nodeDue.at 18 rfl) ?_
            refine go_cSx3 (DL_nodeDue.at 19 rfl) nL_126 vL_cellOn (by omega) (c_lcellOn ht (by omega) hL hY (by omega)) (Nat.le_of_ble_eq_true rfl) ?_
            refine go_ishr (DL_nodeDue.at 20 rfl) ?_
            refine go_iconst (v := nI 1) (DL_nodeDue.at 21 rfl) (by decide) ?_
            refine go_iand (DL_nodeDue.at 22 rfl) ?_
            rw [nx_bit (by omega) (by omega)]
            refine go_iconst (v := nI 1) (DL_nodeDue.at 23 rfl) (by decide) ?_
            refine go_icmp_ne 43 (DL_nodeDue.at 24 rfl) (by decide) (fun c36 => absurd (congrArg nI (show aM A t / 2 ^ (cnA A nd t) % 2 = 1 from hb)) c36) (fun c36 => ?_)
            refine go_iconst (v := nI 1) (DL_nodeDue.at 25 rfl) (by decide) ?_
            refine go_goto 44 (DL_nodeDue.at 26 rfl) (by decide) ?_
            refine go_istore_9 (DL_nodeDue.at 28 rfl) ?_
            refine go_iload_6 (DL_nodeDue.at 29 rfl) ?_
            refine go_if_ne 66 (DL_nodeDue.at 30 rfl) (by decide) (fun c48 => ?_) (fun c48 => absurd c48 (by decide))
            refine go_iconst (v := nI 1) (DL_nodeDue.at 39 rfl) (by decide) ?_
            refine go_goto 71 (DL_nodeDue.at 40 rfl) (by decide) ?_
            refine go_istore_6 (DL_nodeDue.at 42 rfl) ?_
            refine go_iload_7 (DL_nodeDue.at 43 rfl) ?_
            refine go_if_eq 94 (DL_nodeDue.at 44 rfl) (by decide) (fun c75 => ?_) (fun c75 => absurd (show nI 0 = 0 by decide) c75)
            refine go_iconst (v := nI 0) (DL_nodeDue.at 54 rfl) (by decide) ?_
            refine go_istore_7 (DL_nodeDue.at 55 rfl) ?_
            refine go_iload_5 (DL_nodeDue.at 56 rfl) ?_
            refine go_iload_0 (DL_nodeDue.at 57 rfl) ?_
            refine go_iconst (v := nI 2) (DL_nodeDue.at 58 rfl) (by decide) ?_
            refine go_icmp_ne 117 (DL_nodeDue.at 59 rfl) (by decide) (fun c101 => ?_) (fun c101 => absurd c101 (by decide))
            refine go_aload_1 (DL_nodeDue.at 66 rfl) ?_
            refine go_iload_8 (DL_nodeDue.at 67 rfl) ?_
            refine go_ialdL 5 (DL_nodeDue.at 68 rfl) hL (by decide) (show t < 3 by omega) ?_
            rw [show ρ 5 t = 0 from hwt.trans (wnF_0 hb hw)]
            refine go_if_le 139 (DL_nodeDue.at 69 rfl) (by decide) (fun c121 => ?_) (fun c121 => absurd (Int32.le_refl _) c121)
            refine go_iconst (v := nI 0) (DL_nodeDue.at 78 rfl) (by decide) ?_
            refine go_iadd (DL_nodeDue.at 79 rfl) ?_
            refine go_istore_5 (DL_nodeDue.at 80 rfl) ?_
            refine go_iincN_8 (DL_nodeDue.at 81 rfl) ?_
            refine go_goto 12 (DL_nodeDue.at 82 rfl) (by decide) ?_
            exact ih (t + 1) x _ _ _ _ (Or.inr ⟨rfl, rfl, hm0⟩) (fun e => absurd e (by decide)) (by omega)
      · rcases hI with ⟨ez, hy, hm0⟩ | ⟨ez, ey, hm0⟩
        · subst ez
          have es := hs rfl
          subst es
          rcases hy with ⟨ex, ey⟩ | ⟨ex, ey⟩
          · subst ey
            refine go_iload_8 (DL_nodeDue.at 8 rfl) ?_
            refine go_aload_3 (DL_nodeDue.at 9 rfl) ?_
            refine go_iconst (v := nI 2) (DL_nodeDue.at 10 rfl) (by decide) ?_
            refine go_ialdL 0 (DL_nodeDue.at 11 rfl) hL (by decide) (show 2 < 9 by decide) ?_
            rw [hY.2.2.2.2.1]
            refine go_icmp_ge 149 (DL_nodeDue.at 12 rfl) (by decide) (fun c17 => absurd c17 (by rw [nI_leI (by omega) (by omega)]; omega)) (fun c17 => ?_)
            refine go_aload_4 (DL_nodeDue.at 13 rfl) ?_
            refine go_iload_8 (DL_nodeDue.at 14 rfl) ?_
            refine go_ialdL 2 (DL_nodeDue.at 15 rfl) hL (by decide) (show t < 3 by omega) ?_
            rw [hR.2.2.2.2.2.1 t ht]
            refine go_iload_2 (DL_nodeDue.at 16 rfl) ?_
            refine go_iload_8 (DL_nodeDue.at 17 rfl) ?_
            refine go_aload_3 (DL_nodeDue.at 18 rfl) ?_
            refine go_cSx3 (DL_nodeDue.at 19 rfl) nL_126 vL_cellOn (by omega) (c_lcellOn ht (by omega) hL hY (by omega)) (Nat.le_of_ble_eq_true rfl) ?_
            refine go_ishr (DL_nodeDue.at 20 rfl) ?_
            refine go_iconst (v := nI 1) (DL_nodeDue.at 21 rfl) (by decide) ?_
            refine go_iand (DL_nodeDue.at 22 rfl) ?_
            rw [nx_bit (by omega) (by omega)]
            refine go_iconst (v := nI 1) (DL_nodeDue.at 23 rfl) (by decide) ?_
            refine go_icmp_ne 43 (DL_nodeDue.at 24 rfl) (by decide) (fun c36 => ?_) (fun c36 => absurd ((nI_eq (by omega) (by decide)).mp c36) hb)
            refine go_iconst (v := nI 0) (DL_nodeDue.at 27 rfl) (by decide) ?_
            refine go_istore_9 (DL_nodeDue.at 28 rfl) ?_
            refine go_iload_6 (DL_nodeDue.at 29 rfl) ?_
            refine go_if_ne 66 (DL_nodeDue.at 30 rfl) (by decide) (fun c48 => absurd (show nI 0 = 0 by decide) c48) (fun c48 => ?_)
            refine go_iload_0 (DL_nodeDue.at 31 rfl) ?_
            refine go_iconst (v := nI 4) (DL_nodeDue.at 32 rfl) (by decide) ?_
            refine go_icmp_ne 60 (DL_nodeDue.at 33 rfl) (by decide) (fun c53 => absurd rfl c53) (fun c53 => ?_)
            refine go_iconst (v := nI 1) (DL_nodeDue.at 34 rfl) (by decide) ?_
            refine go_goto 61 (DL_nodeDue.at 35 rfl) (by decide) ?_
            refine go_iload_9 (DL_nodeDue.at 37 rfl) ?_
            refine go_icmp_ne 70 (DL_nodeDue.at 38 rfl) (by decide) (fun c63 => ?_) (fun c63 => absurd c63 (by decide))
            refine go_iconst (v := nI 0) (DL_nodeDue.at 41 rfl) (by decide) ?_
            refine go_istore_6 (DL_nodeDue.at 42 rfl) ?_
            refine go_iload_7 (DL_nodeDue.at 43 rfl) ?_
            refine go_if_eq 94 (DL_nodeDue.at 44 rfl) (by decide) (fun c75 => absurd c75 (by decide)) (fun c75 => ?_)
            refine go_iload_0 (DL_nodeDue.at 45 rfl) ?_
            refine go_iconst (v := nI 2) (DL_nodeDue.at 46 rfl) (by decide) ?_
            refine go_icmp_eq 90 (DL_nodeDue.at 47 rfl) (by decide) (fun c80 => absurd c80 (by decide)) (fun c80 => ?_)
            refine go_aload_1 (DL_nodeDue.at 48 rfl) ?_
            refine go_iload_8 (DL_nodeDue.at 49 rfl) ?_
            refine go_ialdL 5 (DL_nodeDue.at 50 rfl) hL (by decide) (show t < 3 by omega) ?_
            rw [show ρ 5 t = -1 from hwt.trans (wnF_n hb)]
            refine go_if_eq 94 (DL_nodeDue.at 51 rfl) (by decide) (fun c87 => absurd c87 (by decide)) (fun c87 => ?_)
            refine go_iconst (v := nI 1) (DL_nodeDue.at 52 rfl) (by decide) ?_
            refine go_goto 95 (DL_nodeDue.at 53 rfl) (by decide) ?_
            refine go_istore_7 (DL_nodeDue.at 55 rfl) ?_
            refine go_iload_5 (DL_nodeDue.at 56 rfl) ?_
            refine go_iload_0 (DL_nodeDue.at 57 rfl) ?_
            refine go_iconst (v := nI 2) (DL_nodeDue.at 58 rfl) (by decide) ?_
            refine go_icmp_ne 117 (DL_nodeDue.at 59 rfl) (by decide) (fun c101 => ?_) (fun c101 => absurd c101 (by decide))
            refine go_aload_1 (DL_nodeDue.at 66 rfl) ?_
            refine go_iload_8 (DL_nodeDue.at 67 rfl) ?_
            refine go_ialdL 5 (DL_nodeDue.at 68 rfl) hL (by decide) (show t < 3 by omega) ?_
            rw [show ρ 5 t = -1 from hwt.trans (wnF_n hb)]
            refine go_if_le 139 (DL_nodeDue.at 69 rfl) (by decide) (fun c121 => ?_) (fun c121 => absurd (show (-1 : Int32) ≤ 0 by decide) c121)
            refine go_iconst (v := nI 0) (DL_nodeDue.at 78 rfl) (by decide) ?_
            refine go_iadd (DL_nodeDue.at 79 rfl) ?_
            rw [nI_add]
            refine go_istore_5 (DL_nodeDue.at 80 rfl) ?_
            refine go_iincN_8 (DL_nodeDue.at 81 rfl) ?_
            refine go_goto 12 (DL_nodeDue.at 82 rfl) (by decide) ?_
            exact ih (t + 1) (x + 0) _ _ _ _ (Or.inl ⟨rfl, Or.inl ⟨by omega, rfl⟩, by rw [hm0, mnC_f hb]; rfl⟩) (fun _ => rfl) (by omega)
          · subst ey
            refine go_iload_8 (DL_nodeDue.at 8 rfl) ?_
            refine go_aload_3 (DL_nodeDue.at 9 rfl) ?_
            refine go_iconst (v := nI 2) (DL_nodeDue.at 10 rfl) (by decide) ?_
            refine go_ialdL 0 (DL_nodeDue.at 11 rfl) hL (by decide) (show 2 < 9 by decide) ?_
            rw [hY.2.2.2.2.1]
            refine go_icmp_ge 149 (DL_nodeDue.at 12 rfl) (by decide) (fun c17 => absurd c17 (by rw [nI_leI (by omega) (by omega)]; omega)) (fun c17 => ?_)
            refine go_aload_4 (DL_nodeDue.at 13 rfl) ?_
            refine go_iload_8 (DL_nodeDue.at 14 rfl) ?_
            refine go_ialdL 2 (DL_nodeDue.at 15 rfl) hL (by decide) (show t < 3 by omega) ?_
            rw [hR.2.2.2.2.2.1 t ht]
            refine go_iload_2 (DL_nodeDue.at 16 rfl) ?_
            refine go_iload_8 (DL_nodeDue.at 17 rfl) ?_
            refine go_aload_3 (DL_nodeDue.at 18 rfl) ?_
            refine go_cSx3 (DL_nodeDue.at 19 rfl) nL_126 vL_cellOn (by omega) (c_lcellOn ht (by omega) hL hY (by omega)) (Nat.le_of_ble_eq_true rfl) ?_
            refine go_ishr (DL_nodeDue.at 20 rfl) ?_
            refine go_iconst (v := nI 1) (DL_nodeDue.at 21 rfl) (by decide) ?_
            refine go_iand (DL_nodeDue.at 22 rfl) ?_
            rw [nx_bit (by omega) (by omega)]
            refine go_iconst (v := nI 1) (DL_nodeDue.at 23 rfl) (by decide) ?_
            refine go_icmp_ne 43 (DL_nodeDue.at 24 rfl) (by decide) (fun c36 => ?_) (fun c36 => absurd ((nI_eq (by omega) (by decide)).mp c36) hb)
            refine go_iconst (v := nI 0) (DL_nodeDue.at 27 rfl) (by decide) ?_
            refine go_istore_9 (DL_nodeDue.at 28 rfl) ?_
            refine go_iload_6 (DL_nodeDue.at 29 rfl) ?_
            refine go_if_ne 66 (DL_nodeDue.at 30 rfl) (by decide) (fun c48 => ?_) (fun c48 => absurd c48 (by decide))
            refine go_iconst (v := nI 1) (DL_nodeDue.at 39 rfl) (by decide) ?_
            refine go_goto 71 (DL_nodeDue.at 40 rfl) (by decide) ?_
            refine go_istore_6 (DL_nodeDue.at 42 rfl) ?_
            refine go_iload_7 (DL_nodeDue.at 43 rfl) ?_
            refine go_if_eq 94 (DL_nodeDue.at 44 rfl) (by decide) (fun c75 => absurd c75 (by decide)) (fun c75 => ?_)
            refine go_iload_0 (DL_nodeDue.at 45 rfl) ?_
            refine go_iconst (v := nI 2) (DL_nodeDue.at 46 rfl) (by decide) ?_
            refine go_icmp_eq 90 (DL_nodeDue.at 47 rfl) (by decide) (fun c80 => absurd c80 (by decide)) (fun c80 => ?_)
            refine go_aload_1 (DL_nodeDue.at 48 rfl) ?_
            refine go_iload_8 (DL_nodeDue.at 49 rfl) ?_
            refine go_ialdL 5 (DL_nodeDue.at 50 rfl) hL (by decide) (show t < 3 by omega) ?_
            rw [show ρ 5 t = -1 from hwt.trans (wnF_n hb)]
            refine go_if_eq 94 (DL_nodeDue.at 51 rfl) (by decide) (fun c87 => absurd c87 (by decide)) (fun c87 => ?_)
            refine go_iconst (v := nI 1) (DL_nodeDue.at 52 rfl) (by decide) ?_
            refine go_goto 95 (DL_nodeDue.at 53 rfl) (by decide) ?_
            refine go_istore_7 (DL_nodeDue.at 55 rfl) ?_
            refine go_iload_5 (DL_nodeDue.at 56 rfl) ?_
            refine go_iload_0 (DL_nodeDue.at 57 rfl) ?_
            refine go_iconst (v := nI 2) (DL_nodeDue.at 58 rfl) (by decide) ?_
            refine go_icmp_ne 117 (DL_nodeDue.at 59 rfl) (by decide) (fun c101 => ?_) (fun c101 => absurd c101 (by decide))
            refine go_aload_1 (DL_nodeDue.at 66 rfl) ?_
            refine go_iload_8 (DL_nodeDue.at 67 rfl) ?_
            refine go_ialdL 5 (DL_nodeDue.at 68 rfl) hL (by decide) (show t < 3 by omega) ?_
            rw [show ρ 5 t = -1 from hwt.trans (wnF_n hb)]
            refine go_if_le 139 (DL_nodeDue.at 69 rfl) (by decide) (fun c121 => ?_) (fun c121 => absurd (show (-1 : Int32) ≤ 0 by decide) c121)
            refine go_iconst (v := nI 0) (DL_nodeDue.at 78 rfl) (by decide) ?_
            refine go_iadd (DL_nodeDue.at 79 rfl) ?_
            rw [nI_add]
            refine go_istore_5 (DL_nodeDue.at 80 rfl) ?_
            refine go_iincN_8 (DL_nodeDue.at 81 rfl) ?_
            refine go_goto 12 (DL_nodeDue.at 82 rfl) (by decide) ?_
            exact ih (t + 1) (x + 0) _ _ _ _ (Or.inl ⟨rfl, Or.inr ⟨by omega, rfl⟩, by rw [hm0, mnC_f hb]; rfl⟩) (fun _ => rfl) (by omega)
        · subst ez
          subst ey
          refine go_iload_8 (DL_nodeDue.at 8 rfl) ?_
          refine go_aload_3 (DL_nodeDue.at 9 rfl) ?_
          refine go_iconst (v := nI 2) (DL_nodeDue.at 10 rfl) (by decide) ?_
          refine go_ialdL 0 (DL_nodeDue.at 11 rfl) hL (by decide) (show 2 < 9 by decide) ?_
          rw [hY.2.2.2.2.1]
          refine go_icmp_ge 149 (DL_nodeDue.at 12 rfl) (by decide) (fun c17 => absurd c17 (by rw [nI_leI (by omega) (by omega)]; omega)) (fun c17 => ?_)
          refine go_aload_4 (DL_nodeDue.at 13 rfl) ?_
          refine go_iload_8 (DL_nodeDue.at 14 rfl) ?_
          refine go_ialdL 2 (DL_nodeDue.at 15 rfl) hL (by decide) (show t < 3 by omega) ?_
          rw [hR.2.2.2.2.2.1 t ht]
          refine go_iload_2 (DL_nodeDue.at 16 rfl) ?_
          refine go_iload_8 (DL_nodeDue.at 17 rfl) ?_
          refine go_aload_3 (DL_nodeDue.at 18 rfl) ?_
          refine go_cSx3 (DL_nodeDue.at 19 rfl) nL_126 vL_cellOn (by omega) (c_lcellOn ht (by omega) hL hY (by omega)) (Nat.le_of_ble_eq_true rfl) ?_
          refine go_ishr (DL_nodeDue.at 20 rfl) ?_
          refine go_iconst (v := nI 1) (DL_nodeDue.at 21 rfl) (by decide) ?_
          refine go_iand (DL_nodeDue.at 22 rfl) ?_
          rw [nx_bit (by omega) (by omega)]
          refine go_iconst (v := nI 1) (DL_nodeDue.at 23 rfl) (by decide) ?_
          refine go_icmp_ne 43 (DL_nodeDue.at 24 rfl) (by decide) (fun c36 => ?_) (fun c36 => absurd ((nI_eq (by omega) (by decide)).mp c36) hb)
          refine go_iconst (v := nI 0) (DL_nodeDue.at 27 rfl) (by decide) ?_
          refine go_istore_9 (DL_nodeDue.at 28 rfl) ?_
          refine go_iload_6 (DL_nodeDue.at 29 rfl) ?_
          refine go_if_ne 66 (DL_nodeDue.at 30 rfl) (by decide) (fun c48 => ?_) (fun c48 => absurd c48 (by decide))
          refine go_iconst (v := nI 1) (DL_nodeDue.at 39 rfl) (by decide) ?_
          refine go_goto 71 (DL_nodeDue.at 40 rfl) (by decide) ?_
          refine go_istore_6 (DL_nodeDue.at 42 rfl) ?_
          refine go_iload_7 (DL_nodeDue.at 43 rfl) ?_
          refine go_if_eq 94 (DL_nodeDue.at 44 rfl) (by decide) (fun c75 => ?_) (fun c75 => absurd (show nI 0 = 0 by decide) c75)
          refine go_iconst (v := nI 0) (DL_nodeDue.at 54 rfl) (by decide) ?_
          refine go_istore_7 (DL_nodeDue.at 55 rfl) ?_
          refine go_iload_5 (DL_nodeDue.at 56 rfl) ?_
          refine go_iload_0 (DL_nodeDue.at 57 rfl) ?_
          refine go_iconst (v := nI 2) (DL_nodeDue.at 58 rfl) (by decide) ?_
          refine go_icmp_ne 117 (DL_nodeDue.at 59 rfl) (by decide) (fun c101 => ?_) (fun c101 => absurd c101 (by decide))
          refine go_aload_1 (DL_nodeDue.at 66 rfl) ?_
          refine go_iload_8 (DL_nodeDue.at 67 rfl) ?_
          refine go_ialdL 5 (DL_nodeDue.at 68 rfl) hL (by decide) (show t < 3 by omega) ?_
          rw [show ρ 5 t = -1 from hwt.trans (wnF_n hb)]
          refine go_if_le 139 (DL_nodeDue.at 69 rfl) (by decide) (fun c121 => ?_) (fun c121 => absurd (show (-1 : Int32) ≤ 0 by decide) c121)
          refine go_iconst (v := nI 0) (DL_nodeDue.at 78 rfl) (by decide) ?_
          refine go_iadd (DL_nodeDue.at 79 rfl) ?_
          refine go_istore_5 (DL_nodeDue.at 80 rfl) ?_
          refine go_iincN_8 (DL_nodeDue.at 81 rfl) ?_
          refine go_goto 12 (DL_nodeDue.at 82 rfl) (by decide) ?_
          exact ih (t + 1) x _ _ _ _ (Or.inr ⟨rfl, rfl, hm0⟩) (fun e => absurd e (by decide)) (by omega)
  refine go_iconst (v := nI 0) (DL_nodeDue.at 0 rfl) (by decide) ?_
  refine go_istore_5 (DL_nodeDue.at 1 rfl) ?_
  refine go_iconst (v := nI 0) (DL_nodeDue.at 2 rfl) (by decide) ?_
  refine go_istore_6 (DL_nodeDue.at 3 rfl) ?_
  refine go_iconst (v := nI 1) (DL_nodeDue.at 4 rfl) (by decide) ?_
  refine go_istore_7 (DL_nodeDue.at 5 rfl) ?_
  refine go_iconst (v := nI 0) (DL_nodeDue.at 6 rfl) (by decide) ?_
  refine go_istore_8 (DL_nodeDue.at 7 rfl) ?_
  exact loop (aT A) 0 0 _ _ _ _ (Or.inl ⟨rfl, Or.inl ⟨rfl, rfl⟩, map_0.symm⟩) (fun _ => rfl) (Nat.zero_add _)

end LM
