/-! WHAT THE LAW ASKS: all that is told as one number; whether it is so; a call by its kind -/
theorem tot_in {Z : Zt} {j : Nat} (h : j < 12) : toF Z (nI j) = totZ Z j := by
  unfold toF
  rw [cI_t ((inR_nI (by omega) (by decide)).mpr h), nI_cl (by omega)]
theorem ld_in {A : Ab} {c : Nat} (hA : AOK A) (hc : c < nc (aG A) (aS A)) : ldF A (nI c) = aL A c := ndQ_in hA hc
theorem va_b {A : Ab} {t c : Nat} (hA : AOK A) (ht : t < aT A) (hc : c < nc (aG A) (aS A)) (hb : bit (aM A t) c) : vaF A (nI t) (nI c) = -5 := by
  unfold vaF
  rw [ceQ_in hA ht hc, cI_t hb]
theorem va_n {A : Ab} {t c : Nat} (hA : AOK A) (ht : t < aT A) (hc : c < nc (aG A) (aS A)) (hb : ¬ bit (aM A t) c) : vaF A (nI t) (nI c) = nI (aV A t c) := by
  unfold vaF
  rw [ceQ_in hA ht hc, cI_f hb]
theorem no_in {A : Ab} {t c : Nat} (hA : AOK A) (ht : t < aT A) (hc : c < nc (aG A) (aS A)) : noF A (nI t) (nI c) = nI ((c + t * aH A) % nc (aG A) (aS A)) := ceQ_in hA ht hc
theorem lt_in {A : Ab} {t : Nat} (hA : AOK A) (ht : t < aT A) : ltF A (nI t) = nI (aM A t) := stQ_in hA ht
theorem fa_in {A : Ab} {t : Nat} (hA : AOK A) (hK : Cw A) (ht : t < aT A) : faF A (nI t) = if aM A t = 0 then nI 0 else -4 := by
  have e := stQ_in (f := fun t => cI (aM A t = 0) (nI (flg (aSum A t) 6)) (-4)) hA ht
  have e0 : flg (aSum A t) 6 = 0 := (flg_0 6).mpr (fun j hj => hK t ht j hj)
  show stQ A (nI t) (fun t => cI (aM A t = 0) (nI (flg (aSum A t) 6)) (-4)) = _
  rw [e]
  by_cases q : aM A t = 0
  · rw [cI_t q, if_pos q, e0]
  · rw [cI_f q, if_neg q]
theorem cu_in {A : Ab} {t : Nat} (hA : AOK A) (hK : Cw A) (ht : t < aT A) : cuF A (nI t) = if aM A t = 0 then -5 else -4 := by
  have e0 : cpF A t = none := cpG_n _ (fun j hj q => q.1 (hK t ht _ (by have h1 := hcv_lt hA.1 hj; have h2 : aG A ≤ 4 := hA.1.2.1; omega)))
  unfold cuF
  rw [stQ_in hA ht, e0]
  by_cases q : aM A t = 0
  · rw [cI_t q, if_pos q]
  · rw [cI_f q, if_neg q]
theorem wa_in {A : Ab} {i x : Nat} (hi : i < 60) (h : (aQ A)[i]? = some x) : waF A (nI i) = nI (100 * (x / 20) + x % 20) := by
  unfold waF
  rw [cI_f (nI_pos (by omega)), nI_cl (by omega), h]
theorem wa_out {A : Ab} (h : (aQ A).length ≤ 60) : waF A (nI (aQ A).length) = -5 := by
  unfold waF
  rw [cI_f (nI_pos (by omega)), nI_cl (by omega), List.getElem?_eq_none (Nat.le_refl _)]
theorem va_out {A : Ab} {y : Int32} (hA : AOK A) : vaF A (nI (aT A)) y = -1 := by
  have h8 : aT A ≤ 8 := hA.1.2.2.2.2.2.2.1
  exact ceQ_out (fun q => absurd ((inR_nI (by omega) (by omega)).mp q.1) (Nat.lt_irrefl _))
theorem ld_out {A : Ab} (hA : AOK A) : ldF A (nI (nc (aG A) (aS A))) = -1 := by
  have hn := hA.1.nc
  exact ndQ_out (fun q => absurd ((inR_nI (by omega) (by omega)).mp q) (Nat.lt_irrefl _))
theorem bz_y {L : Nat → Int32} {j : Nat} (h : (bzG L j).2 < L j) : bzG L (j + 1) = (nI j, L j) := if_pos h
theorem bz_n {L : Nat → Int32} {j : Nat} (h : ¬ (bzG L j).2 < L j) : bzG L (j + 1) = bzG L j := if_neg h
/-- all that is told, as one number -/
noncomputable def tdA (Z : Zt) : Nat → Int64
  | 0 => 11
  | j + 1 => 31 * tdA Z j + (totZ Z j).toInt64
noncomputable def tdV (Z : Zt) (n : Nat) (x : Int64) : Nat → Int64
  | 0 => x
  | t + 1 => 37 * tdV Z n x t + (vaF (zA Z) (nI t) (nI n)).toInt64
noncomputable def tdN (Z : Zt) : Nat → Int64
  | 0 => tdA Z 10
  | n + 1 => tdV Z n (31 * tdN Z n + (ldF (zA Z) (nI n)).toInt64) (aT (zA Z))
noncomputable def tdQ (Z : Zt) : Nat → Int64
  | 0 => tdN Z (nc (aG (zA Z)) (aS (zA Z)))
  | k + 1 => 41 * tdQ Z k + (waF (zA Z) (nI k)).toInt64
noncomputable def tdF (Z : Zt) : Int64 := tdQ Z (aQ (zA Z)).length
theorem totZ_cg {Z Z' : Zt} {j : Nat} (e : zA Z' = zA Z) (hj : j < 10) : totZ Z' j = totZ Z j := by
  unfold totZ
  rw [e]
  by_cases q : j = 0
  · rw [if_pos q, if_pos q]
  rw [if_neg q, if_neg q]
  by_cases q : j = 1
  · rw [if_pos q, if_pos q]
  rw [if_neg q, if_neg q]
  by_cases q : j = 2
  · rw [if_pos q, if_pos q]
  rw [if_neg q, if_neg q]
  by_cases q : j = 3
  · rw [if_pos q, if_pos q]
  rw [if_neg q, if_neg q]
  by_cases q : j = 4
  · rw [if_pos q, if_pos q]
  rw [if_neg q, if_neg q]
  by_cases q : j = 5
  · rw [if_pos q, if_pos q]
  rw [if_neg q, if_neg q, if_pos hj, if_pos hj]
theorem tdA_cg {Z Z' : Zt} (e : zA Z' = zA Z) : ∀ j, j ≤ 10 → tdA Z' j = tdA Z j
  | 0, _ => rfl
  | j + 1, hj => by
    show 31 * tdA Z' j + (totZ Z' j).toInt64 = 31 * tdA Z j + (totZ Z j).toInt64
    rw [tdA_cg e j (by omega), totZ_cg e (by omega)]
theorem tdV_cg {Z Z' : Zt} {n : Nat} {x : Int64} (e : zA Z' = zA Z) : ∀ t, tdV Z' n x t = tdV Z n x t
  | 0 => rfl
  | t + 1 => by
    show 37 * tdV Z' n x t + (vaF (zA Z') (nI t) (nI n)).toInt64 = 37 * tdV Z n x t + (vaF (zA Z) (nI t) (nI n)).toInt64
    rw [tdV_cg e t, e]
theorem tdN_cg {Z Z' : Zt} (e : zA Z' = zA Z) : ∀ n, tdN Z' n = tdN Z n
  | 0 => tdA_cg e 10 (Nat.le_refl 10)
  | n + 1 => by
    show tdV Z' n (31 * tdN Z' n + (ldF (zA Z') (nI n)).toInt64) (aT (zA Z')) = tdV Z n (31 * tdN Z n + (ldF (zA Z) (nI n)).toInt64) (aT (zA Z))
    rw [tdV_cg e, tdN_cg e n, e]
theorem tdQ_cg {Z Z' : Zt} (e : zA Z' = zA Z) : ∀ k, tdQ Z' k = tdQ Z k
  | 0 => by
    show tdN Z' (nc (aG (zA Z')) (aS (zA Z'))) = tdN Z (nc (aG (zA Z)) (aS (zA Z)))
    rw [tdN_cg e, e]
  | k + 1 => by
    show 41 * tdQ Z' k + (waF (zA Z') (nI k)).toInt64 = 41 * tdQ Z k + (waF (zA Z) (nI k)).toInt64
    rw [tdQ_cg e k, e]
theorem tdF_cg {Z Z' : Zt} (e : zA Z' = zA Z) : tdF Z' = tdF Z := by
  unfold tdF
  rw [tdQ_cg e, e]
/-- a call by its kind -/
noncomputable def opR (A : Ab) (k t c v : Nat) : Int32 × Ab := if k = 0 then wrF A (nI t) (nI c) (nI v) else if k = 1 then loF A (nI t) (nI c) else if k = 2 then lsF A (nI c) else if k = 3 then mdF A (nI t) (nI c) else if k = 4 then mnF A (nI c) else wkF A (nI 1)
theorem opR_0 {A : Ab} {t c v : Nat} : opR A 0 t c v = wrF A (nI t) (nI c) (nI v) := by
  unfold opR
  rw [if_pos rfl]
theorem opR_1 {A : Ab} {t c v : Nat} : opR A 1 t c v = loF A (nI t) (nI c) := by
  unfold opR
  rw [if_neg (show ¬ 1 = 0 by decide), if_pos rfl]
theorem opR_2 {A : Ab} {t c v : Nat} : opR A 2 t c v = lsF A (nI c) := by
  unfold opR
  rw [if_neg (show ¬ 2 = 0 by decide), if_neg (show ¬ 2 = 1 by decide), if_pos rfl]
theorem opR_3 {A : Ab} {t c v : Nat} : opR A 3 t c v = mdF A (nI t) (nI c) := by
  unfold opR
  rw [if_neg (show ¬ 3 = 0 by decide), if_neg (show ¬ 3 = 1 by decide), if_neg (show ¬ 3 = 2 by decide), if_pos rfl]
theorem opR_4 {A : Ab} {t c v : Nat} : opR A 4 t c v = mnF A (nI c) := by
  unfold opR
  rw [if_neg (show ¬ 4 = 0 by decide), if_neg (show ¬ 4 = 1 by decide), if_neg (show ¬ 4 = 2 by decide), if_neg (show ¬ 4 = 3 by decide), if_pos rfl]
theorem opR_5 {A : Ab} {t c v : Nat} : opR A 5 t c v = wkF A (nI 1) := by
  unfold opR
  rw [if_neg (show ¬ 5 = 0 by decide), if_neg (show ¬ 5 = 1 by decide), if_neg (show ¬ 5 = 2 by decide), if_neg (show ¬ 5 = 3 by decide), if_neg (show ¬ 5 = 4 by decide)]
section LM
variable {E : AEnv} {d : Nat} {h h' h0 : List va_E} {ρ ρ' : Nat → Nat → Int32} {A : Ab} {Z : Zt} {G : Nat → Option va_E}
theorem c_told (hZ : CZ G Z h 0) (hA : AOK (zA Z)) (hd : 4 ≤ d) : Calls E mL_told d 0 0 [.ref 0] h (RLg (fun x h' => x = tdF Z ∧ CZ G Z h' 0)) := by
  refine Calls.of (ls := [some (.ref 0), none, none, none, none]) (by decide +kernel) rfl (Nat.le_of_ble_eq_true rfl) (cat_ok rfl) ?_
  have hn := hA.1.nc
  have h8 : aT (zA Z) ≤ 8 := hA.1.2.2.2.2.2.2.1
  have hq160 := hA.q160
  have l4 : ∀ (m k : Nat) (h1 : List va_E) (u : Option Value), CZ G Z h1 0 → k + m = (aQ (zA Z)).length → Go E mL_told d 0 0 97 [some (.ref 0), some (.long (tdQ Z k)), none, some (.int (nI k)), u] [] h1 (RLg (fun x h' => x = tdF Z ∧ CZ G Z h' 0)) := by
    intro m
    induction m with
    | zero =>
      intro k h1 u q1 hm
      obtain ⟨n1, k1, o1⟩ := q1.obj
      have ec : k = (aQ (zA Z)).length := by omega
      subst ec
      refine go_iload_3 (DL_told.at 57 rfl) ?_
      refine go_aload_0 (DL_told.at 58 rfl) ?_
      refine go_iconst (v := nI 5) (DL_told.at 59 rfl) (by decide) ?_
      refine go_cVi1 (DL_told.at 60 rfl) nL_63 vX5_total (by omega) (z_total q1 (by omega)) o1 rfl (Nat.le_of_ble_eq_true rfl) (fun x100 h100 q100 => ?_)
      obtain ⟨e100, Z100⟩ := q100
      rw [tot_in (by omega)] at e100
      subst e100
      obtain ⟨n100, k100, o100⟩ := Z100.obj
      rw [show totZ Z 5 = nI (aQ (zA Z)).length from rfl]
      refine go_icmp_ge 125 (DL_told.at 61 rfl) (by decide) (fun c103 => ?_) (fun c103 => absurd (Int32.le_refl _) c103)
      refine go_lload_1 (DL_told.at 73 rfl) ?_
      exact go_lret (DL_told.at 74 rfl) rfl (RLg.mk ⟨rfl, Z100⟩)
    | succ m ih =>
      intro k h1 u q1 hm
      obtain ⟨n1, k1, o1⟩ := q1.obj
      refine go_iload_3 (DL_told.at 57 rfl) ?_
      refine go_aload_0 (DL_told.at 58 rfl) ?_
      refine go_iconst (v := nI 5) (DL_told.at 59 rfl) (by decide) ?_
      refine go_cVi1 (DL_told.at 60 rfl) nL_63 vX5_total (by omega) (z_total q1 (by omega)) o1 rfl (Nat.le_of_ble_eq_true rfl) (fun x100 h100 q100 => ?_)
      obtain ⟨e100, Z100⟩ := q100
      rw [tot_in (by omega)] at e100
      subst e100
      obtain ⟨n100, k100, o100⟩ := Z100.obj
      rw [show totZ Z 5 = nI (aQ (zA Z)).length from rfl]
      refine go_icmp_ge 125 (DL_told.at 61 rfl) (by decide) (fun c103 => absurd c103 (by rw [nI_leI (by omega) (by omega)]; omega)) (fun c103 => ?_)
      refine go_ldc2 (DL_told.at 62 rfl) lL_74 ?_
      refine go_lload_1 (DL_told.at 63 rfl) ?_
      refine go_lmul (DL_told.at 64 rfl) ?_
      refine go_aload_0 (DL_told.at 65 rfl) ?_
      refine go_iload_3 (DL_told.at 66 rfl) ?_
      refine go_cVi1 (DL_told.at 67 rfl) nL_76 vX5_waiting (by omega) (z_waiting Z100 (by omega)) o100 rfl (Nat.le_of_ble_eq_true rfl) (fun x113 h113 q113 => ?_)
      obtain ⟨e113, Z113⟩ := q113
      subst e113
      refine go_i2l (DL_told.at 68 rfl) ?_
      refine go_ladd (DL_told.at 69 rfl) ?_
      rw [show 41 * tdQ Z k + (waF (zA Z) (nI k)).toInt64 = tdQ Z (k + 1) from rfl]
      refine go_lstore_1 (DL_told.at 70 rfl) ?_
      refine go_iincN_3 (DL_told.at 71 rfl) ?_
      refine go_goto 97 (DL_told.at 72 rfl) (by decide) ?_
      exact ih (k + 1) _ _ Z113 (by omega)
  have l2 : ∀ (m n : Nat) (h1 : List va_E) (u : Option Value), CZ G Z h1 0 → n + m = nc (aG (zA Z)) (aS (zA Z)) → Go E mL_told d 0 0 33 [some (.ref 0), some (.long (tdN Z n)), none, some (.int (nI n)), u] [] h1 (RLg (fun x h' => x = tdF Z ∧ CZ G Z h' 0)) := by
    intro m
    induction m with
    | zero =>
      intro n h1 u q1 hm
      obtain ⟨n1, k1, o1⟩ := q1.obj
      have ec : n = nc (aG (zA Z)) (aS (zA Z)) := by omega
      subst ec
      refine go_iload_3 (DL_told.at 20 rfl) ?_
      refine go_aload_0 (DL_told.at 21 rfl) ?_
      refine go_iconst (v := nI 4) (DL_told.at 22 rfl) (by decide) ?_
      refine go_cVi1 (DL_told.at 23 rfl) nL_63 vX5_total (by omega) (z_total q1 (by omega)) o1 rfl (Nat.le_of_ble_eq_true rfl) (fun x36 h36 q36 => ?_)
      obtain ⟨e36, Z36⟩ := q36
      rw [tot_in (by omega)] at e36
      subst e36
      obtain ⟨n36, k36, o36⟩ := Z36.obj
      rw [show totZ Z 4 = nI (nc (aG (zA Z)) (aS (zA Z))) from rfl]
      refine go_icmp_ge 95 (DL_told.at 24 rfl) (by decide) (fun c39 => ?_) (fun c39 => absurd (Int32.le_refl _) c39)
      refine go_iconst (v := nI 0) (DL_told.at 55 rfl) (by decide) ?_
      refine go_istore_3 (DL_told.at 56 rfl) ?_
      exact l4 _ 0 _ _ Z36 (Nat.zero_add _)
    | succ m ih =>
      intro n h1 u q1 hm
      obtain ⟨n1, k1, o1⟩ := q1.obj
      have l3 : ∀ (m t : Nat) (h2 : List va_E), CZ G Z h2 0 → t + m = aT (zA Z) → Go E mL_told d 0 0 58 [some (.ref 0), some (.long (tdV Z n (31 * tdN Z n + (ldF (zA Z) (nI n)).toInt64) t)), none, some (.int (nI n)), some (.int (nI t))] [] h2 (RLg (fun x h' => x = tdF Z ∧ CZ G Z h' 0)) := by
        intro m
        induction m with
        | zero =>
          intro t h2 q2 hm2
          obtain ⟨n2, k2, o2⟩ := q2.obj
          have ec : t = aT (zA Z) := by omega
          subst ec
          refine go_iload_4 (DL_told.at 36 rfl) ?_
          refine go_aload_0 (DL_told.at 37 rfl) ?_
          refine go_iconst (v := nI 2) (DL_told.at 38 rfl) (by decide) ?_
          refine go_cVi1 (DL_told.at 39 rfl) nL_63 vX5_total (by omega) (z_total q2 (by omega)) o2 rfl (Nat.le_of_ble_eq_true rfl) (fun x62 h62 q62 => ?_)
          obtain ⟨e62, Z62⟩ := q62
          rw [tot_in (by omega)] at e62
          subst e62
          obtain ⟨n62, k62, o62⟩ := Z62.obj
          rw [show totZ Z 2 = nI (aT (zA Z)) from rfl]
          refine go_icmp_ge 89 (DL_told.at 40 rfl) (by decide) (fun c65 => ?_) (fun c65 => absurd (Int32.le_refl _) c65)
          refine go_iincN_3 (DL_told.at 53 rfl) ?_
          refine go_goto 33 (DL_told.at 54 rfl) (by decide) ?_
          exact ih (n + 1) _ _ Z62 (by omega)
        | succ m ih3 =>
          intro t h2 q2 hm2
          obtain ⟨n2, k2, o2⟩ := q2.obj
          refine go_iload_4 (DL_told.at 36 rfl) ?_
          refine go_aload_0 (DL_told.at 37 rfl) ?_
          refine go_iconst (v := nI 2) (DL_told.at 38 rfl) (by decide) ?_
          refine go_cVi1 (DL_told.at 39 rfl) nL_63 vX5_total (by omega) (z_total q2 (by omega)) o2 rfl (Nat.le_of_ble_eq_true rfl) (fun x62 h62 q62 => ?_)
          obtain ⟨e62, Z62⟩ := q62
          rw [tot_in (by omega)] at e62
          subst e62
          obtain ⟨n62, k62, o62⟩ := Z62.obj
          rw [show totZ Z 2 = nI (aT (zA Z)) from rfl]
          refine go_icmp_ge 89 (DL_told.at 40 rfl) (by decide) (fun c65 => absurd c65 (by rw [nI_leI (by omega) (by omega)]; omega)) (fun c65 => ?_)
          refine go_ldc2 (DL_told.at 41 rfl) lL_69 ?_
          refine go_lload_1 (DL_told.at 42 rfl) ?_
          refine go_lmul (DL_told.at 43 rfl) ?_
          refine go_aload_0 (DL_told.at 44 rfl) ?_
          refine go_iload_4 (DL_told.at 45 rfl) ?_
          refine go_iload_3 (DL_told.at 46 rfl) ?_
          refine go_cVi2 (DL_told.at 47 rfl) nL_71 vX5_value (by omega) (z_value Z62 (by omega)) o62 rfl (Nat.le_of_ble_eq_true rfl) (fun x77 h77 q77 => ?_)
          obtain ⟨e77, Z77⟩ := q77
          subst e77
          refine go_i2l (DL_told.at 48 rfl) ?_
          refine go_ladd (DL_told.at 49 rfl) ?_
          rw [show 37 * tdV Z n (31 * tdN Z n + (ldF (zA Z) (nI n)).toInt64) t + (vaF (zA Z) (nI t) (nI n)).toInt64 = tdV Z n (31 * tdN Z n + (ldF (zA Z) (nI n)).toInt64) (t + 1) from rfl]
          refine go_lstore_1 (DL_told.at 50 rfl) ?_
          refine go_iincN_4 (DL_told.at 51 rfl) ?_
          refine go_goto 58 (DL_told.at 52 rfl) (by decide) ?_
          exact ih3 (t + 1) _ Z77 (by omega)
      refine go_iload_3 (DL_told.at 20 rfl) ?_
      refine go_aload_0 (DL_told.at 21 rfl) ?_
      refine go_iconst (v := nI 4) (DL_told.at 22 rfl) (by decide) ?_
      refine go_cVi1 (DL_told.at 23 rfl) nL_63 vX5_total (by omega) (z_total q1 (by omega)) o1 rfl (Nat.le_of_ble_eq_true rfl) (fun x36 h36 q36 => ?_)
      obtain ⟨e36, Z36⟩ := q36
      rw [tot_in (by omega)] at e36
      subst e36
      obtain ⟨n36, k36, o36⟩ := Z36.obj
      rw [show totZ Z 4 = nI (nc (aG (zA Z)) (aS (zA Z))) from rfl]
      refine go_icmp_ge 95 (DL_told.at 24 rfl) (by decide) (fun c39 => absurd c39 (by rw [nI_leI (by omega) (by omega)]; omega)) (fun c39 => ?_)
      refine go_ldc2 (DL_told.at 25 rfl) lL_61 ?_
      refine go_lload_1 (DL_told.at 26 rfl) ?_
      refine go_lmul (DL_told.at 27 rfl) ?_
      refine go_aload_0 (DL_told.at 28 rfl) ?_
      refine go_iload_3 (DL_told.at 29 rfl) ?_
      refine go_cVi1 (DL_told.at 30 rfl) nL_66 vX5_load (by omega) (z_load Z36 (by omega)) o36 rfl (Nat.le_of_ble_eq_true rfl) (fun x49 h49 q49 => ?_)
      obtain ⟨e49, Z49⟩ := q49
      subst e49
      refine go_i2l (DL_told.at 31 rfl) ?_
      refine go_ladd (DL_told.at 32 rfl) ?_
      refine go_lstore_1 (DL_told.at 33 rfl) ?_
      refine go_iconst (v := nI 0) (DL_told.at 34 rfl) (by decide) ?_
      refine go_istore_4 (DL_told.at 35 rfl) ?_
      exact l3 (aT (zA Z)) 0 _ Z49 (Nat.zero_add _)
  have l1 : ∀ (m j : Nat) (h1 : List va_E), CZ G Z h1 0 → j + m = 10 → Go E mL_told d 0 0 6 [some (.ref 0), some (.long (tdA Z j)), none, some (.int (nI j)), none] [] h1 (RLg (fun x h' => x = tdF Z ∧ CZ G Z h' 0)) := by
    intro m
    induction m with
    | zero =>
      intro j h1 q1 hm
      obtain ⟨n1, k1, o1⟩ := q1.obj
      have ec : j = 10 := by omega
      subst ec
      refine go_iload_3 (DL_told.at 4 rfl) ?_
      refine go_bipush (v := nI 10) (DL_told.at 5 rfl) (by decide) ?_
      refine go_icmp_ge 31 (DL_told.at 6 rfl) (by decide) (fun c9 => ?_) (fun c9 => absurd (Int32.le_refl _) c9)
      refine go_iconst (v := nI 0) (DL_told.at 18 rfl) (by decide) ?_
      refine go_istore_3 (DL_told.at 19 rfl) ?_
      exact l2 _ 0 _ _ q1 (Nat.zero_add _)
    | succ m ih =>
      intro j h1 q1 hm
      obtain ⟨n1, k1, o1⟩ := q1.obj
      refine go_iload_3 (DL_told.at 4 rfl) ?_
      refine go_bipush (v := nI 10) (DL_told.at 5 rfl) (by decide) ?_
      refine go_icmp_ge 31 (DL_told.at 6 rfl) (by decide) (fun c9 => absurd c9 (by rw [nI_leI (by decide) (by omega)]; omega)) (fun c9 => ?_)
      refine go_ldc2 (DL_told.at 7 rfl) lL_61 ?_
      refine go_lload_1 (DL_told.at 8 rfl) ?_
      refine go_lmul (DL_told.at 9 rfl) ?_
      refine go_aload_0 (DL_told.at 10 rfl) ?_
      refine go_iload_3 (DL_told.at 11 rfl) ?_
      refine go_cVi1 (DL_told.at 12 rfl) nL_63 vX5_total (by omega) (z_total q1 (by omega)) o1 rfl (Nat.le_of_ble_eq_true rfl) (fun x19 h19 q19 => ?_)
      obtain ⟨e19, Z19⟩ := q19
      rw [tot_in (by omega)] at e19
      subst e19
      obtain ⟨n19, k19, o19⟩ := Z19.obj
      refine go_i2l (DL_told.at 13 rfl) ?_
      refine go_ladd (DL_told.at 14 rfl) ?_
      rw [show 31 * tdA Z j + (totZ Z j).toInt64 = tdA Z (j + 1) from rfl]
      refine go_lstore_1 (DL_told.at 15 rfl) ?_
      refine go_iincN_3 (DL_told.at 16 rfl) ?_
      refine go_goto 6 (DL_told.at 17 rfl) (by decide) ?_
      exact ih (j + 1) _ Z19 (by omega)
  refine go_ldc2 (DL_told.at 0 rfl) lL_59 ?_
  refine go_lstore_1 (DL_told.at 1 rfl) ?_
  refine go_iconst (v := nI 0) (DL_told.at 2 rfl) (by decide) ?_
  refine go_istore_3 (DL_told.at 3 rfl) ?_
  exact l1 10 0 _ hZ (by decide)

theorem c_call {k t c v : Nat} (hk : k < 6) (hZ : CZ G Z h 0) (hd : 9 ≤ d) : Calls E mL_call d 0 0 [.ref 0, .int (nI k), .int (nI t), .int (nI c), .int (nI v)] h (RI (fun r h' => r = (chZ Z (opR (zA Z) k t c v)).1 ∧ CZ G (chZ Z (opR (zA Z) k t c v)).2 h' 0)) := by
  refine Calls.of (ls := [some (.ref 0), some (.int (nI k)), some (.int (nI t)), some (.int (nI c)), some (.int (nI v))]) (by decide +kernel) rfl (Nat.le_of_ble_eq_true rfl) (cat_ok rfl) ?_
  obtain ⟨n0, k0, o0⟩ := hZ.obj
  refine go_iload_1 (DL_call.at 0 rfl) ?_
  rcases (show k = 0 ∨ k = 1 ∨ k = 2 ∨ k = 3 ∨ k = 4 ∨ k = 5 by omega) with rfl | rfl | rfl | rfl | rfl | rfl
  · rw [opR_0]
    refine go_tableIn 36 (DL_call.at 1 rfl) (by decide) (by decide) rfl (by decide) ?_
    refine go_aload_0 (DL_call.at 2 rfl) ?_
    refine go_iload_2 (DL_call.at 3 rfl) ?_
    refine go_iload_3 (DL_call.at 4 rfl) ?_
    refine go_iload_4 (DL_call.at 5 rfl) ?_
    refine go_cVi3 (DL_call.at 6 rfl) nL_94 vX5_write (by omega) (z_write hZ (by omega)) o0 rfl (Nat.le_of_ble_eq_true rfl) (fun x41 h41 q41 => ?_)
    exact go_iret (DL_call.at 7 rfl) rfl rfl (RI.mk q41)
  · rw [opR_1]
    refine go_tableIn 45 (DL_call.at 1 rfl) (by decide) (by decide) rfl (by decide) ?_
    refine go_aload_0 (DL_call.at 8 rfl) ?_
    refine go_iload_2 (DL_call.at 9 rfl) ?_
    refine go_iload_3 (DL_call.at 10 rfl) ?_
    refine go_cVi2 (DL_call.at 11 rfl) nL_98 vX5_lose (by omega) (z_lose hZ (by omega)) o0 rfl (Nat.le_of_ble_eq_true rfl) (fun x48 h48 q48 => ?_)
    exact go_iret (DL_call.at 12 rfl) rfl rfl (RI.mk q48)
  · rw [opR_2]
    refine go_tableIn 52 (DL_call.at 1 rfl) (by decide) (by decide) rfl (by decide) ?_
    refine go_aload_0 (DL_call.at 13 rfl) ?_
    refine go_iload_3 (DL_call.at 14 rfl) ?_
    refine go_cVi1 (DL_call.at 15 rfl) nL_101 vX5_loseNode (by omega) (z_loseNode hZ (by omega)) o0 rfl (Nat.le_of_ble_eq_true rfl) (fun x54 h54 q54 => ?_)
    exact go_iret (DL_call.at 16 rfl) rfl rfl (RI.mk q54)
  · rw [opR_3]
    refine go_tableIn 58 (DL_call.at 1 rfl) (by decide) (by decide) rfl (by decide) ?_
    refine go_aload_0 (DL_call.at 17 rfl) ?_
    refine go_iload_2 (DL_call.at 18 rfl) ?_
    refine go_iload_3 (DL_call.at 19 rfl) ?_
    refine go_cVi2 (DL_call.at 20 rfl) nL_104 vX5_mend (by omega) (z_mend hZ (by omega)) o0 rfl (Nat.le_of_ble_eq_true rfl) (fun x61 h61 q61 => ?_)
    exact go_iret (DL_call.at 21 rfl) rfl rfl (RI.mk q61)
  · rw [opR_4]
    refine go_tableIn 65 (DL_call.at 1 rfl) (by decide) (by decide) rfl (by decide) ?_
    refine go_aload_0 (DL_call.at 22 rfl) ?_
    refine go_iload_3 (DL_call.at 23 rfl) ?_
    refine go_cVi1 (DL_call.at 24 rfl) nL_107 vX5_mendNode (by omega) (z_mendNode hZ (by omega)) o0 rfl (Nat.le_of_ble_eq_true rfl) (fun x67 h67 q67 => ?_)
    exact go_iret (DL_call.at 25 rfl) rfl rfl (RI.mk q67)
  · rw [opR_5]
    refine go_tableOut 71 (DL_call.at 1 rfl) (by decide) (by decide) ?_
    refine go_aload_0 (DL_call.at 26 rfl) ?_
    refine go_iconst (v := nI 1) (DL_call.at 27 rfl) (by decide) ?_
    refine go_cVi1 (DL_call.at 28 rfl) nL_110 vX5_work (by omega) (z_work hZ (by omega)) o0 rfl (Nat.le_of_ble_eq_true rfl) (fun x73 h73 q73 => ?_)
    exact go_iret (DL_call.at 29 rfl) rfl rfl (RI.mk q73)

end LM
