/-! A STATE: copying, partners, culprits, nodes of a set -/
def pmv (g s c : Nat) : Nat := if hcv g s c < g then (((2 ^ s - 1) * 2 ^ (hcv g s c * s)) ||| 2 ^ (g * s + hcv g s c)) &&& (2 ^ c ^^^ 4294967295) else 2 ^ (g * s) - 1
section SW
variable {E : AEnv} {d : Nat} {h : List va_E} {b : Nat} {σ : Rows} {g s T sh : Nat}
theorem c_copySt {a b1 b2 : Nat} {σ1 σ2 : Rows} (h1 : StAt h b1 σ1) (h2 : StAt h b2 σ2) (ha : 1 ≤ a ∧ a ≤ 5) (hd : 1 ≤ d) : Calls E mX5_copyRow d 0 0 [.ref (b1 + a), .ref (b2 + a)] h (RV (StU h b2 (rset σ2 a (va_cpy (σ1 a) (σ2 a) 0 0 (nA a))))) := by
  refine (c_copyRow (h1.get ha) (h2.get ha) (by unfold nA; split <;> (try split) <;> decide) hd).weaken ?_
  rintro r h' ⟨rfl, rfl⟩
  exact ⟨rfl, h2.row ha _⟩
theorem c_copyFrom {a c : Nat} {σ1 σ2 : Rows} (hA : StAt h a σ1) (hB : StAt h c σ2) (hac : a + 6 ≤ c ∨ c + 6 ≤ a) (hd : 2 ≤ d) : Calls E mX4_copyFrom d 0 0 [.ref a, .ref c] h (RV (fun h' => ∃ σ', StU h a σ' h' ∧ REq σ' σ2)) := by
  refine Calls.of (ls := [some (.ref a), some (.ref c)]) (by decide +kernel) rfl (Nat.le_of_ble_eq_true rfl) (cat_ok rfl) ?_
  refine go_aload_1 (DX4_copyFrom.at 0 rfl) ?_
  refine go_ifnonnull 5 (DX4_copyFrom.at 1 rfl) (by decide) ?_
  refine go_aload_0 (DX4_copyFrom.at 3 rfl) ?_
  refine go_aload_1 (DX4_copyFrom.at 4 rfl) ?_
  refine go_getfield (DX4_copyFrom.at 5 rfl) fX4_9 hB.1 rfl ?_
  refine go_putSt (DX4_copyFrom.at 6 rfl) fX4_9 (by decide) hA (fun h10 q10 => ?_)
  have s10 := hB.keep q10.2 (by omega)
  refine go_aload_0 (DX4_copyFrom.at 7 rfl) ?_
  refine go_aload_1 (DX4_copyFrom.at 8 rfl) ?_
  refine go_getfield (DX4_copyFrom.at 9 rfl) fX4_15 s10.1 rfl ?_
  refine go_putSt (DX4_copyFrom.at 10 rfl) fX4_15 (by decide) q10.1 (fun h18 q18 => ?_)
  have s18 := s10.keep q18.2 (by omega)
  refine go_aload_0 (DX4_copyFrom.at 11 rfl) ?_
  refine go_aload_1 (DX4_copyFrom.at 12 rfl) ?_
  refine go_getfield (DX4_copyFrom.at 13 rfl) fX4_18 s18.1 rfl ?_
  refine go_putSt (DX4_copyFrom.at 14 rfl) fX4_18 (by decide) q18.1 (fun h26 q26 => ?_)
  have s26 := s18.keep q26.2 (by omega)
  refine go_aload_0 (DX4_copyFrom.at 15 rfl) ?_
  refine go_aload_1 (DX4_copyFrom.at 16 rfl) ?_
  refine go_getfield (DX4_copyFrom.at 17 rfl) fX4_21 s26.1 rfl ?_
  refine go_putSt (DX4_copyFrom.at 18 rfl) fX4_21 (by decide) q26.1 (fun h34 q34 => ?_)
  have s34 := s26.keep q34.2 (by omega)
  refine go_aload_0 (DX4_copyFrom.at 19 rfl) ?_
  refine go_aload_1 (DX4_copyFrom.at 20 rfl) ?_
  refine go_getfield (DX4_copyFrom.at 21 rfl) fX4_24 s34.1 rfl ?_
  refine go_putSt (DX4_copyFrom.at 22 rfl) fX4_24 (by decide) q34.1 (fun h42 q42 => ?_)
  have s42 := s34.keep q42.2 (by omega)
  refine go_aload_0 (DX4_copyFrom.at 23 rfl) ?_
  refine go_aload_1 (DX4_copyFrom.at 24 rfl) ?_
  refine go_getfield (DX4_copyFrom.at 25 rfl) fX4_27 s42.1 rfl ?_
  refine go_putSt (DX4_copyFrom.at 26 rfl) fX4_27 (by decide) q42.1 (fun h50 q50 => ?_)
  have s50 := s42.keep q50.2 (by omega)
  refine go_aload_0 (DX4_copyFrom.at 27 rfl) ?_
  refine go_aload_1 (DX4_copyFrom.at 28 rfl) ?_
  refine go_getfield (DX4_copyFrom.at 29 rfl) fX4_30 s50.1 rfl ?_
  refine go_putSt (DX4_copyFrom.at 30 rfl) fX4_30 (by decide) q50.1 (fun h58 q58 => ?_)
  have s58 := s50.keep q58.2 (by omega)
  refine go_aload_0 (DX4_copyFrom.at 31 rfl) ?_
  refine go_aload_1 (DX4_copyFrom.at 32 rfl) ?_
  refine go_getfield (DX4_copyFrom.at 33 rfl) fX4_33 s58.1 rfl ?_
  refine go_putSt (DX4_copyFrom.at 34 rfl) fX4_33 (by decide) q58.1 (fun h66 q66 => ?_)
  have s66 := s58.keep q66.2 (by omega)
  refine go_aload_0 (DX4_copyFrom.at 35 rfl) ?_
  refine go_aload_1 (DX4_copyFrom.at 36 rfl) ?_
  refine go_getfield (DX4_copyFrom.at 37 rfl) fX4_36 s66.1 rfl ?_
  refine go_putSt (DX4_copyFrom.at 38 rfl) fX4_36 (by decide) q66.1 (fun h74 q74 => ?_)
  have s74 := s66.keep q74.2 (by omega)
  refine go_aload_1 (DX4_copyFrom.at 39 rfl) ?_
  refine go_getfield (DX4_copyFrom.at 40 rfl) fX4_39 s74.1 rfl ?_
  refine go_aload_0 (DX4_copyFrom.at 41 rfl) ?_
  refine go_getfield (DX4_copyFrom.at 42 rfl) fX4_39 q74.1.1 rfl ?_
  refine go_cSv2 (DX4_copyFrom.at 43 rfl) nX4_59 vX5_copyRow (by omega) (c_copySt s74 q74.1 (a := 1) (by decide) (by omega)) (Nat.le_of_ble_eq_true rfl) (fun h85 q85 => ?_)
  have s85 := s74.keep q85.2 (by omega)
  refine go_aload_1 (DX4_copyFrom.at 44 rfl) ?_
  refine go_getfield (DX4_copyFrom.at 45 rfl) fX4_43 s85.1 rfl ?_
  refine go_aload_0 (DX4_copyFrom.at 46 rfl) ?_
  refine go_getfield (DX4_copyFrom.at 47 rfl) fX4_43 q85.1.1 rfl ?_
  refine go_cSv2 (DX4_copyFrom.at 48 rfl) nX4_59 vX5_copyRow (by omega) (c_copySt s85 q85.1 (a := 2) (by decide) (by omega)) (Nat.le_of_ble_eq_true rfl) (fun h96 q96 => ?_)
  have s96 := s85.keep q96.2 (by omega)
  refine go_aload_1 (DX4_copyFrom.at 49 rfl) ?_
  refine go_getfield (DX4_copyFrom.at 50 rfl) fX4_46 s96.1 rfl ?_
  refine go_aload_0 (DX4_copyFrom.at 51 rfl) ?_
  refine go_getfield (DX4_copyFrom.at 52 rfl) fX4_46 q96.1.1 rfl ?_
  refine go_cSv2 (DX4_copyFrom.at 53 rfl) nX4_59 vX5_copyRow (by omega) (c_copySt s96 q96.1 (a := 3) (by decide) (by omega)) (Nat.le_of_ble_eq_true rfl) (fun h107 q107 => ?_)
  have s107 := s96.keep q107.2 (by omega)
  refine go_aload_1 (DX4_copyFrom.at 54 rfl) ?_
  refine go_getfield (DX4_copyFrom.at 55 rfl) fX4_49 s107.1 rfl ?_
  refine go_aload_0 (DX4_copyFrom.at 56 rfl) ?_
  refine go_getfield (DX4_copyFrom.at 57 rfl) fX4_49 q107.1.1 rfl ?_
  refine go_cSv2 (DX4_copyFrom.at 58 rfl) nX4_59 vX5_copyRow (by omega) (c_copySt s107 q107.1 (a := 4) (by decide) (by omega)) (Nat.le_of_ble_eq_true rfl) (fun h118 q118 => ?_)
  have s118 := s107.keep q118.2 (by omega)
  refine go_aload_1 (DX4_copyFrom.at 59 rfl) ?_
  refine go_getfield (DX4_copyFrom.at 60 rfl) fX4_52 s118.1 rfl ?_
  refine go_aload_0 (DX4_copyFrom.at 61 rfl) ?_
  refine go_getfield (DX4_copyFrom.at 62 rfl) fX4_52 q118.1.1 rfl ?_
  refine go_cSv2 (DX4_copyFrom.at 63 rfl) nX4_59 vX5_copyRow (by omega) (c_copySt s118 q118.1 (a := 5) (by decide) (by omega)) (Nat.le_of_ble_eq_true rfl) (fun h129 q129 => ?_)
  have s129 := s118.keep q129.2 (by omega)
  refine go_return (DX4_copyFrom.at 64 rfl) rfl (RV.mk ⟨_, (q10.then (q18.then (q26.then (q34.then (q42.then (q50.then (q58.then (q66.then (q74.then (q85.then (q96.then (q107.then (q118.then q129))))))))))))), fun k hk => ?_, fun a h1 h2 j hj => ?_⟩)
  · show upd (upd (upd (upd (upd (upd (upd (upd (upd (σ1 0) 0 (σ2 0 0)) 1 (σ2 0 1)) 2 (σ2 0 2)) 3 (σ2 0 3)) 4 (σ2 0 4)) 5 (σ2 0 5)) 6 (σ2 0 6)) 7 (σ2 0 7)) 8 (σ2 0 8) k = σ2 0 k
    rcases (show k = 0 ∨ k = 1 ∨ k = 2 ∨ k = 3 ∨ k = 4 ∨ k = 5 ∨ k = 6 ∨ k = 7 ∨ k = 8 by omega) with rfl | rfl | rfl | rfl | rfl | rfl | rfl | rfl | rfl <;> rfl
  · rcases (show a = 1 ∨ a = 2 ∨ a = 3 ∨ a = 4 ∨ a = 5 by omega) with rfl | rfl | rfl | rfl | rfl
    · show va_cpy (σ2 1) _ 0 0 (nA 1) j = σ2 1 j
      rw [pk_cpy_in (Nat.zero_le j) (by omega)]; congr 1; omega
    · show va_cpy (σ2 2) _ 0 0 (nA 2) j = σ2 2 j
      rw [pk_cpy_in (Nat.zero_le j) (by omega)]; congr 1; omega
    · show va_cpy (σ2 3) _ 0 0 (nA 3) j = σ2 3 j
      rw [pk_cpy_in (Nat.zero_le j) (by omega)]; congr 1; omega
    · show va_cpy (σ2 4) _ 0 0 (nA 4) j = σ2 4 j
      rw [pk_cpy_in (Nat.zero_le j) (by omega)]; congr 1; omega
    · show va_cpy (σ2 5) _ 0 0 (nA 5) j = σ2 5 j
      rw [pk_cpy_in (Nat.zero_le j) (by omega)]; congr 1; omega

theorem c_partnersOf (hS : StAt h b σ) (hL : LayX σ g s T sh) {c : Nat} (hc : c < nc g s) (hd : 2 ≤ d) : Calls E mX4_partnersOf d 0 0 [.ref b, .int (nI c)] h (RX (nI (pmv g s c)) h) := by
  refine Calls.of (ls := [some (.ref b), some (.int (nI c)), none, none, none]) (by decide +kernel) rfl (Nat.le_of_ble_eq_true rfl) (cat_ok rfl) ?_
  have hn := hL.2.2.2.2.nc
  have hg4 := hL.2.2.2.2.2.1
  have hs6 := hL.2.2.2.2.2.2.2.1
  have hgs := hL.2.2.2.2.2.2.2.2.1
  have hh := hcv_lt hL.2.2.2.2 hc
  have hks : hcv g s c < g → hcv g s c * s < 16 := fun q => by
    have : hcv g s c * s ≤ g * s := Nat.mul_le_mul_right s (Nat.le_of_lt q)
    omega
  refine go_aload_0 (DX4_partnersOf.at 0 rfl) ?_
  refine go_iload_1 (DX4_partnersOf.at 1 rfl) ?_
  refine go_cVx1 (DX4_partnersOf.at 2 rfl) nX4_73 vX4_homeCheck (by omega) (c_homeC hS hL hc (by omega)) hS.1 rfl (Nat.le_of_ble_eq_true rfl) ?_
  refine go_istore_2 (DX4_partnersOf.at 3 rfl) ?_
  refine go_iload_2 (DX4_partnersOf.at 4 rfl) ?_
  refine go_aload_0 (DX4_partnersOf.at 5 rfl) ?_
  refine go_getfield (DX4_partnersOf.at 6 rfl) fX4_9 hS.1 rfl ?_
  rw [hL.1]
  refine go_icmp_lt 23 (DX4_partnersOf.at 7 rfl) (by decide) (fun c11 => ?_) (fun c11 => ?_)
  · rw [nI_ltI (by omega) (by omega)] at c11
    refine go_iconst (v := nI 1) (DX4_partnersOf.at 15 rfl) (by decide) ?_
    refine go_aload_0 (DX4_partnersOf.at 16 rfl) ?_
    refine go_getfield (DX4_partnersOf.at 17 rfl) fX4_15 hS.1 rfl ?_
    rw [hL.2.1]
    refine go_ishl (DX4_partnersOf.at 18 rfl) ?_
    rw [nx_shlW _ (by omega), Nat.one_mul]
    refine go_iconst (v := nI 1) (DX4_partnersOf.at 19 rfl) (by decide) ?_
    refine go_isub (DX4_partnersOf.at 20 rfl) ?_
    rw [pk_sub Nat.one_le_two_pow]
    refine go_iload_2 (DX4_partnersOf.at 21 rfl) ?_
    refine go_aload_0 (DX4_partnersOf.at 22 rfl) ?_
    refine go_getfield (DX4_partnersOf.at 23 rfl) fX4_15 hS.1 rfl ?_
    rw [hL.2.1]
    refine go_imul (DX4_partnersOf.at 24 rfl) ?_
    rw [pk_mul]
    refine go_ishl (DX4_partnersOf.at 25 rfl) ?_
    rw [nx_shlW _ (by have := hks c11; omega)]
    refine go_istore_3 (DX4_partnersOf.at 26 rfl) ?_
    refine go_iconst (v := nI 1) (DX4_partnersOf.at 27 rfl) (by decide) ?_
    refine go_aload_0 (DX4_partnersOf.at 28 rfl) ?_
    refine go_cVx0 (DX4_partnersOf.at 29 rfl) nX4_81 vX4_dataCount (by omega) (c_dataCount hS hL) hS.1 rfl (Nat.le_of_ble_eq_true rfl) ?_
    refine go_iload_2 (DX4_partnersOf.at 30 rfl) ?_
    refine go_iadd (DX4_partnersOf.at 31 rfl) ?_
    rw [nI_add]
    refine go_ishl (DX4_partnersOf.at 32 rfl) ?_
    rw [nx_shlW _ (by omega), Nat.one_mul]
    refine go_istore_4 (DX4_partnersOf.at 33 rfl) ?_
    refine go_iload_3 (DX4_partnersOf.at 34 rfl) ?_
    refine go_iload_4 (DX4_partnersOf.at 35 rfl) ?_
    refine go_ior (DX4_partnersOf.at 36 rfl) ?_
    rw [nx_or]
    refine go_iconst (v := nI 1) (DX4_partnersOf.at 37 rfl) (by decide) ?_
    refine go_iload_1 (DX4_partnersOf.at 38 rfl) ?_
    refine go_ishl (DX4_partnersOf.at 39 rfl) ?_
    rw [nx_shlW _ (by omega), Nat.one_mul]
    refine go_iconst (v := (-1)) (DX4_partnersOf.at 40 rfl) (by decide) ?_
    refine go_ixor (DX4_partnersOf.at 41 rfl) ?_
    rw [m1_nI, nx_xor]
    refine go_iand (DX4_partnersOf.at 42 rfl) ?_
    rw [nx_and]
    exact go_iret (DX4_partnersOf.at 43 rfl) rfl rfl (RX.mk (by unfold pmv; rw [if_pos c11]) rfl)
  · rw [nI_ltI (by omega) (by omega)] at c11
    refine go_iconst (v := nI 1) (DX4_partnersOf.at 8 rfl) (by decide) ?_
    refine go_aload_0 (DX4_partnersOf.at 9 rfl) ?_
    refine go_cVx0 (DX4_partnersOf.at 10 rfl) nX4_81 vX4_dataCount (by omega) (c_dataCount hS hL) hS.1 rfl (Nat.le_of_ble_eq_true rfl) ?_
    refine go_ishl (DX4_partnersOf.at 11 rfl) ?_
    rw [nx_shlW _ (by omega), Nat.one_mul]
    refine go_iconst (v := nI 1) (DX4_partnersOf.at 12 rfl) (by decide) ?_
    refine go_isub (DX4_partnersOf.at 13 rfl) ?_
    rw [pk_sub Nat.one_le_two_pow]
    exact go_iret (DX4_partnersOf.at 14 rfl) rfl rfl (RX.mk (by unfold pmv; rw [if_neg c11]) rfl)

theorem all_bit {n c : Nat} (hc : c < n) : (2 ^ n - 1) / 2 ^ c % 2 = 1 := by
  have h := Nat.testBit_two_pow_sub_one n c
  rw [Nat.testBit_eq_decide_div_mod_eq] at h
  simpa [hc] using h
theorem p20 {n : Nat} (hn : n ≤ 20) : 2 ^ n ≤ 1048576 := Nat.pow_le_pow_right (by decide) hn
/-- changing the cell c alone by what its home check misses makes all checks hold -/
def CU (C : Nat → Nat → Nat) (S : Nat → Nat) (k c : Nat) : Prop := S k ≠ 0 ∧ ∀ i, i < 6 → gm (C c i) (S k) = S i
theorem c_culpritIn (hS : StAt h b σ) (hL : LayX σ g s T sh) {t : Nat} {C : Nat → Nat → Nat} {V : Nat → Nat} (hC : ColX σ (nc g s) C) (ht : t < 8) (hV : ∀ c, c < nc g s → σ 2 (t * 20 + c) = nI (V c) ∧ V c < 16) (hd : 3 ≤ d) : Calls E mX4_culpritIn d 0 0 [.ref b, .int (nI t)] h (RI (fun x h1 => h1 = h ∧ ((∃ c, c < nc g s ∧ x = nI c ∧ CU C (vsum C V (2 ^ nc g s - 1) (nc g s)) (hcv g s c) c ∧ ∀ j, j < c → ¬ CU C (vsum C V (2 ^ nc g s - 1) (nc g s)) (hcv g s j) j) ∨ (x = (-5) ∧ ∀ j, j < nc g s → ¬ CU C (vsum C V (2 ^ nc g s - 1) (nc g s)) (hcv g s j) j)))) := by
  refine Calls.of (ls := [some (.ref b), some (.int (nI t)), none, none, none]) (by decide +kernel) rfl (Nat.le_of_ble_eq_true rfl) (cat_ok rfl) ?_
  have hn := hL.2.2.2.2.nc
  have hp := p20 hn.2
  obtain ⟨S, hSe⟩ : ∃ S, S = vsum C V (2 ^ nc g s - 1) (nc g s) := ⟨_, rfl⟩
  have hS6 : ∀ i, i < 6 → S i < 16 := by
    rw [hSe]
    exact vsum_lt (fun c hc => (hC c hc).2) (fun c hc _ => (hV c hc).2) _ (Nat.le_refl _)
  rw [← hSe]
  have loop : ∀ (m j : Nat) (x4 : Option Value), j + m = nc g s → (∀ k, k < j → ¬ CU C S (hcv g s k) k) → Go E mX4_culpritIn d 0 0 12 [some (.ref b), some (.int (nI t)), some (.int (nI (pq 6 S))), some (.int (nI j)), x4] [] h (RI (fun x h1 => h1 = h ∧ ((∃ c, c < nc g s ∧ x = nI c ∧ CU C S (hcv g s c) c ∧ ∀ j, j < c → ¬ CU C S (hcv g s j) j) ∨ (x = (-5) ∧ ∀ j, j < nc g s → ¬ CU C S (hcv g s j) j)))) := by
    intro m
    induction m with
    | zero =>
      intro j x4 hj hb
      have ej : j = nc g s := by omega
      subst ej
      refine go_iload_3 (DX4_culpritIn.at 8 rfl) ?_
      refine go_aload_0 (DX4_culpritIn.at 9 rfl) ?_
      refine go_cVx0 (DX4_culpritIn.at 10 rfl) nX4_69 vX4_cellCount (by omega) (c_cellCount hS hL) hS.1 rfl (Nat.le_of_ble_eq_true rfl) ?_
      refine go_icmp_ge 58 (DX4_culpritIn.at 11 rfl) (by decide) (fun c17 => ?_) (fun c17 => absurd (Int32.le_refl _) c17)
      refine go_bipush (v := (-5)) (DX4_culpritIn.at 31 rfl) (by decide) ?_
      exact go_iret (DX4_culpritIn.at 32 rfl) rfl rfl (RI.mk ⟨rfl, Or.inr ⟨rfl, hb⟩⟩)
    | succ m ih =>
      intro j x4 hj hb
      refine go_iload_3 (DX4_culpritIn.at 8 rfl) ?_
      refine go_aload_0 (DX4_culpritIn.at 9 rfl) ?_
      refine go_cVx0 (DX4_culpritIn.at 10 rfl) nX4_69 vX4_cellCount (by omega) (c_cellCount hS hL) hS.1 rfl (Nat.le_of_ble_eq_true rfl) ?_
      refine go_icmp_ge 58 (DX4_culpritIn.at 11 rfl) (by decide) (fun c17 => absurd c17 (nI_ge (a := j) (b := nc g s) (by omega) (by omega))) (fun c17 => ?_)
      refine go_iload_2 (DX4_culpritIn.at 12 rfl) ?_
      refine go_aload_0 (DX4_culpritIn.at 13 rfl) ?_
      have hk6 : hcv g s j < 6 := Nat.lt_of_lt_of_le (hcv_lt hL.2.2.2.2 (show j < nc g s by omega)) (by have := hL.2.2.2.2.2.1; omega)
      refine go_iload_3 (DX4_culpritIn.at 14 rfl) ?_
      refine go_cVx1 (DX4_culpritIn.at 15 rfl) nX4_73 vX4_homeCheck (by omega) (c_homeC hS hL (show j < nc g s by omega) (by omega)) hS.1 rfl (Nat.le_of_ble_eq_true rfl) ?_
      refine go_cSx2 (DX4_culpritIn.at 16 rfl) nX4_110 vX5_element (by omega) (c_element hS6 hk6) (Nat.le_of_ble_eq_true rfl) ?_
      refine go_istore_4 (DX4_culpritIn.at 17 rfl) ?_
      refine go_iload_4 (DX4_culpritIn.at 18 rfl) ?_
      refine go_if_eq 52 (DX4_culpritIn.at 19 rfl) (by decide) (fun c33 => ?_) (fun c33 => ?_)
      · rw [nI_eq0 (by have := hS6 _ hk6; omega)] at c33
        have hno : ¬ CU C S (hcv g s j) j := fun q => q.1 c33
        refine go_iincN_3 (DX4_culpritIn.at 29 rfl) ?_
        refine go_goto 12 (DX4_culpritIn.at 30 rfl) (by decide) ?_
        refine ih (j + 1) _ (by omega) (fun k hk => ?_)
        rcases Nat.lt_or_ge k j with q | q
        · exact hb k q
        · rw [show k = j by omega]; exact hno
      · rw [nI_eq0 (by have := hS6 _ hk6; omega)] at c33
        refine go_aload_0 (DX4_culpritIn.at 20 rfl) ?_
        refine go_iload_3 (DX4_culpritIn.at 21 rfl) ?_
        refine go_cVx1 (DX4_culpritIn.at 22 rfl) nX4_120 vX4_columnOf (by omega) (c_columnOf hS (show j < 20 by omega) (by omega)) hS.1 rfl (Nat.le_of_ble_eq_true rfl) ?_
        rw [(hC j (by omega)).1]
        refine go_iload_4 (DX4_culpritIn.at 23 rfl) ?_
        refine go_cSx2 (DX4_culpritIn.at 24 rfl) nX4_123 vX5_scaled (by omega) (c_scaled (hC j (by omega)).2 (hS6 _ hk6)) (Nat.le_of_ble_eq_true rfl) ?_
        refine go_iload_2 (DX4_culpritIn.at 25 rfl) ?_
        refine go_icmp_ne 52 (DX4_culpritIn.at 26 rfl) (by decide) (fun c47 => ?_) (fun c47 => ?_)
        · have hno : ¬ CU C S (hcv g s j) j := fun q => c47 (congrArg nI (pq_congr q.2))
          refine go_iincN_3 (DX4_culpritIn.at 29 rfl) ?_
          refine go_goto 12 (DX4_culpritIn.at 30 rfl) (by decide) ?_
          refine ih (j + 1) _ (by omega) (fun k hk => ?_)
          rcases Nat.lt_or_ge k j with q | q
          · exact hb k q
          · rw [show k = j by omega]; exact hno
        · have e47 := (nI_eq (by have := pq_lt24 (v := fun i => gm (C j i) (S (hcv g s j))) (fun i hi => gm_lt ((hC j (by omega)).2 i hi) (hS6 _ hk6)); omega) (by have := pq_lt24 hS6; omega)).mp c47
          have hyes : CU C S (hcv g s j) j := ⟨c33, pq_inj (fun i hi => gm_lt ((hC j (by omega)).2 i hi) (hS6 _ hk6)) hS6 e47⟩
          refine go_iload_3 (DX4_culpritIn.at 27 rfl) ?_
          exact go_iret (DX4_culpritIn.at 28 rfl) rfl rfl (RI.mk ⟨rfl, Or.inl ⟨j, by omega, rfl, hyes, hb⟩⟩)
  refine go_aload_0 (DX4_culpritIn.at 0 rfl) ?_
  refine go_iload_1 (DX4_culpritIn.at 1 rfl) ?_
  refine go_aload_0 (DX4_culpritIn.at 2 rfl) ?_
  refine go_cVx0 (DX4_culpritIn.at 3 rfl) nX4_104 vX4_allCells (by omega) (c_allCells hS hL (by omega)) hS.1 rfl (Nat.le_of_ble_eq_true rfl) ?_
  refine go_cVx2 (DX4_culpritIn.at 4 rfl) nX4_126 vX4_sumsOver (by omega) (c_sumsOver hS hL hC ht (by omega) (fun c hc _ => hV c hc) (by omega)) hS.1 rfl (Nat.le_of_ble_eq_true rfl) ?_
  rw [← hSe]
  refine go_istore_2 (DX4_culpritIn.at 5 rfl) ?_
  refine go_iconst (v := nI 0) (DX4_culpritIn.at 6 rfl) (by decide) ?_
  refine go_istore_3 (DX4_culpritIn.at 7 rfl) ?_
  exact loop (nc g s) 0 none (by omega) (fun k hk => absurd hk (Nat.not_lt_zero k))

end SW
