/-! THE MODEL: the new object -/
def ml1 (a c : Nat) : Nat → Nat
  | 0 => 0
  | j + 1 => ml1 a c j ^^^ (if c / 2 ^ j % 2 = 1 then a * 2 ^ j else 0)
def ml2 (s : Nat) : Nat → Nat
  | 0 => s
  | j + 1 => ml2 s j ^^^ (if ml2 s j / 2 ^ (6 - j) % 2 = 1 then 19 * 2 ^ (6 - j - 4) else 0)
theorem ml_gm {a c : Nat} : a < 16 → c < 16 → ml2 (ml1 a c 4) 3 = gm a c := dec2 (P := fun a c => ml2 (ml1 a c 4) 3 = gm a c) (by decide +kernel)
theorem ml1_lt {a c : Nat} (ha : a < 16) (hc : c < 16) {j : Nat} (hj : j < 5) : ml1 a c j < 128 := by
  have h := dec2 (P := fun a c => (List.range 5).all (fun j => decide (ml1 a c j < 128)) = true) (by decide +kernel) ha hc
  exact of_decide_eq_true (List.all_eq_true.mp h j (List.mem_range.mpr hj))
theorem ml2_lt {s : Nat} (hs : s < 128) {j : Nat} (hj : j < 4) : ml2 s j < 128 := by
  have h : (List.range 128).all (fun s => (List.range 4).all (fun j => decide (ml2 s j < 128))) = true := by decide +kernel
  exact of_decide_eq_true (List.all_eq_true.mp (List.all_eq_true.mp h s (List.mem_range.mpr hs)) j (List.mem_range.mpr hj))
section M6
variable {E : AEnv} {d : Nat} {h h' l : List va_E} {b : Nat} {i : Nat → Int32} {ρ : Nat → Nat → Int32} {G : Nat → Option va_E}
theorem m_multiplied {a c : Nat} (ha : a < 16) (hc : c < 16) : Calls E mX6_multiplied d 0 0 [.int (nI a), .int (nI c)] h (RX (nI (gm a c)) h) := by
  refine Calls.of (ls := [some (.int (nI a)), some (.int (nI c)), none, none]) (by decide +kernel) rfl (Nat.le_of_ble_eq_true rfl) (cat_ok rfl) ?_
  have loop1 : ∀ (m j : Nat), j + m = 4 → Go E mX6_multiplied d 0 0 4 [some (.int (nI a)), some (.int (nI c)), some (.int (nI (ml1 a c j))), some (.int (nI j))] [] h (RX (nI (gm a c)) h) := by
    intro m
    induction m with
    | zero =>
      intro j hj
      have ej : 4 = j := by omega
      subst ej
      refine go_iload_3 (DX6_multiplied.at 4 rfl) ?_
      refine go_iconst (v := nI 4) (DX6_multiplied.at 5 rfl) (by decide) ?_
      refine go_icmp_ge 34 (DX6_multiplied.at 6 rfl) (by decide) (fun c6 => ?_) (fun c6 => absurd (Int32.le_refl _) c6)
      refine go_bipush (v := nI 6) (DX6_multiplied.at 24 rfl) (by decide) ?_
      refine go_istore_3 (DX6_multiplied.at 25 rfl) ?_
      have loop2 : ∀ (m j : Nat), j + m = 3 → Go E mX6_multiplied d 0 0 37 [some (.int (nI a)), some (.int (nI c)), some (.int (nI (ml2 (ml1 a c 4) j))), some (.int (nI (6 - j)))] [] h (RX (nI (gm a c)) h) := by
        intro m
        induction m with
        | zero =>
          intro j hj
          have ej : 3 = j := by omega
          subst ej
          refine go_iload_3 (DX6_multiplied.at 26 rfl) ?_
          refine go_iconst (v := nI 3) (DX6_multiplied.at 27 rfl) (by decide) ?_
          refine go_icmp_le 70 (DX6_multiplied.at 28 rfl) (by decide) (fun c39 => ?_) (fun c39 => absurd (by decide) c39)
          refine go_iload_2 (DX6_multiplied.at 48 rfl) ?_
          exact go_iret (DX6_multiplied.at 49 rfl) rfl rfl (RX.mk (by rw [ml_gm ha hc]) rfl)
        | succ m ih =>
          intro j hj
          have hb2 := ml2_lt (ml1_lt ha hc (show 4 < 5 by decide)) (show j < 4 by omega)
          refine go_iload_3 (DX6_multiplied.at 26 rfl) ?_
          refine go_iconst (v := nI 3) (DX6_multiplied.at 27 rfl) (by decide) ?_
          refine go_icmp_le 70 (DX6_multiplied.at 28 rfl) (by decide) (fun c39 => absurd c39 (by rw [nI_leI (by omega) (by decide)]; omega)) (fun c39 => ?_)
          refine go_iload_2 (DX6_multiplied.at 29 rfl) ?_
          refine go_iload_2 (DX6_multiplied.at 30 rfl) ?_
          refine go_iload_3 (DX6_multiplied.at 31 rfl) ?_
          refine go_ishr (DX6_multiplied.at 32 rfl) ?_
          refine go_iconst (v := nI 1) (DX6_multiplied.at 33 rfl) (by decide) ?_
          refine go_iand (DX6_multiplied.at 34 rfl) ?_
          refine go_iconst (v := nI 1) (DX6_multiplied.at 35 rfl) (by decide) ?_
          refine go_icmp_ne 61 (DX6_multiplied.at 36 rfl) (by decide) (fun c49 => ?_) (fun c49 => ?_)
          · rw [nx_bit (by omega) (by omega), nI_eq (by omega) (by decide)] at c49
            have e0 : ml2 (ml1 a c 4) (j + 1) = ml2 (ml1 a c 4) j ^^^ 0 := by
              show ml2 (ml1 a c 4) j ^^^ (if ml2 (ml1 a c 4) j / 2 ^ (6 - j) % 2 = 1 then 19 * 2 ^ (6 - j - 4) else 0) = _
              rw [if_neg c49]
            refine go_iconst (v := nI 0) (DX6_multiplied.at 43 rfl) (by decide) ?_
            refine go_ixor (DX6_multiplied.at 44 rfl) ?_
            rw [nx_xor, ← e0]
            refine go_istore_2 (DX6_multiplied.at 45 rfl) ?_
            refine go_iinc_3 (DX6_multiplied.at 46 rfl) (show nI (6 - j) + Int32.ofInt (-1) = nI (6 - (j + 1)) from by rcases (show j = 0 ∨ j = 1 ∨ j = 2 by omega) with rfl | rfl | rfl <;> decide) ?_
            refine go_goto 37 (DX6_multiplied.at 47 rfl) (by decide) ?_
            exact ih (j + 1) (by omega)
          · rw [nx_bit (by omega) (by omega), nI_eq (by omega) (by decide)] at c49
            have e0 : ml2 (ml1 a c 4) (j + 1) = ml2 (ml1 a c 4) j ^^^ 19 * 2 ^ (6 - j - 4) := by
              show ml2 (ml1 a c 4) j ^^^ (if ml2 (ml1 a c 4) j / 2 ^ (6 - j) % 2 = 1 then 19 * 2 ^ (6 - j - 4) else 0) = _
              rw [if_pos c49]
            refine go_bipush (v := nI 19) (DX6_multiplied.at 37 rfl) (by decide) ?_
            refine go_iload_3 (DX6_multiplied.at 38 rfl) ?_
            refine go_iconst (v := nI 4) (DX6_multiplied.at 39 rfl) (by decide) ?_
            refine go_isub (DX6_multiplied.at 40 rfl) ?_
            rw [pk_sub (by omega)]
            refine go_ishl (DX6_multiplied.at 41 rfl) ?_
            rw [nx_shlW 19 (by omega)]
            refine go_goto 62 (DX6_multiplied.at 42 rfl) (by decide) ?_
            refine go_ixor (DX6_multiplied.at 44 rfl) ?_
            rw [nx_xor, ← e0]
            refine go_istore_2 (DX6_multiplied.at 45 rfl) ?_
            refine go_iinc_3 (DX6_multiplied.at 46 rfl) (show nI (6 - j) + Int32.ofInt (-1) = nI (6 - (j + 1)) from by rcases (show j = 0 ∨ j = 1 ∨ j = 2 by omega) with rfl | rfl | rfl <;> decide) ?_
            refine go_goto 37 (DX6_multiplied.at 47 rfl) (by decide) ?_
            exact ih (j + 1) (by omega)
      exact loop2 3 0 (Nat.zero_add _)
    | succ m ih =>
      intro j hj
      refine go_iload_3 (DX6_multiplied.at 4 rfl) ?_
      refine go_iconst (v := nI 4) (DX6_multiplied.at 5 rfl) (by decide) ?_
      refine go_icmp_ge 34 (DX6_multiplied.at 6 rfl) (by decide) (fun c6 => absurd ((nI_leI (by decide) (by omega)).mp c6) (by omega)) (fun c6 => ?_)
      refine go_iload_2 (DX6_multiplied.at 7 rfl) ?_
      refine go_iload_1 (DX6_multiplied.at 8 rfl) ?_
      refine go_iload_3 (DX6_multiplied.at 9 rfl) ?_
      refine go_ishr (DX6_multiplied.at 10 rfl) ?_
      refine go_iconst (v := nI 1) (DX6_multiplied.at 11 rfl) (by decide) ?_
      refine go_iand (DX6_multiplied.at 12 rfl) ?_
      refine go_iconst (v := nI 1) (DX6_multiplied.at 13 rfl) (by decide) ?_
      refine go_icmp_ne 25 (DX6_multiplied.at 14 rfl) (by decide) (fun c16 => ?_) (fun c16 => ?_)
      · rw [nx_bit (by omega) (by omega), nI_eq (by omega) (by decide)] at c16
        have e0 : ml1 a c (j + 1) = ml1 a c j ^^^ 0 := by
          show ml1 a c j ^^^ (if c / 2 ^ j % 2 = 1 then a * 2 ^ j else 0) = _
          rw [if_neg c16]
        refine go_iconst (v := nI 0) (DX6_multiplied.at 19 rfl) (by decide) ?_
        refine go_ixor (DX6_multiplied.at 20 rfl) ?_
        rw [nx_xor, ← e0]
        refine go_istore_2 (DX6_multiplied.at 21 rfl) ?_
        refine go_iincN_3 (DX6_multiplied.at 22 rfl) ?_
        refine go_goto 4 (DX6_multiplied.at 23 rfl) (by decide) ?_
        exact ih (j + 1) (by omega)
      · rw [nx_bit (by omega) (by omega), nI_eq (by omega) (by decide)] at c16
        have e0 : ml1 a c (j + 1) = ml1 a c j ^^^ a * 2 ^ j := by
          show ml1 a c j ^^^ (if c / 2 ^ j % 2 = 1 then a * 2 ^ j else 0) = _
          rw [if_pos c16]
        refine go_iload_0 (DX6_multiplied.at 15 rfl) ?_
        refine go_iload_3 (DX6_multiplied.at 16 rfl) ?_
        refine go_ishl (DX6_multiplied.at 17 rfl) ?_
        rw [nx_shlW a (by omega)]
        refine go_goto 26 (DX6_multiplied.at 18 rfl) (by decide) ?_
        refine go_ixor (DX6_multiplied.at 20 rfl) ?_
        rw [nx_xor, ← e0]
        refine go_istore_2 (DX6_multiplied.at 21 rfl) ?_
        refine go_iincN_3 (DX6_multiplied.at 22 rfl) ?_
        refine go_goto 4 (DX6_multiplied.at 23 rfl) (by decide) ?_
        exact ih (j + 1) (by omega)
  refine go_iconst (v := nI 0) (DX6_multiplied.at 0 rfl) (by decide) ?_
  refine go_istore_2 (DX6_multiplied.at 1 rfl) ?_
  refine go_iconst (v := nI 0) (DX6_multiplied.at 2 rfl) (by decide) ?_
  refine go_istore_3 (DX6_multiplied.at 3 rfl) ?_
  exact loop1 4 0 (Nat.zero_add _)

theorem m_productP {x y : Nat} (hM : MdAt G h b i ρ) (h7 : ∀ a c, a < 16 → c < 16 → ρ 7 (16 * a + c) = nI (gm a c)) (hx : x < 16) (hy : y < 16) : Calls E mX6_product d 0 0 [.ref b, .int (nI x), .int (nI y)] h (RX (nI (gm x y)) h) := by
  refine Calls.of (ls := [some (.ref b), some (.int (nI x)), some (.int (nI y))]) (by decide +kernel) rfl (Nat.le_of_ble_eq_true rfl) (cat_ok rfl) ?_
  refine go_aload_0 (DX6_product.at 0 rfl) ?_
  refine go_getfield (DX6_product.at 1 rfl) fX6_28 hM.1 rfl ?_
  refine go_bipush (v := nI 16) (DX6_product.at 2 rfl) (by decide) ?_
  refine go_iload_1 (DX6_product.at 3 rfl) ?_
  refine go_imul (DX6_product.at 4 rfl) ?_
  rw [pk_mul]
  refine go_iload_2 (DX6_product.at 5 rfl) ?_
  refine go_iadd (DX6_product.at 6 rfl) ?_
  rw [nI_add]
  refine go_ialdM (DX6_product.at 7 rfl) (hM.2.1 7 (by decide)) (show 16 * x + y < 256 by omega) (by decide) ?_
  rw [h7 x y hx hy]
  exact go_iret (DX6_product.at 8 rfl) rfl rfl (RX.mk rfl rfl)

abbrev bn6 : va_E := .inr (6, [.null, .null, .null, .int 0, .null, .int 0, .null, .int 0, .int 0, .null, .null, .null, .null, .null, .int 0])
theorem bn6_ok : ∀ j, j < 15 → defaultValue (clTy 6 j) = vp_V [.null, .null, .null, .int 0, .null, .int 0, .null, .int 0, .int 0, .null, .null, .null, .null, .null, .int 0] j := by
  intro j hj
  rcases (show j = 0 ∨ j = 1 ∨ j = 2 ∨ j = 3 ∨ j = 4 ∨ j = 5 ∨ j = 6 ∨ j = 7 ∨ j = 8 ∨ j = 9 ∨ j = 10 ∨ j = 11 ∨ j = 12 ∨ j = 13 ∨ j = 14 by omega) with rfl | rfl | rfl | rfl | rfl | rfl | rfl | rfl | rfl | rfl | rfl | rfl | rfl | rfl | rfl <;> rfl
theorem c_newModel (hl : l.length + 20 < BIGN) (hd : 3 ≤ d) : Calls E mX6_init d 10 2796 [.ref l.length] (l ++ [bn6]) (RV (fun h' => MZ (fun j => l[j]?) z0 h' l.length)) := by
  refine Calls.of (ls := [some (.ref l.length), none, none]) (by decide +kernel) rfl (Nat.le_of_ble_eq_true rfl) (cat_ok rfl) ?_
  refine go_aload_0 (DX6_init.at 0 rfl) ?_
  refine go_objInit (DX6_init.at 1 rfl) (BW_i 767 (by decide +kernel) rfl) (BW_i 125 (by decide +kernel) rfl) (BW_i 126 (by decide +kernel) rfl) (by omega) (Nat.le_of_ble_eq_true rfl) ?_
  refine go_aload_0 (DX6_init.at 2 rfl) ?_
  refine go_sipush (v := nI 349) (DX6_init.at 3 rfl) (by decide) ?_
  refine go_nintM (k := 9) (n := 2447) (N := 349) (m := 0) (DX6_init.at 4 rfl) (by decide) (by decide) (by decide) rfl (by omega) ?_
  refine go_finM (DX6_init.at 5 rfl) gX6_7 rfl (by decide) rfl rfl rfl (Nat.le_of_ble_eq_true rfl) (fun w hw => by subst hw; exact ⟨rfl, rfl⟩) ?_
  refine go_aload_0 (DX6_init.at 6 rfl) ?_
  refine go_sipush (v := nI 349) (DX6_init.at 7 rfl) (by decide) ?_
  refine go_nintM (k := 8) (n := 2098) (N := 349) (m := 1) (DX6_init.at 8 rfl) (by decide) (by decide) (by decide) rfl (by omega) ?_
  refine go_finM (DX6_init.at 9 rfl) gX6_13 rfl (by decide) rfl rfl rfl (Nat.le_of_ble_eq_true rfl) (fun w hw => by subst hw; exact ⟨rfl, rfl⟩) ?_
  refine go_aload_0 (DX6_init.at 10 rfl) ?_
  refine go_sipush (v := nI 1396) (DX6_init.at 11 rfl) (by decide) ?_
  refine go_nintM (k := 7) (n := 702) (N := 1396) (m := 2) (DX6_init.at 12 rfl) (by decide) (by decide) (by decide) rfl (by omega) ?_
  refine go_finM (DX6_init.at 13 rfl) gX6_16 rfl (by decide) rfl rfl rfl (Nat.le_of_ble_eq_true rfl) (fun w hw => by subst hw; exact ⟨rfl, rfl⟩) ?_
  refine go_aload_0 (DX6_init.at 14 rfl) ?_
  refine go_sipush (v := nI 349) (DX6_init.at 15 rfl) (by decide) ?_
  refine go_nintM (k := 6) (n := 353) (N := 349) (m := 3) (DX6_init.at 16 rfl) (by decide) (by decide) (by decide) rfl (by omega) ?_
  refine go_finM (DX6_init.at 17 rfl) gX6_19 rfl (by decide) rfl rfl rfl (Nat.le_of_ble_eq_true rfl) (fun w hw => by subst hw; exact ⟨rfl, rfl⟩) ?_
  refine go_aload_0 (DX6_init.at 18 rfl) ?_
  refine go_bipush (v := nI 60) (DX6_init.at 19 rfl) (by decide) ?_
  refine go_nintM (k := 5) (n := 293) (N := 60) (m := 4) (DX6_init.at 20 rfl) (by decide) (by decide) (by decide) rfl (by omega) ?_
  refine go_finM (DX6_init.at 21 rfl) gX6_22 rfl (by decide) rfl rfl rfl (Nat.le_of_ble_eq_true rfl) (fun w hw => by subst hw; exact ⟨rfl, rfl⟩) ?_
  refine go_aload_0 (DX6_init.at 22 rfl) ?_
  refine go_iconst (v := nI 3) (DX6_init.at 23 rfl) (by decide) ?_
  refine go_nintM (k := 4) (n := 290) (N := 3) (m := 5) (DX6_init.at 24 rfl) (by decide) (by decide) (by decide) rfl (by omega) ?_
  refine go_finM (DX6_init.at 25 rfl) gX6_25 rfl (by decide) rfl rfl rfl (Nat.le_of_ble_eq_true rfl) (fun w hw => by subst hw; exact ⟨rfl, rfl⟩) ?_
  refine go_aload_0 (DX6_init.at 26 rfl) ?_
  refine go_sipush (v := nI 256) (DX6_init.at 27 rfl) (by decide) ?_
  refine go_nintM (k := 3) (n := 34) (N := 256) (m := 6) (DX6_init.at 28 rfl) (by decide) (by decide) (by decide) rfl (by omega) ?_
  refine go_finM (DX6_init.at 29 rfl) gX6_28 rfl (by decide) rfl rfl rfl (Nat.le_of_ble_eq_true rfl) (fun w hw => by subst hw; exact ⟨rfl, rfl⟩) ?_
  refine go_aload_0 (DX6_init.at 30 rfl) ?_
  refine go_bipush (v := nI 15) (DX6_init.at 31 rfl) (by decide) ?_
  refine go_nintM (k := 2) (n := 19) (N := 15) (m := 7) (DX6_init.at 32 rfl) (by decide) (by decide) (by decide) rfl (by omega) ?_
  refine go_finM (DX6_init.at 33 rfl) gX6_31 rfl (by decide) rfl rfl rfl (Nat.le_of_ble_eq_true rfl) (fun w hw => by subst hw; exact ⟨rfl, rfl⟩) ?_
  refine go_aload_0 (DX6_init.at 34 rfl) ?_
  refine go_bipush (v := nI 15) (DX6_init.at 35 rfl) (by decide) ?_
  refine go_nintM (k := 1) (n := 4) (N := 15) (m := 8) (DX6_init.at 36 rfl) (by decide) (by decide) (by decide) rfl (by omega) ?_
  refine go_finM (DX6_init.at 37 rfl) gX6_34 rfl (by decide) rfl rfl rfl (Nat.le_of_ble_eq_true rfl) (fun w hw => by subst hw; exact ⟨rfl, rfl⟩) ?_
  refine go_aload_0 (DX6_init.at 38 rfl) ?_
  refine go_iconst (v := nI 4) (DX6_init.at 39 rfl) (by decide) ?_
  refine go_nintM (k := 0) (n := 0) (N := 4) (m := 9) (DX6_init.at 40 rfl) (by decide) (by decide) (by decide) rfl (by omega) ?_
  refine go_finM (DX6_init.at 41 rfl) gX6_37 rfl (by decide) rfl rfl rfl (Nat.le_of_ble_eq_true rfl) (fun w hw => by subst hw; exact ⟨rfl, rfl⟩) ?_
  have hM : MdAt (fun j => l[j]?) (l ++ .inr (6, [.ref (l.length + 1), .ref (l.length + 2), .ref (l.length + 3), .int 0, .ref (l.length + 4), .int 0, .ref (l.length + 5), .int 0, .int 0, .ref (l.length + 6), .ref (l.length + 7), .ref (l.length + 8), .ref (l.length + 9), .ref (l.length + 10), .int 0]) :: [ar 349 (fun _ => 0), ar 349 (fun _ => 0), ar 1396 (fun _ => 0), ar 349 (fun _ => 0), ar 60 (fun _ => 0), ar 3 (fun _ => 0), ar 256 (fun _ => 0), ar 15 (fun _ => 0), ar 15 (fun _ => 0), ar 4 (fun _ => 0)]) l.length (fun _ => 0) (fun _ _ => 0) := by
    refine ⟨get_mid, fun a ha => ?_, fun j hj => ?_⟩
    · rcases (show a = 1 ∨ a = 2 ∨ a = 3 ∨ a = 4 ∨ a = 5 ∨ a = 6 ∨ a = 7 ∨ a = 8 ∨ a = 9 ∨ a = 10 by omega) with rfl | rfl | rfl | rfl | rfl | rfl | rfl | rfl | rfl | rfl <;> exact get_app rfl
    · show (l ++ .inr (6, [.ref (l.length + 1), .ref (l.length + 2), .ref (l.length + 3), .int 0, .ref (l.length + 4), .int 0, .ref (l.length + 5), .int 0, .int 0, .ref (l.length + 6), .ref (l.length + 7), .ref (l.length + 8), .ref (l.length + 9), .ref (l.length + 10), .int 0]) :: [ar 349 (fun _ => 0), ar 349 (fun _ => 0), ar 1396 (fun _ => 0), ar 349 (fun _ => 0), ar 60 (fun _ => 0), ar 3 (fun _ => 0), ar 256 (fun _ => 0), ar 15 (fun _ => 0), ar 15 (fun _ => 0), ar 4 (fun _ => 0)])[j]? = l[j]?
      rcases hj with hj | hj
      · rw [List.getElem?_append_left hj]
      · rw [List.getElem?_eq_none (by simp only [List.length_append, List.length_cons, List.length_nil]; omega), List.getElem?_eq_none (by omega)]
  show Go E mX6_init d 0 0 87 _ [] (l ++ .inr (6, [.ref (l.length + 1), .ref (l.length + 2), .ref (l.length + 3), .int 0, .ref (l.length + 4), .int 0, .ref (l.length + 5), .int 0, .int 0, .ref (l.length + 6), .ref (l.length + 7), .ref (l.length + 8), .ref (l.length + 9), .ref (l.length + 10), .int 0]) :: [ar 349 (fun _ => 0), ar 349 (fun _ => 0), ar 1396 (fun _ => 0), ar 349 (fun _ => 0), ar 60 (fun _ => 0), ar 3 (fun _ => 0), ar 256 (fun _ => 0), ar 15 (fun _ => 0), ar 15 (fun _ => 0), ar 4 (fun _ => 0)]) (RV (fun h' => MZ (fun j => l[j]?) z0 h' l.length))
  generalize (l ++ .inr (6, [.ref (l.length + 1), .ref (l.length + 2), .ref (l.length + 3), .int 0, .ref (l.length + 4), .int 0, .ref (l.length + 5), .int 0, .int 0, .ref (l.length + 6), .ref (l.length + 7), .ref (l.length + 8), .ref (l.length + 9), .ref (l.length + 10), .int 0]) :: [ar 349 (fun _ => 0), ar 349 (fun _ => 0), ar 1396 (fun _ => 0), ar 349 (fun _ => 0), ar 60 (fun _ => 0), ar 3 (fun _ => 0), ar 256 (fun _ => 0), ar 15 (fun _ => 0), ar 15 (fun _ => 0), ar 4 (fun _ => 0)]) = h at hM ⊢
  refine go_aload_0 (DX6_init.at 42 rfl) ?_
  refine go_getfield (DX6_init.at 43 rfl) fX6_7 hM.1 rfl ?_
  refine go_iconst (v := nI 0) (DX6_init.at 44 rfl) (by decide) ?_
  refine go_iconst (v := nI 2) (DX6_init.at 45 rfl) (by decide) ?_
  refine go_iastM (DX6_init.at 46 rfl) hM (a := 1) (by decide) (show 0 < 349 by decide) (fun h93 q93 => ?_)
  refine go_aload_0 (DX6_init.at 47 rfl) ?_
  refine go_getfield (DX6_init.at 48 rfl) fX6_7 q93.1 rfl ?_
  refine go_iconst (v := nI 1) (DX6_init.at 49 rfl) (by decide) ?_
  refine go_iconst (v := nI 3) (DX6_init.at 50 rfl) (by decide) ?_
  refine go_iastM (DX6_init.at 51 rfl) q93 (a := 1) (by decide) (show 1 < 349 by decide) (fun h100 q100 => ?_)
  rw [rset_rset, rset_s] at q100
  refine go_aload_0 (DX6_init.at 52 rfl) ?_
  refine go_getfield (DX6_init.at 53 rfl) fX6_7 q100.1 rfl ?_
  refine go_iconst (v := nI 2) (DX6_init.at 54 rfl) (by decide) ?_
  refine go_iconst (v := nI 4) (DX6_init.at 55 rfl) (by decide) ?_
  refine go_iastM (DX6_init.at 56 rfl) q100 (a := 1) (by decide) (show 2 < 349 by decide) (fun h107 q107 => ?_)
  rw [rset_rset, rset_s] at q107
  refine go_aload_0 (DX6_init.at 57 rfl) ?_
  refine go_getfield (DX6_init.at 58 rfl) fX6_7 q107.1 rfl ?_
  refine go_iconst (v := nI 3) (DX6_init.at 59 rfl) (by decide) ?_
  refine go_iconst (v := nI 1) (DX6_init.at 60 rfl) (by decide) ?_
  refine go_iastM (DX6_init.at 61 rfl) q107 (a := 1) (by decide) (show 3 < 349 by decide) (fun h114 q114 => ?_)
  rw [rset_rset, rset_s] at q114
  refine go_iconst (v := nI 0) (DX6_init.at 62 rfl) (by decide) ?_
  refine go_istore_1 (DX6_init.at 63 rfl) ?_
  have loopP : ∀ (m j : Nat) (h : List va_E) (f : Nat → Int32), j + m = 256 → MdAt (fun j => l[j]?) h l.length (fun _ => 0) (rset (rset (fun _ _ => 0) 1 (upd (upd (upd (upd (fun _ => 0) 0 (nI 2)) 1 (nI 3)) 2 (nI 4)) 3 (nI 1))) 7 f) → (∀ k, k < j → f k = nI (gm (k / 16) (k % 16))) → Go E mX6_init d 0 0 117 [some (.ref l.length), some (.int (nI j)), none] [] h (RV (fun h' => MZ (fun j => l[j]?) z0 h' l.length)) := by
    intro m
    induction m with
    | zero =>
      intro j h f hj q hf
      have ej : 256 = j := by omega
      subst ej
      refine go_iload_1 (DX6_init.at 64 rfl) ?_
      refine go_sipush (v := nI 256) (DX6_init.at 65 rfl) (by decide) ?_
      refine go_icmp_ge 147 (DX6_init.at 66 rfl) (by decide) (fun c121 => ?_) (fun c121 => absurd (Int32.le_refl _) c121)
      refine go_iconst (v := nI 1) (DX6_init.at 80 rfl) (by decide) ?_
      refine go_istore_1 (DX6_init.at 81 rfl) ?_
      refine go_iconst (v := nI 0) (DX6_init.at 82 rfl) (by decide) ?_
      refine go_istore_2 (DX6_init.at 83 rfl) ?_
      have loopQ : ∀ (m j : Nat) (h : List va_E) (f8 f9 : Nat → Int32), j + m = 15 → MdAt (fun j => l[j]?) h l.length (fun _ => 0) (rset (rset (rset (rset (fun _ _ => 0) 1 (upd (upd (upd (upd (fun _ => 0) 0 (nI 2)) 1 (nI 3)) 2 (nI 4)) 3 (nI 1))) 7 f) 8 f8) 9 f9) → (∀ k, k < j → f8 k = nI (pw k)) → (∀ k, k < j → f9 k = nI (pw (2 * k))) → Go E mX6_init d 0 0 151 [some (.ref l.length), some (.int (nI (pw j))), some (.int (nI j))] [] h (RV (fun h' => MZ (fun j => l[j]?) z0 h' l.length)) := by
        intro m
        induction m with
        | zero =>
          intro j h f8 f9 hj q g8 g9
          have ej : 15 = j := by omega
          subst ej
          refine go_iload_2 (DX6_init.at 84 rfl) ?_
          refine go_bipush (v := nI 15) (DX6_init.at 85 rfl) (by decide) ?_
          refine go_icmp_ge 189 (DX6_init.at 86 rfl) (by decide) (fun c154 => ?_) (fun c154 => absurd (Int32.le_refl _) c154)
          refine go_return (DX6_init.at 107 rfl) rfl (RV.mk ⟨fun _ => 0, rset (rset (rset (rset (fun _ _ => 0) 1 (upd (upd (upd (upd (fun _ => 0) 0 (nI 2)) 1 (nI 3)) 2 (nI 4)) 3 (nI 1))) 7 f) 8 f8) 9 f9, ⟨q, ⟨(fun a c ha hc => by rw [rset_n (by decide), rset_n (by decide), rset_s, hf _ (by omega), show (16 * a + c) / 16 = a by omega, show (16 * a + c) % 16 = c by omega]), fun c hc => by rw [rset_n (by decide), rset_s]; exact g8 c hc, fun c hc => by rw [rset_s]; exact g9 c hc⟩, ?_⟩, ?_⟩)
          · show RepM ab0 (rset (rset (rset (rset (fun _ _ => 0) 1 (upd (upd (upd (upd (fun _ => 0) 0 (nI 2)) 1 (nI 3)) 2 (nI 4)) 3 (nI 1))) 7 f) 8 f8) 9 f9 1)
            rw [rset_n (by decide), rset_n (by decide), rset_n (by decide), rset_s]
            exact RepM.new (A := ab0) (by unfold LayOK; decide) rfl rfl rfl rfl (fun k hk => by rw [pk_un (by omega), pk_un (by omega), pk_un (by omega), pk_un (by omega)]; rfl) rfl (fun k h1 h2 => by rw [pk_un (by omega), pk_un (by omega), pk_un (by omega), pk_un (by omega)]; rfl)
          · exact ⟨rfl, Nat.zero_le _, fun j hj => absurd hj (Nat.not_lt_zero j), rfl, Nat.zero_le _, fun e => absurd e (by decide), rfl, Nat.zero_le _, fun j hj => absurd hj (Nat.not_lt_zero j)⟩
        | succ m ih =>
          intro j h f8 f9 hj q g8 g9
          refine go_iload_2 (DX6_init.at 84 rfl) ?_
          refine go_bipush (v := nI 15) (DX6_init.at 85 rfl) (by decide) ?_
          refine go_icmp_ge 189 (DX6_init.at 86 rfl) (by decide) (fun c154 => absurd ((nI_leI (by decide) (by omega)).mp c154) (by omega)) (fun c154 => ?_)
          refine go_aload_0 (DX6_init.at 87 rfl) ?_
          refine go_getfield (DX6_init.at 88 rfl) fX6_31 q.1 rfl ?_
          refine go_iload_2 (DX6_init.at 89 rfl) ?_
          refine go_iload_1 (DX6_init.at 90 rfl) ?_
          refine go_iastM (DX6_init.at 91 rfl) q (a := 8) (by decide) (show j < 15 by omega) (fun h163 q163 => ?_)
          refine go_aload_0 (DX6_init.at 92 rfl) ?_
          refine go_getfield (DX6_init.at 93 rfl) fX6_34 q163.1 rfl ?_
          refine go_iload_2 (DX6_init.at 94 rfl) ?_
          refine go_aload_0 (DX6_init.at 95 rfl) ?_
          refine go_iload_1 (DX6_init.at 96 rfl) ?_
          refine go_iload_1 (DX6_init.at 97 rfl) ?_
          refine go_cVx2 (DX6_init.at 98 rfl) nX6_44 vX6_product (by omega) (m_productP q163 (fun a c ha hc => by rw [rset_n (by decide), rset_n (by decide), rset_n (by decide), rset_s, hf _ (by omega), show (16 * a + c) / 16 = a by omega, show (16 * a + c) % 16 = c by omega]) (pw_lt _) (pw_lt _)) q163.1 rfl (Nat.le_of_ble_eq_true rfl) ?_
          rw [pw_sq (by omega)]
          refine go_iastM (DX6_init.at 99 rfl) q163 (a := 9) (by decide) (show j < 15 by omega) (fun h175 q175 => ?_)
          refine go_aload_0 (DX6_init.at 100 rfl) ?_
          refine go_iload_1 (DX6_init.at 101 rfl) ?_
          refine go_iconst (v := nI 2) (DX6_init.at 102 rfl) (by decide) ?_
          refine go_cVx2 (DX6_init.at 103 rfl) nX6_44 vX6_product (by omega) (m_productP q175 (fun a c ha hc => by rw [rset_n (by decide), rset_n (by decide), rset_n (by decide), rset_n (by decide), rset_s, hf _ (by omega), show (16 * a + c) / 16 = a by omega, show (16 * a + c) % 16 = c by omega]) (pw_lt _) (show 2 < 16 by decide)) q175.1 rfl (Nat.le_of_ble_eq_true rfl) ?_
          rw [pw_succ (by omega)]
          refine go_istore_1 (DX6_init.at 104 rfl) ?_
          refine go_iincN_2 (DX6_init.at 105 rfl) ?_
          refine go_goto 151 (DX6_init.at 106 rfl) (by decide) ?_
          have e : rset (rset (rset (rset (rset (rset (fun _ _ => 0) 1 (upd (upd (upd (upd (fun _ => 0) 0 (nI 2)) 1 (nI 3)) 2 (nI 4)) 3 (nI 1))) 7 f) 8 f8) 9 f9) 8 (upd ((rset (rset (rset (rset (fun _ _ => 0) 1 (upd (upd (upd (upd (fun _ => 0) 0 (nI 2)) 1 (nI 3)) 2 (nI 4)) 3 (nI 1))) 7 f) 8 f8) 9 f9) 8) j (nI (pw j)))) 9 (upd ((rset (rset (rset (rset (rset (fun _ _ => 0) 1 (upd (upd (upd (upd (fun _ => 0) 0 (nI 2)) 1 (nI 3)) 2 (nI 4)) 3 (nI 1))) 7 f) 8 f8) 9 f9) 8 (upd ((rset (rset (rset (rset (fun _ _ => 0) 1 (upd (upd (upd (upd (fun _ => 0) 0 (nI 2)) 1 (nI 3)) 2 (nI 4)) 3 (nI 1))) 7 f) 8 f8) 9 f9) 8) j (nI (pw j)))) 9) j (nI (pw (2 * j)))) = rset (rset (rset (rset (fun _ _ => 0) 1 (upd (upd (upd (upd (fun _ => 0) 0 (nI 2)) 1 (nI 3)) 2 (nI 4)) 3 (nI 1))) 7 f) 8 (upd f8 j (nI (pw j)))) 9 (upd f9 j (nI (pw (2 * j)))) := by
            funext a
            by_cases e9 : a = 9
            · subst e9
              rfl
            · by_cases e8 : a = 8
              · subst e8
                rfl
              · rw [rset_n e9, rset_n e8, rset_n e9, rset_n e8, rset_n e9, rset_n e8]
          rw [e] at q175
          exact ih (j + 1) _ _ _ (by omega) q175 (fun k hk => by
            by_cases e : k = j
            · rw [e, pk_us]
            · rw [pk_un e]
              exact g8 k (by omega)) (fun k hk => by
            by_cases e : k = j
            · rw [e, pk_us]
            · rw [pk_un e]
              exact g9 k (by omega))
      refine loopQ 15 0 h (fun _ => 0) (fun _ => 0) (Nat.zero_add _) ?_ (fun k hk => absurd hk (Nat.not_lt_zero k)) (fun k hk => absurd hk (Nat.not_lt_zero k))
      have e : rset (rset (rset (rset (fun _ _ => 0) 1 (upd (upd (upd (upd (fun _ => 0) 0 (nI 2)) 1 (nI 3)) 2 (nI 4)) 3 (nI 1))) 7 f) 8 (fun _ => 0)) 9 (fun _ => 0) = rset (rset (fun _ _ => 0) 1 (upd (upd (upd (upd (fun _ => 0) 0 (nI 2)) 1 (nI 3)) 2 (nI 4)) 3 (nI 1))) 7 f := by
        funext a
        unfold rset
        by_cases e9 : a = 9
        · subst e9
          rfl
        · rw [if_neg e9]
          by_cases e8 : a = 8
          · subst e8
            rfl
          · rw [if_neg e8]
      rw [e]
      exact q
    | succ m ih =>
      intro j h f hj q hf
      refine go_iload_1 (DX6_init.at 64 rfl) ?_
      refine go_sipush (v := nI 256) (DX6_init.at 65 rfl) (by decide) ?_
      refine go_icmp_ge 147 (DX6_init.at 66 rfl) (by decide) (fun c121 => absurd ((nI_leI (by decide) (by omega)).mp c121) (by omega)) (fun c121 => ?_)
      refine go_aload_0 (DX6_init.at 67 rfl) ?_
      refine go_getfield (DX6_init.at 68 rfl) fX6_28 q.1 rfl ?_
      refine go_iload_1 (DX6_init.at 69 rfl) ?_
      refine go_iload_1 (DX6_init.at 70 rfl) ?_
      refine go_bipush (v := nI 16) (DX6_init.at 71 rfl) (by decide) ?_
      refine go_idiv (DX6_init.at 72 rfl) (by decide) ?_
      rw [pk_div (by omega) (by decide) (by decide)]
      refine go_iload_1 (DX6_init.at 73 rfl) ?_
      refine go_bipush (v := nI 16) (DX6_init.at 74 rfl) (by decide) ?_
      refine go_irem (DX6_init.at 75 rfl) (by decide) ?_
      rw [pk_rem (by omega) (by decide) (by decide)]
      refine go_cSx2 (DX6_init.at 76 rfl) nX6_40 vX6_multiplied (by omega) (m_multiplied (show j / 16 < 16 by omega) (show j % 16 < 16 by omega)) (Nat.le_of_ble_eq_true rfl) ?_
      refine go_iastM (DX6_init.at 77 rfl) q (a := 7) (by decide) (show j < 256 by omega) (fun h140 q140 => ?_)
      rw [rset_rset, rset_s] at q140
      refine go_iincN_1 (DX6_init.at 78 rfl) ?_
      refine go_goto 117 (DX6_init.at 79 rfl) (by decide) ?_
      exact ih (j + 1) _ _ (by omega) q140 (fun k hk => by
        by_cases e : k = j
        · rw [e, pk_us]
        · rw [pk_un e]
          exact hf k (by omega))
  refine loopP 256 0 h114 (fun _ => 0) (Nat.zero_add _) ?_ (fun k hk => absurd hk (Nat.not_lt_zero k))
  have e : rset (rset (fun _ _ => 0) 1 (upd (upd (upd (upd (fun _ => 0) 0 (nI 2)) 1 (nI 3)) 2 (nI 4)) 3 (nI 1))) 7 (fun _ => 0) = rset (fun _ _ => 0) 1 (upd (upd (upd (upd (fun _ => 0) 0 (nI 2)) 1 (nI 3)) 2 (nI 4)) 3 (nI 1)) := by
    funext a
    unfold rset
    by_cases e7 : a = 7
    · subst e7
      rfl
    · rw [if_neg e7]
  rw [e]
  exact q114

end M6
