/-! CONSTRUCTORS: the new object lies behind l, its rows behind it -/
theorem get_app {α : Type} {l as : List α} {i : Nat} {x : α} (h : as[i]? = some x) : (l ++ as)[l.length + i]? = some x := by
  rw [List.getElem?_append_right (by omega), show l.length + i - l.length = i by omega]
  exact h
theorem get_mid {α : Type} {l as : List α} {x : α} : (l ++ x :: as)[l.length]? = some x := get_app (i := 0) rfl
theorem set_mid {α : Type} {l as : List α} {x y : α} : (l ++ x :: as).set l.length y = l ++ y :: as := by
  rw [List.set_append_right _ _ (Nat.le_refl _), Nat.sub_self, List.set_cons_zero]
theorem len_mid {α : Type} {l as : List α} {x : α} {m : Nat} (h : as.length = m) : (l ++ x :: as).length = l.length + (m + 1) := by
  rw [List.length_append, List.length_cons, h]
theorem Only.app {l cs : List va_E} {h' : List va_E} {hi : Nat} (hO : Only l.length hi (l ++ cs) h') : ∃ cs', h' = l ++ cs' ∧ cs'.length = cs.length := by
  refine ⟨h'.drop l.length, ?_, ?_⟩
  · have e : h'.take l.length = l := by
      apply List.ext_getElem?
      intro i
      rw [List.getElem?_take]
      by_cases q : i < l.length
      · rw [if_pos q, hO.2 i (Or.inl q), List.getElem?_append_left q]
      · rw [if_neg q, List.getElem?_eq_none (by omega)]
    conv => lhs; rw [← List.take_append_drop l.length h']
    rw [e]
  · rw [List.length_drop, hO.1, List.length_append]
    omega
section CT
variable {E : AEnv} {Y : MI} {d k n pc pc' idx : Nat} {ls : List (Option Value)} {st : List Value} {l as : List va_E} {x : va_E} {Ψ : Pst}
theorem go_putM {ci kf : Nat} {C0 : String} {T : u_T} {N : Nat} {fs : List Value} {v : Value} (hd : Dc Y pc (.putfield idx) pc') (hF : FLk Y.1.cls idx ci kf) (hcl : vwCl[ci]? = some (C0, T, N)) (hfin : (T kf).2.2.2 = false) (hl : kf < fs.length)
    (hty : ∀ w : Value, w = cV E v → narrow (clTy ci kf) w = w ∧ fits (clTy ci kf) w = true) (K : Go E Y d k n pc' ls st (l ++ .inr (ci, fs.set kf v) :: as) Ψ) : Go E Y d k n pc ls (v :: .ref l.length :: st) (l ++ .inr (ci, fs) :: as) Ψ :=
  go_putfield hd hF hcl hfin get_mid hl hty (by rw [set_mid]; exact K)
theorem go_finM {ci kf : Nat} {C0 : String} {T : u_T} {N : Nat} {fs : List Value} {v : Value} (hd : Dc Y pc (.putfield idx) pc') (hF : Jvm.Cond.fieldLink Y.1.cls idx (T kf).1 (T kf).2.1 (T kf).2.2.1 ∈ BW) (hcl : vwCl[ci]? = some (C0, T, N)) (hkN : kf < N) (hfin : (T kf).2.2.2 = true) (hin2 : Y.1.name = "<init>") (hdecl : (T kf).1 = Y.1.cls) (hl : kf < fs.length)
    (hty : ∀ w : Value, w = cV E v → narrow (clTy ci kf) w = w ∧ fits (clTy ci kf) w = true) (K : Go E Y d k n pc' ls st (l ++ .inr (ci, fs.set kf v) :: as) Ψ) : Go E Y d k n pc ls (v :: .ref l.length :: st) (l ++ .inr (ci, fs) :: as) Ψ :=
  go_putfinal hd hF hcl hkN hfin hin2 hdecl get_mid hl hty (by rw [set_mid]; exact K)
theorem go_nintM {N m : Nat} {c : Int32} (hd : Dc Y pc (.newarray .int) pc') (hx : ¬ c < 0) (hN : c.toNatClampNeg = N) (hb : N * 4 ≤ 536870912) (hm : as.length = m) (hlen : l.length + (m + 1) < BIGN)
    (K : Go E Y d k n pc' ls (.ref (l.length + (m + 1)) :: st) (l ++ x :: (as ++ [ar N (fun _ => 0)])) Ψ) : Go E Y d (1 + k) (N + n) pc ls (.int c :: st) (l ++ x :: as) Ψ :=
  go_newint hd (BW_i 147 (by decide +kernel) rfl) hx hN hb (by rw [len_mid hm]; exact hlen) (by rw [len_mid hm, List.append_assoc, List.cons_append]; exact K)
theorem go_ncharM {N m : Nat} {c : Int32} (hd : Dc Y pc (.newarray .char) pc') (hx : ¬ c < 0) (hN : c.toNatClampNeg = N) (hb : N * 2 ≤ 536870912) (hm : as.length = m) (hlen : l.length + (m + 1) < BIGN)
    (K : Go E Y d k n pc' ls (.ref (l.length + (m + 1)) :: st) (l ++ x :: (as ++ [.inl (1, N, .inl (fun _ => 0))])) Ψ) : Go E Y d (1 + k) (N + n) pc ls (.int c :: st) (l ++ x :: as) Ψ :=
  go_newchar hd (BW_i 184 (by decide +kernel) rfl) hx hN hb (by rw [len_mid hm]; exact hlen) (by rw [len_mid hm, List.append_assoc, List.cons_append]; exact K)
/-- a new state: 2 groups of 3, 4 stripes, shift 1; nothing lost, nothing counted -/
def StNew (σ : Rows) : Prop := LayX σ 2 3 4 1 ∧ (∀ i, 4 ≤ i → i < 9 → σ 0 i = nI 0) ∧ (∀ a, 2 ≤ a → a ≤ 4 → ∀ j, j < nA a → σ a j = nI 0) ∧ ColX σ (nc 2 3) (colv 2 3)
theorem c_newState (hl : l.length + 6 < BIGN) (hd : 3 ≤ d) : Calls E mX4_init d 5 368 [.ref l.length] (l ++ [.inr (4, [.int 0, .int 0, .int 0, .int 0, .int 0, .int 0, .int 0, .int 0, .int 0, .null, .null, .null, .null, .null])]) (RV (fun h' => ∃ cs σ, h' = l ++ cs ∧ cs.length = 6 ∧ StAt h' l.length σ ∧ StNew σ)) := by
  refine Calls.of (ls := [some (.ref l.length)]) (by decide +kernel) rfl (Nat.le_of_ble_eq_true rfl) (cat_ok rfl) ?_
  refine go_aload_0 (DX4_init.at 0 rfl) ?_
  refine go_objInit (DX4_init.at 1 rfl) (BW_i 64 (by decide +kernel) rfl) (BW_i 57 (by decide +kernel) rfl) (BW_i 58 (by decide +kernel) rfl) (by omega) (Nat.le_of_ble_eq_true rfl) ?_
  refine go_aload_0 (DX4_init.at 2 rfl) ?_
  refine go_iconst (v := nI 0) (DX4_init.at 3 rfl) (by decide) ?_
  refine go_putM (DX4_init.at 4 rfl) fX4_9 rfl rfl (Nat.le_of_ble_eq_true rfl) (fun w hw => by subst hw; exact ⟨rfl, rfl⟩) ?_
  refine go_aload_0 (DX4_init.at 5 rfl) ?_
  refine go_iconst (v := nI 0) (DX4_init.at 6 rfl) (by decide) ?_
  refine go_putM (DX4_init.at 7 rfl) fX4_15 rfl rfl (Nat.le_of_ble_eq_true rfl) (fun w hw => by subst hw; exact ⟨rfl, rfl⟩) ?_
  refine go_aload_0 (DX4_init.at 8 rfl) ?_
  refine go_iconst (v := nI 0) (DX4_init.at 9 rfl) (by decide) ?_
  refine go_putM (DX4_init.at 10 rfl) fX4_18 rfl rfl (Nat.le_of_ble_eq_true rfl) (fun w hw => by subst hw; exact ⟨rfl, rfl⟩) ?_
  refine go_aload_0 (DX4_init.at 11 rfl) ?_
  refine go_iconst (v := nI 0) (DX4_init.at 12 rfl) (by decide) ?_
  refine go_putM (DX4_init.at 13 rfl) fX4_21 rfl rfl (Nat.le_of_ble_eq_true rfl) (fun w hw => by subst hw; exact ⟨rfl, rfl⟩) ?_
  refine go_aload_0 (DX4_init.at 14 rfl) ?_
  refine go_iconst (v := nI 0) (DX4_init.at 15 rfl) (by decide) ?_
  refine go_putM (DX4_init.at 16 rfl) fX4_24 rfl rfl (Nat.le_of_ble_eq_true rfl) (fun w hw => by subst hw; exact ⟨rfl, rfl⟩) ?_
  refine go_aload_0 (DX4_init.at 17 rfl) ?_
  refine go_iconst (v := nI 0) (DX4_init.at 18 rfl) (by decide) ?_
  refine go_putM (DX4_init.at 19 rfl) fX4_27 rfl rfl (Nat.le_of_ble_eq_true rfl) (fun w hw => by subst hw; exact ⟨rfl, rfl⟩) ?_
  refine go_aload_0 (DX4_init.at 20 rfl) ?_
  refine go_iconst (v := nI 0) (DX4_init.at 21 rfl) (by decide) ?_
  refine go_putM (DX4_init.at 22 rfl) fX4_30 rfl rfl (Nat.le_of_ble_eq_true rfl) (fun w hw => by subst hw; exact ⟨rfl, rfl⟩) ?_
  refine go_aload_0 (DX4_init.at 23 rfl) ?_
  refine go_iconst (v := nI 0) (DX4_init.at 24 rfl) (by decide) ?_
  refine go_putM (DX4_init.at 25 rfl) fX4_33 rfl rfl (Nat.le_of_ble_eq_true rfl) (fun w hw => by subst hw; exact ⟨rfl, rfl⟩) ?_
  refine go_aload_0 (DX4_init.at 26 rfl) ?_
  refine go_iconst (v := nI 0) (DX4_init.at 27 rfl) (by decide) ?_
  refine go_putM (DX4_init.at 28 rfl) fX4_36 rfl rfl (Nat.le_of_ble_eq_true rfl) (fun w hw => by subst hw; exact ⟨rfl, rfl⟩) ?_
  refine go_aload_0 (DX4_init.at 29 rfl) ?_
  refine go_sipush (v := nI 160) (DX4_init.at 30 rfl) (by decide) ?_
  refine go_nintM (k := 4) (n := 208) (N := 160) (m := 0) (DX4_init.at 31 rfl) (by decide) (by decide) (by decide) rfl (by omega) ?_
  refine go_finM (DX4_init.at 32 rfl) gX4_39 rfl (by decide) rfl rfl rfl (Nat.le_of_ble_eq_true rfl) (fun w hw => by subst hw; exact ⟨rfl, rfl⟩) ?_
  refine go_aload_0 (DX4_init.at 33 rfl) ?_
  refine go_sipush (v := nI 160) (DX4_init.at 34 rfl) (by decide) ?_
  refine go_nintM (k := 3) (n := 48) (N := 160) (m := 1) (DX4_init.at 35 rfl) (by decide) (by decide) (by decide) rfl (by omega) ?_
  refine go_finM (DX4_init.at 36 rfl) gX4_43 rfl (by decide) rfl rfl rfl (Nat.le_of_ble_eq_true rfl) (fun w hw => by subst hw; exact ⟨rfl, rfl⟩) ?_
  refine go_aload_0 (DX4_init.at 37 rfl) ?_
  refine go_bipush (v := nI 8) (DX4_init.at 38 rfl) (by decide) ?_
  refine go_nintM (k := 2) (n := 40) (N := 8) (m := 2) (DX4_init.at 39 rfl) (by decide) (by decide) (by decide) rfl (by omega) ?_
  refine go_finM (DX4_init.at 40 rfl) gX4_46 rfl (by decide) rfl rfl rfl (Nat.le_of_ble_eq_true rfl) (fun w hw => by subst hw; exact ⟨rfl, rfl⟩) ?_
  refine go_aload_0 (DX4_init.at 41 rfl) ?_
  refine go_bipush (v := nI 20) (DX4_init.at 42 rfl) (by decide) ?_
  refine go_nintM (k := 1) (n := 20) (N := 20) (m := 3) (DX4_init.at 43 rfl) (by decide) (by decide) (by decide) rfl (by omega) ?_
  refine go_finM (DX4_init.at 44 rfl) gX4_49 rfl (by decide) rfl rfl rfl (Nat.le_of_ble_eq_true rfl) (fun w hw => by subst hw; exact ⟨rfl, rfl⟩) ?_
  refine go_aload_0 (DX4_init.at 45 rfl) ?_
  refine go_bipush (v := nI 20) (DX4_init.at 46 rfl) (by decide) ?_
  refine go_nintM (k := 0) (n := 0) (N := 20) (m := 4) (DX4_init.at 47 rfl) (by decide) (by decide) (by decide) rfl (by omega) ?_
  refine go_finM (DX4_init.at 48 rfl) gX4_52 rfl (by decide) rfl rfl rfl (Nat.le_of_ble_eq_true rfl) (fun w hw => by subst hw; exact ⟨rfl, rfl⟩) ?_
  refine go_aload_0 (DX4_init.at 49 rfl) ?_
  refine go_iconst (v := nI 2) (DX4_init.at 50 rfl) (by decide) ?_
  refine go_iconst (v := nI 3) (DX4_init.at 51 rfl) (by decide) ?_
  refine go_iconst (v := nI 4) (DX4_init.at 52 rfl) (by decide) ?_
  refine go_iconst (v := nI 1) (DX4_init.at 53 rfl) (by decide) ?_
  refine go_cVv4 (DX4_init.at 54 rfl) nX4_55 vX4_layOut (by omega) (c_layOut (g := 2) (s := 3) (T := 4) (sh := 1) (σ := fun _ _ => 0) ⟨get_mid, get_app (i := 1) rfl, get_app (i := 2) rfl, get_app (i := 3) rfl, get_app (i := 4) rfl, get_app (i := 5) rfl⟩ (by unfold LayOK; decide) (by omega)) get_mid rfl (Nat.le_of_ble_eq_true rfl) (fun h96 q96 => ?_)
  obtain ⟨σ', u, hL, h47, h8, hz, hC⟩ := q96
  obtain ⟨cs, rfl, hcs⟩ := u.2.app
  exact go_return (DX4_init.at 55 rfl) rfl (RV.mk ⟨cs, σ', rfl, hcs, u.1, hL, fun i h4 h9 => (if e8 : i = 8 then by subst e8; exact h8 else h47 i h4 (by omega)), hz, hC⟩)

theorem c_newOrders (hl : l.length + 2 < BIGN) (hd : 1 ≤ d) : Calls E mX1_init d 1 60 [.ref l.length] (l ++ [.inr (1, [.null, .int 0, .int 0, .int 0, .int 0, .int 0, .int 0, .int 0, .int 0])]) (RV (fun h' => ∃ cs, h' = l ++ cs ∧ cs.length = 2 ∧ OrAt h' l.length (fun _ => 0) (fun _ => 0))) := by
  refine Calls.of (ls := [some (.ref l.length)]) (by decide +kernel) rfl (Nat.le_of_ble_eq_true rfl) (cat_ok rfl) ?_
  refine go_aload_0 (DX1_init.at 0 rfl) ?_
  refine go_objInit (DX1_init.at 1 rfl) (BW_i 154 (by decide +kernel) rfl) (BW_i 57 (by decide +kernel) rfl) (BW_i 58 (by decide +kernel) rfl) (by omega) (Nat.le_of_ble_eq_true rfl) ?_
  refine go_aload_0 (DX1_init.at 2 rfl) ?_
  refine go_bipush (v := nI 60) (DX1_init.at 3 rfl) (by decide) ?_
  refine go_ncharM (k := 0) (n := 0) (N := 60) (m := 0) (DX1_init.at 4 rfl) (by decide) (by decide) (by decide) rfl (by omega) ?_
  refine go_finM (DX1_init.at 5 rfl) gX1_9 rfl (by decide) rfl rfl rfl (Nat.le_of_ble_eq_true rfl) (fun w hw => by subst hw; exact ⟨rfl, rfl⟩) ?_
  refine go_aload_0 (DX1_init.at 6 rfl) ?_
  refine go_iconst (v := nI 0) (DX1_init.at 7 rfl) (by decide) ?_
  refine go_putM (DX1_init.at 8 rfl) fX1_15 rfl rfl (Nat.le_of_ble_eq_true rfl) (fun w hw => by subst hw; exact ⟨rfl, rfl⟩) ?_
  refine go_aload_0 (DX1_init.at 9 rfl) ?_
  refine go_iconst (v := nI 0) (DX1_init.at 10 rfl) (by decide) ?_
  refine go_putM (DX1_init.at 11 rfl) fX1_19 rfl rfl (Nat.le_of_ble_eq_true rfl) (fun w hw => by subst hw; exact ⟨rfl, rfl⟩) ?_
  refine go_aload_0 (DX1_init.at 12 rfl) ?_
  refine go_iconst (v := nI 0) (DX1_init.at 13 rfl) (by decide) ?_
  refine go_putM (DX1_init.at 14 rfl) fX1_22 rfl rfl (Nat.le_of_ble_eq_true rfl) (fun w hw => by subst hw; exact ⟨rfl, rfl⟩) ?_
  refine go_aload_0 (DX1_init.at 15 rfl) ?_
  refine go_iconst (v := nI 0) (DX1_init.at 16 rfl) (by decide) ?_
  refine go_putM (DX1_init.at 17 rfl) fX1_25 rfl rfl (Nat.le_of_ble_eq_true rfl) (fun w hw => by subst hw; exact ⟨rfl, rfl⟩) ?_
  refine go_aload_0 (DX1_init.at 18 rfl) ?_
  refine go_iconst (v := nI 0) (DX1_init.at 19 rfl) (by decide) ?_
  refine go_putM (DX1_init.at 20 rfl) fX1_28 rfl rfl (Nat.le_of_ble_eq_true rfl) (fun w hw => by subst hw; exact ⟨rfl, rfl⟩) ?_
  refine go_aload_0 (DX1_init.at 21 rfl) ?_
  refine go_iconst (v := nI 0) (DX1_init.at 22 rfl) (by decide) ?_
  refine go_putM (DX1_init.at 23 rfl) fX1_31 rfl rfl (Nat.le_of_ble_eq_true rfl) (fun w hw => by subst hw; exact ⟨rfl, rfl⟩) ?_
  refine go_aload_0 (DX1_init.at 24 rfl) ?_
  refine go_iconst (v := nI 0) (DX1_init.at 25 rfl) (by decide) ?_
  refine go_putM (DX1_init.at 26 rfl) fX1_34 rfl rfl (Nat.le_of_ble_eq_true rfl) (fun w hw => by subst hw; exact ⟨rfl, rfl⟩) ?_
  refine go_aload_0 (DX1_init.at 27 rfl) ?_
  refine go_iconst (v := nI 0) (DX1_init.at 28 rfl) (by decide) ?_
  refine go_putM (DX1_init.at 29 rfl) fX1_37 rfl rfl (Nat.le_of_ble_eq_true rfl) (fun w hw => by subst hw; exact ⟨rfl, rfl⟩) ?_
  exact go_return (DX1_init.at 30 rfl) rfl (RV.mk ⟨_, rfl, rfl, get_mid, get_app (i := 1) rfl⟩)

theorem c_newBasis (hl : l.length + 3 < BIGN) (hd : 1 ≤ d) : Calls E mX0_init d 2 12 [.ref l.length] (l ++ [.inr (0, [.null, .null, .int 0])]) (RV (fun h' => ∃ cs, h' = l ++ cs ∧ cs.length = 3 ∧ BsAt h' l.length 0 (fun _ => 0) (fun _ => 0))) := by
  refine Calls.of (ls := [some (.ref l.length)]) (by decide +kernel) rfl (Nat.le_of_ble_eq_true rfl) (cat_ok rfl) ?_
  refine go_aload_0 (DX0_init.at 0 rfl) ?_
  refine go_objInit (DX0_init.at 1 rfl) (BW_i 196 (by decide +kernel) rfl) (BW_i 57 (by decide +kernel) rfl) (BW_i 58 (by decide +kernel) rfl) (by omega) (Nat.le_of_ble_eq_true rfl) ?_
  refine go_aload_0 (DX0_init.at 2 rfl) ?_
  refine go_bipush (v := nI 6) (DX0_init.at 3 rfl) (by decide) ?_
  refine go_nintM (k := 1) (n := 6) (N := 6) (m := 0) (DX0_init.at 4 rfl) (by decide) (by decide) (by decide) rfl (by omega) ?_
  refine go_finM (DX0_init.at 5 rfl) gX0_9 rfl (by decide) rfl rfl rfl (Nat.le_of_ble_eq_true rfl) (fun w hw => by subst hw; exact ⟨rfl, rfl⟩) ?_
  refine go_aload_0 (DX0_init.at 6 rfl) ?_
  refine go_bipush (v := nI 6) (DX0_init.at 7 rfl) (by decide) ?_
  refine go_nintM (k := 0) (n := 0) (N := 6) (m := 1) (DX0_init.at 8 rfl) (by decide) (by decide) (by decide) rfl (by omega) ?_
  refine go_finM (DX0_init.at 9 rfl) gX0_15 rfl (by decide) rfl rfl rfl (Nat.le_of_ble_eq_true rfl) (fun w hw => by subst hw; exact ⟨rfl, rfl⟩) ?_
  refine go_aload_0 (DX0_init.at 10 rfl) ?_
  refine go_iconst (v := nI 0) (DX0_init.at 11 rfl) (by decide) ?_
  refine go_putM (DX0_init.at 12 rfl) fX0_18 rfl rfl (Nat.le_of_ble_eq_true rfl) (fun w hw => by subst hw; exact ⟨rfl, rfl⟩) ?_
  exact go_return (DX0_init.at 13 rfl) rfl (RV.mk ⟨_, rfl, rfl, get_mid, get_app (i := 1) rfl, get_app (i := 2) rfl⟩)

theorem c_newSearch (hl : l.length + 2 < BIGN) (hd : 1 ≤ d) : Calls E mX3_init d 1 80 [.ref l.length] (l ++ [.inr (3, [.null, .int 0, .int 0, .int 0])]) (RV (fun h' => ∃ cs, h' = l ++ cs ∧ cs.length = 2 ∧ SeIs h' l.length 0 0 0 (fun _ => 0))) := by
  refine Calls.of (ls := [some (.ref l.length)]) (by decide +kernel) rfl (Nat.le_of_ble_eq_true rfl) (cat_ok rfl) ?_
  refine go_aload_0 (DX3_init.at 0 rfl) ?_
  refine go_objInit (DX3_init.at 1 rfl) (BW_i 225 (by decide +kernel) rfl) (BW_i 57 (by decide +kernel) rfl) (BW_i 58 (by decide +kernel) rfl) (by omega) (Nat.le_of_ble_eq_true rfl) ?_
  refine go_aload_0 (DX3_init.at 2 rfl) ?_
  refine go_bipush (v := nI 80) (DX3_init.at 3 rfl) (by decide) ?_
  refine go_nintM (k := 0) (n := 0) (N := 80) (m := 0) (DX3_init.at 4 rfl) (by decide) (by decide) (by decide) rfl (by omega) ?_
  refine go_finM (DX3_init.at 5 rfl) gX3_9 rfl (by decide) rfl rfl rfl (Nat.le_of_ble_eq_true rfl) (fun w hw => by subst hw; exact ⟨rfl, rfl⟩) ?_
  refine go_aload_0 (DX3_init.at 6 rfl) ?_
  refine go_iconst (v := nI 0) (DX3_init.at 7 rfl) (by decide) ?_
  refine go_putM (DX3_init.at 8 rfl) fX3_15 rfl rfl (Nat.le_of_ble_eq_true rfl) (fun w hw => by subst hw; exact ⟨rfl, rfl⟩) ?_
  refine go_aload_0 (DX3_init.at 9 rfl) ?_
  refine go_iconst (v := nI 0) (DX3_init.at 10 rfl) (by decide) ?_
  refine go_putM (DX3_init.at 11 rfl) fX3_19 rfl rfl (Nat.le_of_ble_eq_true rfl) (fun w hw => by subst hw; exact ⟨rfl, rfl⟩) ?_
  refine go_aload_0 (DX3_init.at 12 rfl) ?_
  refine go_iconst (v := nI 0) (DX3_init.at 13 rfl) (by decide) ?_
  refine go_putM (DX3_init.at 14 rfl) fX3_22 rfl rfl (Nat.le_of_ble_eq_true rfl) (fun w hw => by subst hw; exact ⟨rfl, rfl⟩) ?_
  exact go_return (DX3_init.at 15 rfl) rfl (RV.mk ⟨_, rfl, rfl, get_mid, get_app (i := 1) rfl⟩)

end CT
