/-! THE CLASS'S BASIS AND PLAN -/
theorem bit_tb {M c : Nat} : bit M c ↔ M.testBit c = true := by
  rw [Nat.testBit_eq_decide_div_mod_eq]
  simp
theorem tb_m1 : ∀ c, c < 32 → (4294967295 : Nat).testBit c = true := by decide
theorem bit_clr {M c c' : Nat} (h' : c' < 32) : bit (clr M c) c' ↔ bit M c' ∧ c' ≠ c := by
  rw [bit_tb, bit_tb]
  unfold clr
  rw [Nat.testBit_and, Nat.testBit_xor, Nat.testBit_two_pow, tb_m1 c' h']
  by_cases e : c = c'
  · subst e; simp
  · simp [e, Ne.symm e]
theorem clr_le {M c : Nat} : clr M c ≤ M := Nat.and_le_left
theorem solve_math {C : Nat → Nat → Nat} {M n c r : Nat} {U : Nat → Nat → Nat} {K : Nat → Nat} {S : Nat → Nat} (hn : n ≤ 20) (hC : ∀ c, c < n → B6 (C c)) (hc : c < n) (hb : bit M c) (hB : BInv C (clr M c) n r U K) (hS : B6 S) :
    ((∀ i, i < 6 → rst U K r (C c) i = 0) → ¬ ∃ l, Dual C M n c l) ∧
    ((∃ i, i < 6 ∧ rst U K r (C c) i ≠ 0) → (∃ l, Dual C M n c l) ∧
      ((∀ i, i < 6 → gm (rst U K r (C c) i) (gm (rst U K r S (ldv (rst U K r (C c)))) (gv (rst U K r (C c) (ldv (rst U K r (C c)))))) = rst U K r S i) ↔ ∀ l, Van C M n l → ev l S = 0) ∧
      ((∀ i, i < 6 → gm (rst U K r (C c) i) (gm (rst U K r S (ldv (rst U K r (C c)))) (gv (rst U K r (C c) (ldv (rst U K r (C c)))))) = rst U K r S i) → ∀ l, Dual C M n c l → ev l S = gm (rst U K r S (ldv (rst U K r (C c)))) (gv (rst U K r (C c) (ldv (rst U K r (C c))))))) := by
  obtain ⟨h1, h2, h3, h4, -⟩ := hB
  have hv : ∀ l, B6 l → (∀ c', c' < n → bit M c' → c' ≠ c → ev l (C c') = 0) → ∀ v, B6 v → ev l (rst U K r v) = ev l v := by
    intro l hl h0 v hv
    exact ev_rst h2 hl (h4 l ⟨hl, fun c' hc' hb' => by
      have q := (bit_clr (by omega)).mp hb'
      exact h0 c' hc' q.1 q.2⟩) r (Nat.le_refl r) hv
  have hoB := rst_lt h2 r (Nat.le_refl r) (hC c hc)
  have hwB := rst_lt h2 r (Nat.le_refl r) hS
  refine ⟨fun h0 ⟨l, l1, l2, l3⟩ => ?_, fun hne => ?_⟩
  · have e := hv l l1 l3 (C c) (hC c hc)
    rw [ev_0 l1 h0, l2] at e
    cases e
  · have hld := ldv_lt (rst U K r (C c))
    have hsp := ldv_spec hne
    generalize ldv (rst U K r (C c)) = ld at hld hsp ⊢
    have hx := hoB ld hld
    have hg := gv_lt hx
    have hun := gm_gv hx hsp
    have hX : gm (rst U K r S ld) (gv (rst U K r (C c) ld)) < 16 := gm_lt (hwB ld hld) hg
    have hL := lam_lt h2 r (Nat.le_refl r) ld hld
    have hmu : ∀ v, B6 v → ev (fun k => gm (lam U K r ld k) (gv (rst U K r (C c) ld))) v = gm (rst U K r v ld) (gv (rst U K r (C c) ld)) := fun v hv => by
      rw [ev_gm_l hL hv hg, lam_ev h2 r (Nat.le_refl r) ld hld hv]
    have hcl : ∀ c', c' < n → bit M c' → c' ≠ c → ∀ i, i < 6 → rst U K r (C c') i = 0 := fun c' hc' hb' hne' => h3 c' hc' ((bit_clr (by omega)).mpr ⟨hb', hne'⟩)
    refine ⟨⟨_, hL.gm hg, by rw [hmu _ (hC c hc), hun], fun c' hc' hb' hne' => by rw [hmu _ (hC c' hc'), hcl c' hc' hb' hne' ld hld, gm_0l hg]⟩, ⟨fun he l hl => ?_, fun ha i hi => ?_⟩, fun he l hl => ?_⟩
    · have e1 := hv l hl.1 (fun c' hc' hb' _ => hl.2 c' hc' hb') S hS
      have e2 := hv l hl.1 (fun c' hc' hb' _ => hl.2 c' hc' hb') (C c) (hC c hc)
      rw [← e1, ev_congr (l' := l) (v' := fun i => gm (rst U K r (C c) i) (gm (rst U K r S ld) (gv (rst U K r (C c) ld)))) (fun _ _ => rfl) (fun i hi => (he i hi).symm), ev_gm_r hl.1 hoB hX, e2, hl.2 c hc hb, gm_0l hX]
    · have hLi := lam_lt h2 r (Nat.le_refl r) i hi
      have hoi := hoB i hi
      have key : ∀ v, B6 v → ev (fun k => lam U K r i k ^^^ gm (gm (lam U K r ld k) (gv (rst U K r (C c) ld))) (rst U K r (C c) i)) v = rst U K r v i ^^^ gm (gm (rst U K r v ld) (gv (rst U K r (C c) ld))) (rst U K r (C c) i) := fun v hv => by
        rw [ev_xor_l hLi ((hL.gm hg).gm hoi) hv, ev_gm_l (hL.gm hg) hv hoi, hmu v hv, lam_ev h2 r (Nat.le_refl r) i hi hv]
      have h0 := ha _ ⟨hLi.xor ((hL.gm hg).gm hoi), fun c' hc' hb' => by
        rw [key _ (hC c' hc')]
        by_cases e : c' = c
        · subst e
          rw [hun, gm_1l hoi, Nat.xor_self]
        · rw [hcl c' hc' hb' e i hi, hcl c' hc' hb' e ld hld, gm_0l hg, gm_0l hoi]
          rfl⟩
      rw [key S hS] at h0
      rw [gm_comm hoi hX]
      exact (xor_eq0 h0).symm
    · obtain ⟨l1, l2, l3⟩ := hl
      have e1 := hv l l1 l3 S hS
      have e2 := hv l l1 l3 (C c) (hC c hc)
      rw [← e1, ev_congr (l' := l) (v' := fun i => gm (rst U K r (C c) i) (gm (rst U K r S ld) (gv (rst U K r (C c) ld)))) (fun _ _ => rfl) (fun i hi => (he i hi).symm), ev_gm_r l1 hoB hX, e2, l2, gm_1l hX]
def BsAt (h : List va_E) (b : Nat) (r : Nat) (cf lf : Nat → Int32) : Prop := h[b]? = some (.inr (0, [.ref (b + 1), .ref (b + 2), .int (nI r)])) ∧ h[b + 1]? = some (ar 6 cf) ∧ h[b + 2]? = some (ar 6 lf)
def BsRep (cf lf : Nat → Int32) (r : Nat) (U : Nat → Nat → Nat) (K : Nat → Nat) : Prop := ∀ p, p < r → cf p = nI (pq 6 (U p)) ∧ lf p = nI (K p)
theorem pq_eq0 {w : Nat → Nat} (hw : B6 w) : nI (pq 6 w) = 0 ↔ ∀ i, i < 6 → w i = 0 := by
  rw [nI_eq0 (by have := pq_lt24 hw; omega)]
  constructor
  · intro h
    exact pq_inj hw (fun _ _ => by decide) (h.trans (pq_0 6).symm)
  · intro h
    rw [pq_congr h, pq_0]
section BP
variable {E : AEnv} {d : Nat} {h : List va_E} {b : Nat} {σ : Rows} {g s T sh : Nat}
theorem c_restOf {r : Nat} {cf lf : Nat → Int32} {U : Nat → Nat → Nat} {K : Nat → Nat} {v : Nat → Nat} (hB : BsAt h b r cf lf) (hr : r ≤ 6) (hok : BasOK U K r) (hrep : BsRep cf lf r U K) (hv : B6 v) (hd : 1 ≤ d) : Calls E mX0_restOf d 0 0 [.ref b, .int (nI (pq 6 v))] h (RX (nI (pq 6 (rst U K r v))) h) := by
  refine Calls.of (ls := [some (.ref b), some (.int (nI (pq 6 v))), none, none]) (by decide +kernel) rfl (Nat.le_of_ble_eq_true rfl) (cat_ok rfl) ?_
  have loop : ∀ (m j : Nat), j + m = r → Go E mX0_restOf d 0 0 4 [some (.ref b), some (.int (nI (pq 6 v))), some (.int (nI (pq 6 (rst U K j v)))), some (.int (nI j))] [] h (RX (nI (pq 6 (rst U K r v))) h) := by
    intro m
    induction m with
    | zero =>
      intro j hj
      have ej : j = r := by omega
      subst ej
      refine go_iload_3 (DX0_restOf.at 4 rfl) ?_
      refine go_aload_0 (DX0_restOf.at 5 rfl) ?_
      refine go_getfield (DX0_restOf.at 6 rfl) fX0_18 hB.1 rfl ?_
      refine go_icmp_ge 44 (DX0_restOf.at 7 rfl) (by decide) (fun c9 => ?_) (fun c9 => absurd (Int32.le_refl _) c9)
      refine go_iload_2 (DX0_restOf.at 24 rfl) ?_
      exact go_iret (DX0_restOf.at 25 rfl) rfl rfl (RX.mk rfl rfl)
    | succ m ih =>
      intro j hj
      refine go_iload_3 (DX0_restOf.at 4 rfl) ?_
      refine go_aload_0 (DX0_restOf.at 5 rfl) ?_
      refine go_getfield (DX0_restOf.at 6 rfl) fX0_18 hB.1 rfl ?_
      refine go_icmp_ge 44 (DX0_restOf.at 7 rfl) (by decide) (fun c9 => absurd c9 (nI_ge (a := j) (b := r) (by omega) (by omega))) (fun c9 => ?_)
      refine go_iload_2 (DX0_restOf.at 8 rfl) ?_
      refine go_aload_0 (DX0_restOf.at 9 rfl) ?_
      refine go_getfield (DX0_restOf.at 10 rfl) fX0_9 hB.1 rfl ?_
      refine go_iload_3 (DX0_restOf.at 11 rfl) ?_
      refine go_cSx2 (DX0_restOf.at 12 rfl) nX0_46 vX5_at (by omega) (c_at (Or.inl hB.2.1) (show j < 6 by omega) (by decide)) (Nat.le_of_ble_eq_true rfl) ?_
      rw [(hrep j (by omega)).1]
      refine go_iload_2 (DX0_restOf.at 13 rfl) ?_
      refine go_aload_0 (DX0_restOf.at 14 rfl) ?_
      refine go_getfield (DX0_restOf.at 15 rfl) fX0_15 hB.1 rfl ?_
      refine go_iload_3 (DX0_restOf.at 16 rfl) ?_
      refine go_cSx2 (DX0_restOf.at 17 rfl) nX0_46 vX5_at (by omega) (c_at (Or.inl hB.2.2) (show j < 6 by omega) (by decide)) (Nat.le_of_ble_eq_true rfl) ?_
      rw [(hrep j (by omega)).2]
      refine go_cSx2 (DX0_restOf.at 18 rfl) nX0_50 vX5_element (by omega) (c_element (rst_lt hok j (by omega) hv) (hok j (by omega)).2) (Nat.le_of_ble_eq_true rfl) ?_
      refine go_cSx2 (DX0_restOf.at 19 rfl) nX0_53 vX5_scaled (by omega) (c_scaled (hok j (by omega)).1 (rst_lt hok j (by omega) hv _ (hok j (by omega)).2)) (Nat.le_of_ble_eq_true rfl) ?_
      refine go_ixor (DX0_restOf.at 20 rfl) ?_
      rw [nx_xor, pq_xor 6 _ _ (rst_lt hok j (by omega) hv) ((hok j (by omega)).1.gm (rst_lt hok j (by omega) hv _ (hok j (by omega)).2))]
      refine go_istore_2 (DX0_restOf.at 21 rfl) ?_
      refine go_iincN_3 (DX0_restOf.at 22 rfl) ?_
      refine go_goto 4 (DX0_restOf.at 23 rfl) (by decide) ?_
      exact ih (j + 1) (by omega)
  refine go_iload_1 (DX0_restOf.at 0 rfl) ?_
  refine go_istore_2 (DX0_restOf.at 1 rfl) ?_
  refine go_iconst (v := nI 0) (DX0_restOf.at 2 rfl) (by decide) ?_
  refine go_istore_3 (DX0_restOf.at 3 rfl) ?_
  exact loop r 0 (by omega)

theorem Only.bs {h h1 : List va_E} {b a : Nat} {e : va_E} (hO : Only b (b + 3) h h1) (h1' : b ≤ a) (h2 : a < b + 3) : Only b (b + 3) h (h1.set a e) := hO.trans (Only.set h1' h2)
theorem c_span {a M r0 : Nat} {cf0 lf0 : Nat → Int32} {C : Nat → Nat → Nat} (hB0 : BsAt h b r0 cf0 lf0) (hS : StAt h a σ) (hL : LayX σ g s T sh) (hC : ColX σ (nc g s) C) (hM : M < 2 ^ 31) (hab : a + 6 ≤ b ∨ b + 3 ≤ a) (hd : 2 ≤ d) : Calls E mX0_span d 0 0 [.ref b, .ref a, .int (nI M)] h (RV (fun h' => Only b (b + 3) h h' ∧ ∃ r U K cf lf, BsAt h' b r cf lf ∧ BsRep cf lf r U K ∧ BInv C M (nc g s) r U K)) := by
  refine Calls.of (ls := [some (.ref b), some (.ref a), some (.int (nI M)), none, none, none]) (by decide +kernel) rfl (Nat.le_of_ble_eq_true rfl) (cat_ok rfl) ?_
  have hn := hL.2.2.2.2.nc
  have loop : ∀ (m j : Nat) (h1 : List va_E) (r : Nat) (U : Nat → Nat → Nat) (K : Nat → Nat) (cf lf : Nat → Int32) (x4 x5 : Option Value), j + m = nc g s → Only b (b + 3) h h1 → BsAt h1 b r cf lf → BsRep cf lf r U K → BInv C M j r U K → Go E mX0_span d 0 0 7 [some (.ref b), some (.ref a), some (.int (nI M)), some (.int (nI j)), x4, x5] [] h1 (RV (fun h' => Only b (b + 3) h h' ∧ ∃ r U K cf lf, BsAt h' b r cf lf ∧ BsRep cf lf r U K ∧ BInv C M (nc g s) r U K)) := by
    intro m
    induction m with
    | zero =>
      intro j h1 r U K cf lf x4 x5 hj hO hB hrep hI
      have hS1 := hS.keep hO (by omega)
      have ej : j = nc g s := by omega
      subst ej
      refine go_iload_3 (DX0_span.at 5 rfl) ?_
      refine go_aload_1 (DX0_span.at 6 rfl) ?_
      refine go_cVx0 (DX0_span.at 7 rfl) nX0_22 vX4_cellCount (by omega) (c_cellCount hS1 hL) hS1.1 rfl (Nat.le_of_ble_eq_true rfl) ?_
      refine go_icmp_ge 106 (DX0_span.at 8 rfl) (by decide) (fun c12 => ?_) (fun c12 => absurd (Int32.le_refl _) c12)
      exact go_return (DX0_span.at 54 rfl) rfl (RV.mk ⟨hO, r, U, K, cf, lf, hB, hrep, hI⟩)
    | succ m ih =>
      intro j h1 r U K cf lf x4 x5 hj hO hB hrep hI
      have hS1 := hS.keep hO (by omega)
      refine go_iload_3 (DX0_span.at 5 rfl) ?_
      refine go_aload_1 (DX0_span.at 6 rfl) ?_
      refine go_cVx0 (DX0_span.at 7 rfl) nX0_22 vX4_cellCount (by omega) (c_cellCount hS1 hL) hS1.1 rfl (Nat.le_of_ble_eq_true rfl) ?_
      refine go_icmp_ge 106 (DX0_span.at 8 rfl) (by decide) (fun c12 => absurd c12 (nI_ge (a := j) (b := nc g s) (by omega) (by omega))) (fun c12 => ?_)
      refine go_iload_2 (DX0_span.at 9 rfl) ?_
      refine go_iload_3 (DX0_span.at 10 rfl) ?_
      refine go_ishr (DX0_span.at 11 rfl) ?_
      refine go_iconst (v := nI 1) (DX0_span.at 12 rfl) (by decide) ?_
      refine go_iand (DX0_span.at 13 rfl) ?_
      refine go_if_eq 35 (DX0_span.at 14 rfl) (by decide) (fun c20 => ?_) (fun c20 => ?_)
      · rw [nx_bit hM (by omega), nI_eq0 (by omega)] at c20
        have hnb : ¬ bit M j := fun q => by have q : M / 2 ^ j % 2 = 1 := q; omega
        refine go_iconst (v := nI 0) (DX0_span.at 21 rfl) (by decide) ?_
        refine go_istore_4 (DX0_span.at 22 rfl) ?_
        refine go_iload_4 (DX0_span.at 23 rfl) ?_
        refine go_if_eq 100 (DX0_span.at 24 rfl) (by decide) (fun c40 => ?_) (fun c40 => absurd (by decide) c40)
        refine go_iincN_3 (DX0_span.at 52 rfl) ?_
        refine go_goto 7 (DX0_span.at 53 rfl) (by decide) ?_
        exact ih (j + 1) h1 r U K cf lf _ x5 (by omega) hO hB hrep (hI.skip hnb)
      · rw [nx_bit hM (by omega), nI_eq0 (by omega)] at c20
        have hbj : bit M j := by show M / 2 ^ j % 2 = 1; omega
        have hwB : B6 (rst U K r (C j)) := rst_lt hI.2.1 r (Nat.le_refl r) (hC j (by omega)).2
        refine go_aload_0 (DX0_span.at 15 rfl) ?_
        refine go_aload_1 (DX0_span.at 16 rfl) ?_
        refine go_iload_3 (DX0_span.at 17 rfl) ?_
        refine go_cVx1 (DX0_span.at 18 rfl) nX0_28 vX4_columnOf (by omega) (c_columnOf hS1 (show j < 20 by omega) (by omega)) hS1.1 rfl (Nat.le_of_ble_eq_true rfl) ?_
        rw [(hC j (by omega)).1]
        refine go_cVx1 (DX0_span.at 19 rfl) nX0_32 vX0_restOf (by omega) (c_restOf hB hI.1 hI.2.1 hrep (hC j (by omega)).2 (by omega)) hB.1 rfl (Nat.le_of_ble_eq_true rfl) ?_
        refine go_goto 36 (DX0_span.at 20 rfl) (by decide) ?_
        refine go_istore_4 (DX0_span.at 22 rfl) ?_
        refine go_iload_4 (DX0_span.at 23 rfl) ?_
        refine go_if_eq 100 (DX0_span.at 24 rfl) (by decide) (fun c40 => ?_) (fun c40 => ?_)
        · refine go_iincN_3 (DX0_span.at 52 rfl) ?_
          refine go_goto 7 (DX0_span.at 53 rfl) (by decide) ?_
          exact ih (j + 1) h1 r U K cf lf _ x5 (by omega) hO hB hrep (hI.dep (hC j (by omega)).2 hbj ((pq_eq0 hwB).mp c40))
        · rw [pq_eq0 hwB] at c40
          have hex : ∃ i, i < 6 ∧ rst U K r (C j) i ≠ 0 := by
            apply Classical.byContradiction
            intro hno
            exact c40 (fun i hi => Classical.byContradiction fun q => hno ⟨i, hi, q⟩)
          have hr6 : r < 6 := by obtain ⟨i, hi, hw⟩ := hex; exact hI.room (hC j (by omega)).2 hi hw
          have hsp := ldv_spec hex
          refine go_aload_0 (DX0_span.at 25 rfl) ?_
          refine go_getfield (DX0_span.at 26 rfl) fX0_18 hB.1 rfl ?_
          refine go_bipush (v := nI 6) (DX0_span.at 27 rfl) (by decide) ?_
          refine go_icmp_ge 100 (DX0_span.at 28 rfl) (by decide) (fun c49 => absurd c49 (nI_ge (a := r) (b := 6) hr6 (by decide))) (fun c49 => ?_)
          refine go_iload_4 (DX0_span.at 29 rfl) ?_
          refine go_cSx1 (DX0_span.at 30 rfl) nX0_35 vX5_leadOf (by omega) (c_leadOf hwB (by omega)) (Nat.le_of_ble_eq_true rfl) ?_
          refine go_istore_5 (DX0_span.at 31 rfl) ?_
          refine go_aload_0 (DX0_span.at 32 rfl) ?_
          refine go_getfield (DX0_span.at 33 rfl) fX0_9 hB.1 rfl ?_
          refine go_aload_0 (DX0_span.at 34 rfl) ?_
          refine go_getfield (DX0_span.at 35 rfl) fX0_18 hB.1 rfl ?_
          refine go_iload_4 (DX0_span.at 36 rfl) ?_
          refine go_iload_5 (DX0_span.at 37 rfl) ?_
          refine go_cSx2 (DX0_span.at 38 rfl) nX0_38 vX5_unitOf (by omega) (c_unitOf hwB (ldv_lt _) (by omega)) (Nat.le_of_ble_eq_true rfl) ?_
          refine go_cSv3 (DX0_span.at 39 rfl) nX0_42 vX5_put (by omega) (c_put hB.2.1 hr6 (by decide)) (Nat.le_of_ble_eq_true rfl) (fun h74 q74 => ?_)
          subst q74
          have g74 : BsAt (h1.set (b + 1) (ar 6 (upd cf r (nI (pq 6 (fun i => gm (rst U K r (C j) i) (gv (rst U K r (C j) (ldv (rst U K r (C j)))))))))))  b r (upd cf r (nI (pq 6 (fun i => gm (rst U K r (C j) i) (gv (rst U K r (C j) (ldv (rst U K r (C j))))))))) lf := ⟨by rw [List.getElem?_set_ne (by omega)]; exact hB.1, get_set hB.2.1, by rw [List.getElem?_set_ne (by omega)]; exact hB.2.2⟩
          have o74 := hO.bs (a := b + 1) (e := ar 6 (upd cf r (nI (pq 6 (fun i => gm (rst U K r (C j) i) (gv (rst U K r (C j) (ldv (rst U K r (C j))))))))))  (by omega) (by omega)
          generalize hcf' : (upd cf r (nI (pq 6 (fun i => gm (rst U K r (C j) i) (gv (rst U K r (C j) (ldv (rst U K r (C j))))))))) = cf' at g74 o74 ⊢
          generalize (h1.set (b + 1) (ar 6 cf')) = h74 at g74 o74 ⊢
          refine go_aload_0 (DX0_span.at 40 rfl) ?_
          refine go_getfield (DX0_span.at 41 rfl) fX0_15 g74.1 rfl ?_
          refine go_aload_0 (DX0_span.at 42 rfl) ?_
          refine go_getfield (DX0_span.at 43 rfl) fX0_18 g74.1 rfl ?_
          refine go_iload_5 (DX0_span.at 44 rfl) ?_
          refine go_cSv3 (DX0_span.at 45 rfl) nX0_42 vX5_put (by omega) (c_put g74.2.2 hr6 (by decide)) (Nat.le_of_ble_eq_true rfl) (fun h87 q87 => ?_)
          subst q87
          have g87 : BsAt (h74.set (b + 2) (ar 6 (upd lf r (nI (ldv (rst U K r (C j))))))) b r cf' (upd lf r (nI (ldv (rst U K r (C j))))) := ⟨by rw [List.getElem?_set_ne (by omega)]; exact g74.1, by rw [List.getElem?_set_ne (by omega)]; exact g74.2.1, get_set g74.2.2⟩
          have o87 := o74.bs (a := b + 2) (e := ar 6 (upd lf r (nI (ldv (rst U K r (C j)))))) (by omega) (by omega)
          generalize (h74.set (b + 2) (ar 6 (upd lf r (nI (ldv (rst U K r (C j))))))) = h87 at g87 o87 ⊢
          refine go_aload_0 (DX0_span.at 46 rfl) ?_
          refine go_dup (DX0_span.at 47 rfl) rfl ?_
          refine go_getfield (DX0_span.at 48 rfl) fX0_18 g87.1 rfl ?_
          refine go_iconst (v := nI 1) (DX0_span.at 49 rfl) (by decide) ?_
          refine go_iadd (DX0_span.at 50 rfl) ?_
          rw [nI_add]
          refine go_putfield (DX0_span.at 51 rfl) fX0_18 rfl rfl g87.1 (Nat.le_of_ble_eq_true rfl) (fun w hw => by subst hw; exact ⟨rfl, rfl⟩) ?_
          have g97 : BsAt (h87.set b (.inr (0, [.ref (b + 1), .ref (b + 2), .int (nI (r + 1))]))) b (r + 1) cf' (upd lf r (nI (ldv (rst U K r (C j))))) := ⟨get_set g87.1, by rw [List.getElem?_set_ne (by omega)]; exact g87.2.1, by rw [List.getElem?_set_ne (by omega)]; exact g87.2.2⟩
          have o97 := o87.bs (a := b) (e := (.inr (0, [.ref (b + 1), .ref (b + 2), .int (nI (r + 1))]))) (by omega) (by omega)
          have K97 : ∀ h97 : List va_E, BsAt h97 b (r + 1) cf' (upd lf r (nI (ldv (rst U K r (C j))))) → Only b (b + 3) h h97 → Go E mX0_span d 0 0 100 [some (.ref b), some (.ref a), some (.int (nI M)), some (.int (nI j)), some (.int (nI (pq 6 (rst U K r (C j))))), some (.int (nI (ldv (rst U K r (C j)))))] [] h97 (RV (fun h' => Only b (b + 3) h h' ∧ ∃ r U K cf lf, BsAt h' b r cf lf ∧ BsRep cf lf r U K ∧ BInv C M (nc g s) r U K)) := by
            intro h97 g97 o97
            refine go_iincN_3 (DX0_span.at 52 rfl) ?_
            refine go_goto 7 (DX0_span.at 53 rfl) (by decide) ?_
            refine ih (j + 1) h97 (r + 1) (fun p => if p = r then (fun i => gm (rst U K r (C j) i) (gv (rst U K r (C j) (ldv (rst U K r (C j)))))) else U p) (fun p => if p = r then ldv (rst U K r (C j)) else K p) cf' _ _ _ (by omega) o97 g97 ?_ ?_
            · intro p hp
              subst hcf'
              show upd cf r _ p = nI (pq 6 (if p = r then _ else U p)) ∧ upd lf r _ p = nI (if p = r then _ else K p)
              by_cases e : p = r
              · rw [if_pos e, if_pos e, e, pk_us, pk_us]
                exact ⟨rfl, rfl⟩
              · rw [pk_un e, pk_un e, if_neg e, if_neg e]
                exact hrep p (by omega)
            · refine hI.more (ld := ldv (rst U K r (C j))) (hC j (by omega)).2 (fun c hc => (hC c (by omega)).2) hbj hr6 (ldv_lt _) hsp (fun p hp i _ => by rw [if_neg (by omega)]) (fun p hp => by rw [if_neg (by omega)]) (fun i _ => by rw [if_pos rfl]) (if_pos rfl)
          exact K97 _ g97 o97
  refine go_aload_0 (DX0_span.at 0 rfl) ?_
  refine go_iconst (v := nI 0) (DX0_span.at 1 rfl) (by decide) ?_
  refine go_putfield (DX0_span.at 2 rfl) fX0_18 rfl rfl hB0.1 (Nat.le_of_ble_eq_true rfl) (fun w hw => by subst hw; exact ⟨rfl, rfl⟩) ?_
  refine go_iconst (v := nI 0) (DX0_span.at 3 rfl) (by decide) ?_
  refine go_istore_3 (DX0_span.at 4 rfl) ?_
  exact loop (nc g s) 0 _ 0 (fun _ _ => 0) (fun _ => 0) cf0 lf0 _ _ (by omega) (Only.set (by omega) (by omega)) ⟨get_set hB0.1, by rw [List.getElem?_set_ne (by omega)]; exact hB0.2.1, by rw [List.getElem?_set_ne (by omega)]; exact hB0.2.2⟩ (fun p hp => absurd hp (Nat.not_lt_zero p)) BInv.zero

end BP
