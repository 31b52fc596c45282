/-! THE MODEL: the culprit -/
theorem vsum_put {C : Nat → Nat → Nat} {V : Nat → Nat} {M c v : Nat} (hV : ∀ k, V k < 16) (hC : ∀ k i, C k i < 16) (hv : v < 16) (i : Nat) : ∀ n, vsum C (fun k => if k = c then v else V k) M n i = vsum C V M n i ^^^ (if c < n ∧ bit M c then gm (C c i) (V c ^^^ v) else 0)
  | 0 => by
    rw [if_neg (by omega), Nat.xor_zero]
    rfl
  | n + 1 => by
    show vsum C (fun k => if k = c then v else V k) M n i ^^^ (if M / 2 ^ n % 2 = 1 then gm (C n i) (if n = c then v else V n) else 0) = (vsum C V M n i ^^^ (if M / 2 ^ n % 2 = 1 then gm (C n i) (V n) else 0)) ^^^ _
    rw [vsum_put hV hC hv i n]
    by_cases e : n = c
    · subst e
      rw [if_neg (show ¬ (n < n ∧ bit M n) by omega), if_pos rfl, Nat.xor_zero]
      by_cases q : M / 2 ^ n % 2 = 1
      · rw [if_pos q, if_pos q, if_pos (show n < n + 1 ∧ bit M n from ⟨by omega, q⟩), gm_xor (hC n i) (hV n) hv, Nat.xor_assoc, ← Nat.xor_assoc (gm (C n i) (V n)), Nat.xor_self, Nat.zero_xor]
      · rw [if_neg q, if_neg q, if_neg (show ¬ (n < n + 1 ∧ bit M n) from fun w => q w.2), Nat.xor_zero, Nat.xor_zero]
    · rw [if_neg e]
      by_cases q : c < n ∧ bit M c
      · rw [if_pos q, if_pos (show c < n + 1 ∧ bit M c from ⟨by omega, q.2⟩), Nat.xor_assoc, Nat.xor_comm (gm (C c i) (V c ^^^ v)), ← Nat.xor_assoc]
      · rw [if_neg q, if_neg (show ¬ (c < n + 1 ∧ bit M c) from fun w => q ⟨by omega, w.2⟩), Nat.xor_zero, Nat.xor_zero]
theorem aSum_put {A : Ab} {t c v : Nat} (hA : AOK A) (hc : c < nc (aG A) (aS A)) (hv : v < 16) (i : Nat) : aSum (aPut A t c v) t i = aSum A t i ^^^ gm (colv (aG A) (aS A) c i) (aV A t c ^^^ v) := by
  have e := vsum_put (C := colv (aG A) (aS A)) (V := aV A t) (M := 2 ^ nc (aG A) (aS A) - 1) (c := c) (v := v) (hA.2.2.1 t) (fun k i => colv_lt i) hv i (nc (aG A) (aS A))
  rw [if_pos ⟨hc, bit_m1.mpr hc⟩] at e
  have e2 : (fun k => if k = c then v else aV A t k) = aV (aPut A t c v) t := by
    funext k
    show _ = put2 (aV A) t c v t k
    unfold put2
    by_cases q : k = c
    · rw [if_pos q, if_pos ⟨rfl, q⟩]
    · rw [if_neg q, if_neg (fun w => q w.2)]
  rw [e2] at e
  exact e
theorem flg_0 {v : Nat → Nat} : ∀ n, flg v n = 0 ↔ ∀ j, j < n → v j = 0
  | 0 => ⟨fun _ j hj => absurd hj (Nat.not_lt_zero j), fun _ => rfl⟩
  | n + 1 => by
    have ih := flg_0 (v := v) n
    show (if v n = 0 then flg v n else flg v n ||| 1 * 2 ^ n) = 0 ↔ _
    by_cases q : v n = 0
    · rw [if_pos q, ih]
      constructor
      · intro h j hj
        by_cases e : j = n
        · rw [e]; exact q
        · exact h j (by omega)
      · exact fun h j hj => h j (by omega)
    · rw [if_neg q]
      constructor
      · intro h
        have h2 : 1 * 2 ^ n ≤ flg v n ||| 1 * 2 ^ n := Nat.right_le_or
        have h3 := Nat.two_pow_pos n
        omega
      · exact fun h => absurd (h n (by omega)) q
theorem flg_lt {v : Nat → Nat} : ∀ n, flg v n < 2 ^ n
  | 0 => by show 0 < 2 ^ 0; decide
  | n + 1 => by
    have ih := flg_lt (v := v) n
    show (if v n = 0 then flg v n else flg v n ||| 1 * 2 ^ n) < 2 ^ (n + 1)
    have h2 : 2 ^ (n + 1) = 2 * 2 ^ n := by rw [Nat.pow_succ, Nat.mul_comm]
    split
    · omega
    · rw [Nat.one_mul]
      exact Nat.or_lt_two_pow (by omega) (Nat.pow_lt_pow_right (by decide) (by omega))
/-- changing the cell c to v mends an inconsistent stripe just if it is the culprit -/
theorem good_iff {g s T sh c v x : Nat} {S : Nat → Nat} (hL : LayOK g s T sh) (hc : c < nc g s) (hS : B6 S) (hx : x < 16) (hv : v < 16) (hne : ¬ ∀ j, j < 6 → S j = 0) : (∀ j, j < 6 → S j ^^^ gm (colv g s c j) (x ^^^ v) = 0) ↔ CU (colv g s) S (hcv g s c) c ∧ v = x ^^^ S (hcv g s c) := by
  have hg : g ≤ 4 := hL.2.1
  have hh := hcv_lt hL hc
  have h1 := colv_home hL hc
  constructor
  · intro h
    have e := xor_eq0 (h _ (show hcv g s c < 6 by omega))
    rw [h1, gm_1l (xor_lt hx hv)] at e
    refine ⟨⟨fun z => hne (fun j hj => ?_), fun j hj => ?_⟩, ?_⟩
    · have e2 := xor_eq0 (h j hj)
      rw [e2, ← e, z, gm_0 (colv_lt j)]
    · rw [e]
      exact (xor_eq0 (h j hj)).symm
    · rw [e, ← Nat.xor_assoc, Nat.xor_self, Nat.zero_xor]
  · rintro ⟨⟨-, h2⟩, h3⟩ j hj
    rw [h3, ← Nat.xor_assoc, Nat.xor_self, Nat.zero_xor, h2 j hj, Nat.xor_self]
theorem pw_inj {a b : Nat} (ha : a < 15) (hb : b < 15) (h : pw a = pw b) : a = b := by
  have hd : (List.range 15).all (fun a => (List.range 15).all (fun b => decide (pw a = pw b → a = b))) = true := by decide +kernel
  exact of_decide_eq_true (List.all_eq_true.mp (List.all_eq_true.mp hd a (List.mem_range.mpr ha)) b (List.mem_range.mpr hb)) h
/-- there is never more than one -/
theorem CU.one {g s T sh c c' : Nat} {S : Nat → Nat} (hL : LayOK g s T sh) (hS : B6 S) (hc : c < nc g s) (hc' : c' < nc g s) (h : CU (colv g s) S (hcv g s c) c) (h' : CU (colv g s) S (hcv g s c') c') : c = c' := by
  have hg : g ≤ 4 := hL.2.1
  have hgs : g * s ≤ 15 := hL.2.2.2.2.1
  have hh := hcv_lt hL hc
  have hh' := hcv_lt hL hc'
  unfold nc at hc hc'
  have nz : ∀ {a x : Nat}, a < 16 → x < 16 → a ≠ 0 → x ≠ 0 → gm a x ≠ 0 := fun ha hx h1 h2 e => (gm_eq0 ha hx e).elim h1 h2
  -- the sums of a data cell's change
  have dat : ∀ k, k < g * s → CU (colv g s) S (hcv g s k) k → S (k / s) ≠ 0 ∧ S g = gm (pw k) (S (k / s)) ∧ S g ≠ 0 ∧ S (g + 1) ≠ 0 ∧ k / s < g ∧ ∀ j, j < g → j ≠ k / s → S j = 0 := fun k hk q => by
    have hhk := hcv_ltg hk
    have eh : hcv g s k = k / s := if_pos hk
    rw [eh] at q hhk
    have hb := hS (k / s) (by omega)
    have e1 := q.2 g (by omega)
    have e2 := q.2 (g + 1) (by omega)
    rw [colv_dg hk] at e1
    rw [colv_dg1 hk] at e2
    refine ⟨q.1, e1.symm, ?_, ?_, hhk, fun j hj hne => ?_⟩
    · rw [← e1]; exact nz (pw_lt _) hb (pw_ne0 _) q.1
    · rw [← e2]; exact nz (pw_lt _) hb (pw_ne0 _) q.1
    · have e3 := q.2 j (by omega)
      rw [colv_dk hk hj, if_neg hne, gm_0l hb] at e3
      exact e3.symm
  have par : ∀ k, ¬ k < g * s → k < g * s + g + 2 → CU (colv g s) S (hcv g s k) k → S (k - g * s) ≠ 0 ∧ ∀ j, j < 6 → j ≠ k - g * s → S j = 0 := fun k hk hk2 q => by
    have eh : hcv g s k = k - g * s := if_neg hk
    rw [eh] at q
    refine ⟨q.1, fun j hj hne => ?_⟩
    have e3 := q.2 j hj
    rw [colv_pk hk, if_neg hne, gm_0l (hS _ (by omega))] at e3
    exact e3.symm
  by_cases q : c < g * s
  · obtain ⟨d1, d2, d3, d4, d5, d6⟩ := dat c q h
    by_cases q' : c' < g * s
    · obtain ⟨f1, f2, f3, f4, f5, f6⟩ := dat c' q' h'
      have e : c / s = c' / s := Classical.byContradiction fun w => d1 (f6 _ d5 w)
      rw [d2, ← e] at f2
      have hb := hS (c / s) (by omega)
      have e2 : gm (pw c) (S (c / s)) ^^^ gm (pw c') (S (c / s)) = 0 := by rw [f2, Nat.xor_self]
      rw [← xor_gm (pw_lt _) (pw_lt _) hb] at e2
      rcases gm_eq0 (xor_lt (pw_lt _) (pw_lt _)) hb e2 with w | w
      · exact pw_inj (by omega) (by omega) (xor_eq0 w)
      · exact absurd w d1
    · obtain ⟨f1, f2⟩ := par c' q' hc' h'
      by_cases w : g = c' - g * s
      · exact absurd (f2 (g + 1) (by omega) (by omega)) d4
      · exact absurd (f2 g (by omega) w) d3
  · obtain ⟨d1, d2⟩ := par c q hc h
    by_cases q' : c' < g * s
    · obtain ⟨f1, f2, f3, f4, f5, f6⟩ := dat c' q' h'
      by_cases w : g = c - g * s
      · exact absurd (d2 (g + 1) (by omega) (by omega)) f4
      · exact absurd (d2 g (by omega) w) f3
    · obtain ⟨f1, f2⟩ := par c' q' hc' h'
      have e : c - g * s = c' - g * s := Classical.byContradiction fun w => d1 (f2 _ (by omega) w)
      omega
theorem upd_self {f : Nat → Int32} {k : Nat} : upd f k (f k) = f := by
  funext j
  unfold upd
  split
  · rename_i e; rw [e]
  · rfl
theorem upd_upd {f : Nat → Int32} {k : Nat} {x y : Int32} : upd (upd f k x) k y = upd f k y := by
  funext j
  unfold upd
  split <;> rfl
theorem cpG_le {A : Ab} {t c : Nat} : ∀ j, cpG A t j = some c → c < j ∧ CU (colv (aG A) (aS A)) (aSum A t) (hcv (aG A) (aS A) c) c
  | 0, h => by cases h
  | j + 1, h => by
    have h2 : (match cpG A t j with | some c => some c | none => cI (CU (colv (aG A) (aS A)) (aSum A t) (hcv (aG A) (aS A) j) j) (some j) none) = some c := h
    cases e : cpG A t j with
    | some d =>
      rw [e] at h2
      cases h2
      have := cpG_le j e
      exact ⟨by omega, this.2⟩
    | none =>
      rw [e] at h2
      by_cases q : CU (colv (aG A) (aS A)) (aSum A t) (hcv (aG A) (aS A) j) j
      · have h3 := (cI_t q).symm.trans h2
        cases h3
        exact ⟨by omega, q⟩
      · have h3 := (cI_f q).symm.trans h2
        cases h3
theorem cpG_none {A : Ab} {t : Nat} : ∀ j, cpG A t j = none → ∀ c, c < j → ¬ CU (colv (aG A) (aS A)) (aSum A t) (hcv (aG A) (aS A) c) c
  | 0, _, c, hc => absurd hc (Nat.not_lt_zero c)
  | j + 1, h, c, hc => by
    have h2 : (match cpG A t j with | some c => some c | none => cI (CU (colv (aG A) (aS A)) (aSum A t) (hcv (aG A) (aS A) j) j) (some j) none) = none := h
    cases e : cpG A t j with
    | some d =>
      rw [e] at h2
      cases h2
    | none =>
      rw [e] at h2
      by_cases q : CU (colv (aG A) (aS A)) (aSum A t) (hcv (aG A) (aS A) j) j
      · have h3 := (cI_t q).symm.trans h2
        cases h3
      · by_cases e2 : c = j
        · rw [e2]; exact q
        · exact cpG_none j e c (by omega)
section M6
variable {E : AEnv} {d : Nat} {h h' : List va_E} {b : Nat} {i : Nat → Int32} {ρ : Nat → Nat → Int32} {A : Ab} {G : Nat → Option va_E}
/-- found, many and the good value, behind the cells below j -/
def FC (A : Ab) (t j : Nat) (fnd : Int32) (many : Nat) (good : Int32) : Prop := (cpG A t j = none → fnd = -5 ∧ many = 0) ∧ ∀ c, cpG A t j = some c → fnd = nI c ∧ many = 1 ∧ good = nI (aV A t c ^^^ aSum A t (hcv (aG A) (aS A) c))
theorem FC.skip {A : Ab} {t j many : Nat} {fnd good : Int32} (h : FC A t j fnd many good) (hn : ¬ CU (colv (aG A) (aS A)) (aSum A t) (hcv (aG A) (aS A) j) j) : FC A t (j + 1) fnd many good := by
  have e : cpG A t (j + 1) = cpG A t j := by
    show (match cpG A t j with | some c => some c | none => cI (CU (colv (aG A) (aS A)) (aSum A t) (hcv (aG A) (aS A) j) j) (some j) none) = cpG A t j
    cases cpG A t j with
    | some c => rfl
    | none => exact cI_f hn
  unfold FC
  rw [e]
  exact h
theorem FC.yes {A : Ab} {t j many : Nat} {fnd : Int32} {good : Int32} (hA : AOK A) (hj : j < nc (aG A) (aS A)) (h : FC A t j fnd many good) (hn : CU (colv (aG A) (aS A)) (aSum A t) (hcv (aG A) (aS A) j) j) : many = 0 ∧ FC A t (j + 1) (nI j) 1 (nI (aV A t j ^^^ aSum A t (hcv (aG A) (aS A) j))) := by
  have e0 : cpG A t j = none := by
    cases e : cpG A t j with
    | none => rfl
    | some c =>
      have h2 := cpG_le j e
      exact absurd (CU.one hA.1 (aSum_lt hA) (by omega) hj h2.2 hn) (by omega)
  have e : cpG A t (j + 1) = some j := by
    show (match cpG A t j with | some c => some c | none => cI (CU (colv (aG A) (aS A)) (aSum A t) (hcv (aG A) (aS A) j) j) (some j) none) = some j
    rw [e0]
    exact cI_t hn
  refine ⟨(h.1 e0).2, fun w => ?_, fun c w => ?_⟩
  · rw [e] at w
    cases w
  · rw [e] at w
    cases w
    exact ⟨rfl, rfl, rfl⟩
theorem m_findCulprit {t : Nat} (ht : t < aT A) (h0 : aM A t = 0) (hX : MX G h b i ρ A) (hd : 3 ≤ d) : Calls E mX6_findCulprit d 0 0 [.ref b, .int (nI t)] h (RI (fun r h' => ∃ i', MdAt G h' b i' ρ ∧ (∀ s, s < 4 → i' s = i s) ∧ r = (match cpF A t with | none => -5 | some c => nI c) ∧ ∀ c, cpF A t = some c → i' 4 = nI (aV A t c ^^^ aSum A t (hcv (aG A) (aS A) c)))) := by
  refine Calls.of (ls := [some (.ref b), some (.int (nI t)), none, none, none, none, none]) (by decide +kernel) rfl (Nat.le_of_ble_eq_true rfl) (cat_ok rfl) ?_
  have hM := hX.1
  have hTb := hX.2.1
  have hR := hX.2.2
  have hA := hR.1
  have hn := hA.1.nc
  have hT8 : aT A ≤ 8 := hA.1.2.2.2.2.2.2.1
  have hg4 : aG A ≤ 4 := hA.1.2.1
  have hs6 : aS A ≤ 6 := hA.1.2.2.2.1
  have hs2 : 2 ≤ aS A := hA.1.2.2.1
  have hg1 : 1 ≤ aG A := hA.1.1
  have hgs : aG A * aS A ≤ 15 := hA.1.2.2.2.2.1
  have hH5 : aH A ≤ 5 := hA.1.2.2.2.2.2.2.2
  have en : nc (aG A) (aS A) = aG A * aS A + aG A + 2 := rfl
  refine go_aload_0 (DX6_findCulprit.at 0 rfl) ?_
  refine go_iload_1 (DX6_findCulprit.at 1 rfl) ?_
  refine go_cVx1 (DX6_findCulprit.at 2 rfl) nX6_173 vX6_failingChecks (by omega) (m_failingChecks ht h0 hX (by omega)) hM.1 rfl (Nat.le_of_ble_eq_true rfl) ?_
  refine go_if_ne 11 (DX6_findCulprit.at 3 rfl) (by decide) (fun c5 => ?_) (fun c5 => ?_)
  · rw [nI_eq0 (by have := flg_lt (v := aSum A t) 6; omega), flg_0] at c5
    have hne := c5
    refine go_bipush (v := (-5)) (DX6_findCulprit.at 6 rfl) (by decide) ?_
    refine go_istore_2 (DX6_findCulprit.at 7 rfl) ?_
    refine go_iconst (v := nI 0) (DX6_findCulprit.at 8 rfl) (by decide) ?_
    refine go_istore_3 (DX6_findCulprit.at 9 rfl) ?_
    refine go_iconst (v := nI 0) (DX6_findCulprit.at 10 rfl) (by decide) ?_
    refine go_istore_4 (DX6_findCulprit.at 11 rfl) ?_
    have outer : ∀ (m j : Nat) (fnd0 : Int32) (many0 : Nat) (h : List va_E) (i0 : Nat → Int32) (x5 x6 : Option Value), j + m = nc (aG A) (aS A) → MdAt G h b i0 ρ → (∀ s, s < 4 → i0 s = i s) → FC A t j fnd0 many0 (i0 4) → Go E mX6_findCulprit d 0 0 19 [some (.ref b), some (.int (nI t)), some (.int (fnd0)), some (.int (nI many0)), some (.int (nI j)), x5, x6] [] h (RI (fun r h' => ∃ i', MdAt G h' b i' ρ ∧ (∀ s, s < 4 → i' s = i s) ∧ r = (match cpF A t with | none => -5 | some c => nI c) ∧ ∀ c, cpF A t = some c → i' 4 = nI (aV A t c ^^^ aSum A t (hcv (aG A) (aS A) c)))) := by
      intro m
      induction m with
      | zero =>
        intro j fnd0 many0 h i0 x5 x6 hj q hi hF
        obtain rfl : j = nc (aG A) (aS A) := by omega
        refine go_iload_4 (DX6_findCulprit.at 12 rfl) ?_
        refine go_aload_0 (DX6_findCulprit.at 13 rfl) ?_
        refine go_cVx0 (DX6_findCulprit.at 14 rfl) nX6_59 vX6_cells (by omega) (m_cells (⟨q, hTb, hR⟩ : MX G h b i0 ρ A) (by omega)) q.1 rfl (Nat.le_of_ble_eq_true rfl) ?_
        refine go_icmp_ge 97 (DX6_findCulprit.at 15 rfl) (by decide) (fun c25 => ?_) (fun c25 => absurd (Int32.le_refl _) c25)
        refine go_iload_3 (DX6_findCulprit.at 50 rfl) ?_
        refine go_iconst (v := nI 1) (DX6_findCulprit.at 51 rfl) (by decide) ?_
        refine go_icmp_ne 106 (DX6_findCulprit.at 52 rfl) (by decide) (fun c99 => ?_) (fun c99 => ?_)
        · have e0 : cpF A t = none := Classical.byContradiction fun w => (by
            cases e : cpF A t with
            | none => exact w e
            | some c => exact c99 (by rw [(hF.2 c e).2.1]))
          refine go_bipush (v := (-5)) (DX6_findCulprit.at 55 rfl) (by decide) ?_
          exact go_iret (DX6_findCulprit.at 56 rfl) rfl rfl (RI.mk ⟨i0, q, hi, by first | rw [e0] | (obtain ⟨c, e0⟩ := e0; rw [e0]; exact (hF.2 c e0).1), fun c e => (hF.2 c e).2.2⟩)
        · have e1 : many0 = 1 := by
            cases e : cpF A t with
            | none =>
              rw [(hF.1 e).2] at c99
              exact absurd c99 (by decide)
            | some c => exact (hF.2 c e).2.1
          have e0 : ∃ c, cpF A t = some c := by
            cases e : cpF A t with
            | none =>
              rw [(hF.1 e).2] at e1
              cases e1
            | some c => exact ⟨c, rfl⟩
          refine go_iload_2 (DX6_findCulprit.at 53 rfl) ?_
          refine go_goto 108 (DX6_findCulprit.at 54 rfl) (by decide) ?_
          exact go_iret (DX6_findCulprit.at 56 rfl) rfl rfl (RI.mk ⟨i0, q, hi, by first | rw [e0] | (obtain ⟨c, e0⟩ := e0; rw [e0]; exact (hF.2 c e0).1), fun c e => (hF.2 c e).2.2⟩)
      | succ m ihO =>
        intro j fnd0 many0 h i0 x5 x6 hj q hi hF
        have hvj : ρ 1 (29 + 20 * t + j) = nI (aV A t j) := hR.2.2.2.2.2.2.1 t ht j (by omega) (by rw [h0]; exact nbit0 j)
        generalize hgd : i0 4 = good0 at hF
        refine go_iload_4 (DX6_findCulprit.at 12 rfl) ?_
        refine go_aload_0 (DX6_findCulprit.at 13 rfl) ?_
        refine go_cVx0 (DX6_findCulprit.at 14 rfl) nX6_59 vX6_cells (by omega) (m_cells (⟨q, hTb, hR⟩ : MX G h b i0 ρ A) (by omega)) q.1 rfl (Nat.le_of_ble_eq_true rfl) ?_
        refine go_icmp_ge 97 (DX6_findCulprit.at 15 rfl) (by decide) (fun c25 => absurd c25 (nI_ge (by omega) (by omega))) (fun c25 => ?_)
        refine go_aload_0 (DX6_findCulprit.at 16 rfl) ?_
        refine go_iload_1 (DX6_findCulprit.at 17 rfl) ?_
        refine go_iload_4 (DX6_findCulprit.at 18 rfl) ?_
        refine go_cVx2 (DX6_findCulprit.at 19 rfl) nX6_62 vX6_cellValue (by omega) (m_cellValue q (show t < 8 by omega) (show j < 20 by omega)) q.1 rfl (Nat.le_of_ble_eq_true rfl) ?_
        rw [hvj]
        refine go_istore_5 (DX6_findCulprit.at 20 rfl) ?_
        refine go_iconst (v := nI 0) (DX6_findCulprit.at 21 rfl) (by decide) ?_
        refine go_istore_6 (DX6_findCulprit.at 22 rfl) ?_
        have inner : ∀ (mm v : Nat) (h : List va_E) (fnd : Int32) (many : Nat) (i1 : Nat → Int32) (x : Int32), v + mm = 16 → MdAt G h b i1 (rset ρ 1 (upd (ρ 1) (29 + 20 * t + j) x)) → (∀ s, s < 4 → i1 s = i s) → ((CU (colv (aG A) (aS A)) (aSum A t) (hcv (aG A) (aS A) j) j ∧ aV A t j ^^^ aSum A t (hcv (aG A) (aS A) j) < v) → fnd = nI j ∧ many = 1 ∧ i1 4 = nI (aV A t j ^^^ aSum A t (hcv (aG A) (aS A) j))) → (¬ (CU (colv (aG A) (aS A)) (aSum A t) (hcv (aG A) (aS A) j) j ∧ aV A t j ^^^ aSum A t (hcv (aG A) (aS A) j) < v) → fnd = fnd0 ∧ many = many0 ∧ i1 4 = good0) → Go E mX6_findCulprit d 0 0 40 [some (.ref b), some (.int (nI t)), some (.int (fnd)), some (.int (nI many)), some (.int (nI j)), some (.int (nI (aV A t j))), some (.int (nI v))] [] h (RI (fun r h' => ∃ i', MdAt G h' b i' ρ ∧ (∀ s, s < 4 → i' s = i s) ∧ r = (match cpF A t with | none => -5 | some c => nI c) ∧ ∀ c, cpF A t = some c → i' 4 = nI (aV A t c ^^^ aSum A t (hcv (aG A) (aS A) c)))) := by
          intro mm
          induction mm with
          | zero =>
            intro v h fnd many i1 x hv q hi1 hy hn0
            obtain rfl : v = 16 := by omega
            refine go_iload_6 (DX6_findCulprit.at 23 rfl) ?_
            refine go_bipush (v := nI 16) (DX6_findCulprit.at 24 rfl) (by decide) ?_
            refine go_icmp_ge 82 (DX6_findCulprit.at 25 rfl) (by decide) (fun c44 => ?_) (fun c44 => absurd (Int32.le_refl _) c44)
            refine go_aload_0 (DX6_findCulprit.at 43 rfl) ?_
            refine go_iload_1 (DX6_findCulprit.at 44 rfl) ?_
            refine go_iload_4 (DX6_findCulprit.at 45 rfl) ?_
            refine go_iload_5 (DX6_findCulprit.at 46 rfl) ?_
            refine go_cVv3 (DX6_findCulprit.at 47 rfl) nX6_138 vX6_setValue (by omega) (m_setValue q (show t < 8 by omega) (show j < 20 by omega)) q.1 rfl (Nat.le_of_ble_eq_true rfl) (fun h88 q88 => ?_)
            rw [rset_rset, rset_s, upd_upd, ← hvj, upd_self, rset_self] at q88
            refine go_iincN_4 (DX6_findCulprit.at 48 rfl) ?_
            refine go_goto 19 (DX6_findCulprit.at 49 rfl) (by decide) ?_
            have hF2 : FC A t (j + 1) fnd many (i1 4) := by
              by_cases hcu : CU (colv (aG A) (aS A)) (aSum A t) (hcv (aG A) (aS A) j) j
              · obtain ⟨g1, g2, g3⟩ := hy ⟨hcu, by have h1 := aSum_lt (t := t) hA; have h2 := hcv_lt hA.1 (show j < nc (aG A) (aS A) by omega); exact xor_lt (hA.2.2.1 t j) (h1 _ (by omega))⟩
                rw [g1, g2, g3]
                exact (hF.yes hA (by omega) hcu).2
              · obtain ⟨g1, g2, g3⟩ := hn0 (fun w => hcu w.1)
                rw [g1, g2, g3]
                exact hF.skip hcu
            exact ihO (j + 1) fnd many _ i1 _ _ (by omega) q88 hi1 hF2
          | succ mm ihI =>
            intro v h fnd many i1 x hv q hi1 hy hn0
            refine go_iload_6 (DX6_findCulprit.at 23 rfl) ?_
            refine go_bipush (v := nI 16) (DX6_findCulprit.at 24 rfl) (by decide) ?_
            refine go_icmp_ge 82 (DX6_findCulprit.at 25 rfl) (by decide) (fun c44 => absurd ((nI_leI (by omega) (by omega)).mp c44) (by omega)) (fun c44 => ?_)
            refine go_aload_0 (DX6_findCulprit.at 26 rfl) ?_
            refine go_iload_1 (DX6_findCulprit.at 27 rfl) ?_
            refine go_iload_4 (DX6_findCulprit.at 28 rfl) ?_
            refine go_iload_6 (DX6_findCulprit.at 29 rfl) ?_
            refine go_cVv3 (DX6_findCulprit.at 30 rfl) nX6_138 vX6_setValue (by omega) (m_setValue q (show t < 8 by omega) (show j < 20 by omega)) q.1 rfl (Nat.le_of_ble_eq_true rfl) (fun h53 q53 => ?_)
            rw [rset_rset, rset_s, upd_upd] at q53
            have hX2 : MX G h53 b i1 (rset ρ 1 (upd (ρ 1) (29 + 20 * t + j) (nI v))) (aPut A t j v) := ⟨q53, hTb, by rw [rset_s]; exact hR.put ht (by omega) (by rw [h0]; exact nbit0 j) (by omega)⟩
            have hgood : (∀ k, k < 6 → aSum (aPut A t j v) t k = 0) ↔ CU (colv (aG A) (aS A)) (aSum A t) (hcv (aG A) (aS A) j) j ∧ v = aV A t j ^^^ aSum A t (hcv (aG A) (aS A) j) := by
              have e := good_iff (c := j) (v := v) (x := aV A t j) hA.1 (by omega) (aSum_lt (t := t) hA) (hA.2.2.1 t j) (by omega) hne
              rw [← e]
              constructor
              · intro w k hk
                have w2 := w k hk
                rwa [aSum_put hA (by omega) (by omega)] at w2
              · intro w k hk
                rw [aSum_put hA (by omega) (by omega)]
                exact w k hk
            refine go_aload_0 (DX6_findCulprit.at 31 rfl) ?_
            refine go_iload_1 (DX6_findCulprit.at 32 rfl) ?_
            refine go_cVx1 (DX6_findCulprit.at 33 rfl) nX6_173 vX6_failingChecks (by omega) (m_failingChecks (A := aPut A t j v) ht h0 hX2 (by omega)) q53.1 rfl (Nat.le_of_ble_eq_true rfl) ?_
            refine go_if_ne 76 (DX6_findCulprit.at 34 rfl) (by decide) (fun c61 => ?_) (fun c61 => ?_)
            · rw [nI_eq0 (by have := flg_lt (v := aSum (aPut A t j v) t) 6; omega), flg_0, hgood] at c61
              refine go_iincN_6 (DX6_findCulprit.at 41 rfl) ?_
              refine go_goto 40 (DX6_findCulprit.at 42 rfl) (by decide) ?_
              first
                | exact ihI (v + 1) _ (nI j) _ _ (nI v) (by omega) q70 (fun s hs => (pk_un (by omega)).trans (hi1 s hs)) (fun _ => ⟨rfl, by rw [hg0.2.1, hm0], by rw [pk_us, hv0]⟩) (fun w => absurd ⟨hcu, by omega⟩ w)
                | exact ihI (v + 1) _ fnd many i1 (nI v) (by omega) q53 hi1 (fun w => hy ⟨w.1, by have := w.2; have : v ≠ aV A t j ^^^ aSum A t (hcv (aG A) (aS A) j) := fun e => c61 ⟨w.1, e⟩; omega⟩) (fun w => hn0 (fun w2 => w ⟨w2.1, by have := w2.2; omega⟩))
            · rw [nI_eq0 (by have := flg_lt (v := aSum (aPut A t j v) t) 6; omega), flg_0, hgood] at c61
              obtain ⟨hcu, hv0⟩ := c61
              have hg0 := hn0 (fun w => by have := w.2; omega)
              have hm0 := (hF.yes hA (by omega) hcu).1
              refine go_iload_4 (DX6_findCulprit.at 35 rfl) ?_
              refine go_istore_2 (DX6_findCulprit.at 36 rfl) ?_
              refine go_aload_0 (DX6_findCulprit.at 37 rfl) ?_
              refine go_iload_6 (DX6_findCulprit.at 38 rfl) ?_
              refine go_putM6 (kf := 14) (s := 4) (DX6_findCulprit.at 39 rfl) fX6_176 (by decide) q53 (fun h70 q70 => ?_)
              refine go_iincN_3 (DX6_findCulprit.at 40 rfl) ?_
              refine go_iincN_6 (DX6_findCulprit.at 41 rfl) ?_
              refine go_goto 40 (DX6_findCulprit.at 42 rfl) (by decide) ?_
              first
                | exact ihI (v + 1) _ (nI j) _ _ (nI v) (by omega) q70 (fun s hs => (pk_un (by omega)).trans (hi1 s hs)) (fun _ => ⟨rfl, by rw [hg0.2.1, hm0], by rw [pk_us, hv0]⟩) (fun w => absurd ⟨hcu, by omega⟩ w)
                | exact ihI (v + 1) _ fnd many i1 (nI v) (by omega) q53 hi1 (fun w => hy ⟨w.1, by have := w.2; have : v ≠ aV A t j ^^^ aSum A t (hcv (aG A) (aS A) j) := fun e => c61 ⟨w.1, e⟩; omega⟩) (fun w => hn0 (fun w2 => w ⟨w2.1, by have := w2.2; omega⟩))
        exact inner 16 0 h fnd0 many0 i0 (nI (aV A t j)) (Nat.zero_add _) (by rw [← hvj, upd_self, rset_self]; exact q) hi (fun w => absurd w.2 (Nat.not_lt_zero _)) (fun _ => ⟨rfl, rfl, hgd⟩)
    exact outer (nc (aG A) (aS A)) 0 (-5) 0 h i _ _ (Nat.zero_add _) hM (fun _ _ => rfl) ⟨fun _ => ⟨rfl, rfl⟩, fun c e => (by cases e)⟩
  · rw [nI_eq0 (by have := flg_lt (v := aSum A t) 6; omega), flg_0] at c5
    have hno : cpF A t = none := cpG_n _ (fun j hj q => q.1 (c5 _ (by have h2 := hcv_lt hA.1 hj; omega)))
    refine go_bipush (v := (-5)) (DX6_findCulprit.at 4 rfl) (by decide) ?_
    exact go_iret (DX6_findCulprit.at 5 rfl) rfl rfl (RI.mk ⟨i, hM, fun _ _ => rfl, by rw [hno], fun c e => (by rw [hno] at e; cases e)⟩)

end M6
