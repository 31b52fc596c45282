/-! THE MODEL: history, snapshot, the whole of it -/
def MRest (Z : Zt) (i : Nat → Int32) (ρ : Nat → Nat → Int32) : Prop := i 0 = nI (zn Z) ∧ zn Z ≤ 4 ∧ (∀ j, j < zn Z → RepM (zH Z j) (fun k => ρ 3 (349 * j + k))) ∧ i 1 = nI (zk Z) ∧ zk Z ≤ 1 ∧ (zk Z = 1 → RepM (zS Z) (ρ 4)) ∧ i 2 = nI (zN Z) ∧ TxtIs (ρ 5) (zY Z) (zN Z)
/-- the model's object at b holds the store Z -/
def MZ (G : Nat → Option va_E) (Z : Zt) (h : List va_E) (b : Nat) : Prop := ∃ i ρ, MX G h b i ρ (zA Z) ∧ MRest Z i ρ
/-- a negative answer has changed nothing -/
def NG (R : Int32 × Ab) (A : Ab) : Prop := R.1 < 0 → R.2 = A
theorem NG.cI {P : Prop} {a b : Int32 × Ab} {A : Ab} (h1 : NG a A) (h2 : NG b A) : NG (cI P a b) A := by
  by_cases q : P
  · rw [cI_t q]; exact h1
  · rw [cI_f q]; exact h2
theorem NG.same {x : Int32} {A : Ab} : NG (x, A) A := fun _ => rfl
theorem NG.pos {k : Nat} {A A' : Ab} (h : k < 2 ^ 31) : NG (nI k, A') A := fun q => absurd q (nI_pos h)
theorem NG.cn {k : Nat} {A A' : Ab} (h : k < 2 ^ 31) (h0 : k = 0 → A' = A) : NG (cnI k, A') A := fun q => by
  by_cases e : k = 0
  · exact h0 e
  · have e2 : cnI k = nI k := if_neg e
    exact absurd (show nI k < 0 by rw [← e2]; exact q) (nI_pos h)
theorem wrF_ng {A : Ab} {x y z : Int32} (hA : AOK A) : NG (wrF A x y z) A := NG.cI (NG.cI (NG.cI (NG.cI NG.same (NG.pos (by have := hA.2.2.1 x.toNatClampNeg y.toNatClampNeg; omega))) NG.same) NG.same) NG.same
theorem loF_ng {A : Ab} {x y : Int32} (hA : AOK A) : NG (loF A x y) A := NG.cI (NG.cI NG.same (NG.pos (by have := hA.q160; omega))) NG.same
theorem alF_ng {A : Ab} {x y z : Int32} (hA : AOK A) : NG (alF A x y z) A := NG.cI (NG.cI (NG.cI NG.same (NG.cI NG.same (NG.pos (by have := hA.2.2.1 x.toNatClampNeg y.toNatClampNeg; omega)))) NG.same) NG.same
theorem mdF_ng {A : Ab} {x y : Int32} : NG (mdF A x y) A := by
  refine NG.cI (NG.cI ?_ NG.same) NG.same
  unfold mdA
  cases wyF A x.toNatClampNeg y.toNatClampNeg with
  | none => exact NG.same
  | some p => exact NG.pos (by have := pcn_le p.2.1 20; omega)
theorem lnG_0 {nd : Nat} : ∀ m t A, (lnG nd m t A).1 ≤ m ∧ ((lnG nd m t A).1 = 0 → (lnG nd m t A).2 = A)
  | 0, _, _ => ⟨Nat.le_refl 0, fun _ => rfl⟩
  | m + 1, t, A => by
    by_cases h : bit (aM A t) (con (nc (aG A) (aS A)) nd (t * aH A))
    · rw [lnG_t h]
      have ih := lnG_0 (nd := nd) m (t + 1) A
      exact ⟨by omega, ih.2⟩
    · rw [lnG_f h]
      have ih := lnG_0 (nd := nd) m (t + 1) (aLos A t (con (nc (aG A) (aS A)) nd (t * aH A)))
      exact ⟨by dsimp only; omega, fun q => absurd q (by dsimp only; omega)⟩
theorem lsF_ng {A : Ab} {x : Int32} (hA : AOK A) : NG (lsF A x) A := by
  have h8 : aT A ≤ 8 := hA.1.2.2.2.2.2.2.1
  have q := lnG_0 (nd := x.toNatClampNeg) (aT A) 0 A
  exact NG.cI (NG.cn (by omega) q.2) NG.same
theorem mnG_0r {nd : Nat} : ∀ m t A r, AOK A → t + m = aT A → mnG nd m t A = some r → r.1 ≤ 20 * m ∧ (r.1 = 0 → r.2 = A)
  | 0, _, _, r, _, _, h => by
    cases h
    exact ⟨Nat.le_refl 0, fun _ => rfl⟩
  | m + 1, t, A, r, hA, htm, h => by
    have hn := hA.1.nc
    by_cases hb : bit (aM A t) (con (nc (aG A) (aS A)) nd (t * aH A))
    · rcases way_cases A t (con (nc (aG A) (aS A)) nd (t * aH A)) with ⟨w, src, X, hW⟩ | hW
      · rw [mnG_s hb hW] at h
        have hc : con (nc (aG A) (aS A)) nd (t * aH A) < nc (aG A) (aS A) := con_lt (by omega)
        have hp := WyX.pos hA hc hW
        have hp2 := pcn_le src 20
        have ih := mnG_0r (nd := nd) m (t + 1) (aMnd A t (con (nc (aG A) (aS A)) nd (t * aH A)) w src X)
        cases e : mnG nd m (t + 1) (aMnd A t (con (nc (aG A) (aS A)) nd (t * aH A)) w src X) with
        | none =>
          rw [e] at h
          cases h
        | some r2 =>
          rw [e] at h
          cases h
          have ih2 := ih r2 (aMnd_ok hA (by omega) hc (WyX.lt hA hc hW)) (by show t + 1 + m = aT A; omega) e
          exact ⟨by show pcn src 20 + r2.1 ≤ 20 * (m + 1); omega, fun q => absurd (show pcn src 20 + r2.1 = 0 from q) (by omega)⟩
      · rw [mnG_0 hb hW] at h
        cases h
    · rw [mnG_f hb] at h
      have ih := mnG_0r (nd := nd) m (t + 1) A r hA (by omega) h
      exact ⟨by omega, ih.2⟩
theorem wkG_le : ∀ m A, (wkG m A).1 ≤ m
  | 0, _ => Nat.le_refl 0
  | m + 1, A => by
    cases hq : aQ A with
    | nil =>
      rw [wkG_e hq]
      exact Nat.zero_le _
    | cons x l =>
      rcases way_cases A (x / 20) (x % 20) with ⟨w, src, X, hW⟩ | hW
      · rw [wkG_s hq hW]
        have := wkG_le m (aMnd A (x / 20) (x % 20) w src X)
        dsimp only
        omega
      · rw [wkG_n hq hW]
        have := wkG_le m (aRot A)
        omega
theorem scG_0 : ∀ m t A, (scG m t A).1 ≤ m ∧ ((scG m t A).1 = 0 → (scG m t A).2 = A)
  | 0, _, _ => ⟨Nat.le_refl 0, fun _ => rfl⟩
  | m + 1, t, A => by
    cases h : cI (aM A t = 0) (cpF A t) none with
    | none =>
      rw [scG_n h]
      have ih := scG_0 m (t + 1) A
      exact ⟨by omega, ih.2⟩
    | some c =>
      rw [scG_s h]
      have ih := scG_0 m (t + 1) (aPut A t c (aV A t c ^^^ aSum A t (hcv (aG A) (aS A) c)))
      exact ⟨by dsimp only; omega, fun q => absurd q (by dsimp only; omega)⟩
theorem scF_ng {A : Ab} (hA : AOK A) : NG (scF A) A := by
  have h8 : aT A ≤ 8 := hA.1.2.2.2.2.2.2.1
  have q := scG_0 (aT A) 0 A
  exact NG.cn (by omega) q.2
theorem MRest.keep {Z : Zt} {i i' : Nat → Int32} {ρ ρ' : Nat → Nat → Int32} (h : MRest Z i ρ) (hi : ∀ s, s < 3 → i' s = i s) (h3 : ρ' 3 = ρ 3) (h4 : ρ' 4 = ρ 4) (h5 : ρ' 5 = ρ 5) : MRest Z i' ρ' := by
  obtain ⟨a, b, c, d, e, f, g, k⟩ := h
  exact ⟨(hi 0 (by omega)).trans a, b, by rw [h3]; exact c, (hi 1 (by omega)).trans d, e, by rw [h4]; exact f, (hi 2 (by omega)).trans g, by rw [h5]; exact k⟩
theorem MRest.mu {Z : Zt} {i : Nat → Int32} {ρ ρ' : Nat → Nat → Int32} (h : MRest Z i ρ) (u : MU ρ ρ') : MRest Z i ρ' := h.keep (fun _ _ => rfl) (u 3 (by decide) (by decide)) (u 4 (by decide) (by decide)) (u 5 (by decide) (by decide))
section M6
variable {E : AEnv} {d : Nat} {h h' : List va_E} {b : Nat} {i : Nat → Int32} {ρ : Nat → Nat → Int32} {A : Ab} {G : Nat → Option va_E}
theorem m_remember (hM : MdAt G h b i ρ) : Calls E mX6_remember d 0 0 [.ref b] h (RV (fun h' => ∃ f, (∀ k, k < 349 → f k = ρ 1 k) ∧ MdAt G h' b i (rset ρ 2 f))) := by
  refine Calls.of (ls := [some (.ref b), none]) (by decide +kernel) rfl (Nat.le_of_ble_eq_true rfl) (cat_ok rfl) ?_
  have loop : ∀ (m j : Nat) (h : List va_E) (f : Nat → Int32), j + m = 349 → MdAt G h b i (rset ρ 2 f) → (∀ k, k < j → f k = ρ 1 k) → Go E mX6_remember d 0 0 2 [some (.ref b), some (.int (nI j))] [] h (RV (fun h' => ∃ f, (∀ k, k < 349 → f k = ρ 1 k) ∧ MdAt G h' b i (rset ρ 2 f))) := by
    intro m
    induction m with
    | zero =>
      intro j h f hj q hf
      have ej : 349 = j := by omega
      subst ej
      refine go_iload_1 (DX6_remember.at 2 rfl) ?_
      refine go_sipush (v := nI 349) (DX6_remember.at 3 rfl) (by decide) ?_
      refine go_icmp_ge 27 (DX6_remember.at 4 rfl) (by decide) (fun c6 => ?_) (fun c6 => absurd (Int32.le_refl _) c6)
      exact go_return (DX6_remember.at 15 rfl) rfl (RV.mk ⟨f, hf, q⟩)
    | succ m ih =>
      intro j h f hj q hf
      refine go_iload_1 (DX6_remember.at 2 rfl) ?_
      refine go_sipush (v := nI 349) (DX6_remember.at 3 rfl) (by decide) ?_
      refine go_icmp_ge 27 (DX6_remember.at 4 rfl) (by decide) (fun c6 => absurd ((nI_leI (by omega) (by omega)).mp c6) (by omega)) (fun c6 => ?_)
      refine go_aload_0 (DX6_remember.at 5 rfl) ?_
      refine go_getfield (DX6_remember.at 6 rfl) fX6_13 q.1 rfl ?_
      refine go_iload_1 (DX6_remember.at 7 rfl) ?_
      refine go_aload_0 (DX6_remember.at 8 rfl) ?_
      refine go_getfield (DX6_remember.at 9 rfl) fX6_7 q.1 rfl ?_
      refine go_iload_1 (DX6_remember.at 10 rfl) ?_
      refine go_ialdM (DX6_remember.at 11 rfl) (q.2.1 1 (by decide)) (show j < 349 by omega) (by decide) ?_
      rw [rset_n (by decide)]
      refine go_iastM (DX6_remember.at 12 rfl) q (a := 2) (by decide) (show j < 349 by omega) (fun h20 q20 => ?_)
      rw [rset_rset, rset_s] at q20
      refine go_iincN_1 (DX6_remember.at 13 rfl) ?_
      refine go_goto 2 (DX6_remember.at 14 rfl) (by decide) ?_
      exact ih (j + 1) _ _ (by omega) q20 (fun k hk => by
        by_cases e : k = j
        · rw [e, pk_us]
        · rw [pk_un e]
          exact hf k (by omega))
  refine go_iconst (v := nI 0) (DX6_remember.at 0 rfl) (by decide) ?_
  refine go_istore_1 (DX6_remember.at 1 rfl) ?_
  exact loop 349 0 h (ρ 2) (Nat.zero_add _) (by rw [rset_self]; exact hM) (fun k hk => absurd hk (Nat.not_lt_zero k))

theorem m_takeBack (hM : MdAt G h b i ρ) : Calls E mX6_takeBack d 0 0 [.ref b] h (RV (fun h' => ∃ f, (∀ k, k < 349 → f k = ρ 2 k) ∧ MdAt G h' b i (rset ρ 1 f))) := by
  refine Calls.of (ls := [some (.ref b), none]) (by decide +kernel) rfl (Nat.le_of_ble_eq_true rfl) (cat_ok rfl) ?_
  have loop : ∀ (m j : Nat) (h : List va_E) (f : Nat → Int32), j + m = 349 → MdAt G h b i (rset ρ 1 f) → (∀ k, k < j → f k = ρ 2 k) → Go E mX6_takeBack d 0 0 2 [some (.ref b), some (.int (nI j))] [] h (RV (fun h' => ∃ f, (∀ k, k < 349 → f k = ρ 2 k) ∧ MdAt G h' b i (rset ρ 1 f))) := by
    intro m
    induction m with
    | zero =>
      intro j h f hj q hf
      have ej : 349 = j := by omega
      subst ej
      refine go_iload_1 (DX6_takeBack.at 2 rfl) ?_
      refine go_sipush (v := nI 349) (DX6_takeBack.at 3 rfl) (by decide) ?_
      refine go_icmp_ge 27 (DX6_takeBack.at 4 rfl) (by decide) (fun c6 => ?_) (fun c6 => absurd (Int32.le_refl _) c6)
      exact go_return (DX6_takeBack.at 15 rfl) rfl (RV.mk ⟨f, hf, q⟩)
    | succ m ih =>
      intro j h f hj q hf
      refine go_iload_1 (DX6_takeBack.at 2 rfl) ?_
      refine go_sipush (v := nI 349) (DX6_takeBack.at 3 rfl) (by decide) ?_
      refine go_icmp_ge 27 (DX6_takeBack.at 4 rfl) (by decide) (fun c6 => absurd ((nI_leI (by omega) (by omega)).mp c6) (by omega)) (fun c6 => ?_)
      refine go_aload_0 (DX6_takeBack.at 5 rfl) ?_
      refine go_getfield (DX6_takeBack.at 6 rfl) fX6_7 q.1 rfl ?_
      refine go_iload_1 (DX6_takeBack.at 7 rfl) ?_
      refine go_aload_0 (DX6_takeBack.at 8 rfl) ?_
      refine go_getfield (DX6_takeBack.at 9 rfl) fX6_13 q.1 rfl ?_
      refine go_iload_1 (DX6_takeBack.at 10 rfl) ?_
      refine go_ialdM (DX6_takeBack.at 11 rfl) (q.2.1 2 (by decide)) (show j < 349 by omega) (by decide) ?_
      rw [rset_n (by decide)]
      refine go_iastM (DX6_takeBack.at 12 rfl) q (a := 1) (by decide) (show j < 349 by omega) (fun h20 q20 => ?_)
      rw [rset_rset, rset_s] at q20
      refine go_iincN_1 (DX6_takeBack.at 13 rfl) ?_
      refine go_goto 2 (DX6_takeBack.at 14 rfl) (by decide) ?_
      exact ih (j + 1) _ _ (by omega) q20 (fun k hk => by
        by_cases e : k = j
        · rw [e, pk_us]
        · rw [pk_un e]
          exact hf k (by omega))
  refine go_iconst (v := nI 0) (DX6_takeBack.at 0 rfl) (by decide) ?_
  refine go_istore_1 (DX6_takeBack.at 1 rfl) ?_
  exact loop 349 0 h (ρ 1) (Nat.zero_add _) (by rw [rset_self]; exact hM) (fun k hk => absurd hk (Nat.not_lt_zero k))

theorem m_changedNo {x : Int32} (hx : x < 0) : Calls E mX6_changed d 0 0 [.ref b, .int x] h (RX x h) := by
  refine Calls.of (ls := [some (.ref b), some (.int x), none]) (by decide +kernel) rfl (Nat.le_of_ble_eq_true rfl) (cat_ok rfl) ?_
  refine go_iload_1 (DX6_changed.at 0 rfl) ?_
  refine go_if_ge 6 (DX6_changed.at 1 rfl) (by decide) (fun c1 => absurd c1 (Int32.not_le.mpr hx)) (fun c1 => ?_)
  refine go_iload_1 (DX6_changed.at 2 rfl) ?_
  exact go_iret (DX6_changed.at 3 rfl) rfl rfl (RX.mk rfl rfl)

theorem m_changedTail {x : Int32} {n : Nat} {Hs : Nat → Ab} {B : Ab} {i0 f0 : Nat → Int32} (hM : MdAt G h b i0 (rset ρ 3 f0)) (hB : RepM B (ρ 2)) (hn : n < 4) (h0 : i0 0 = nI n) (hi : ∀ s, 1 ≤ s → i0 s = i s) (hH : ∀ j, j < n → RepM (Hs j) (fun k => f0 (349 * j + k))) (x2 : Option Value) : Go E mX6_changed d 0 0 55 [some (.ref b), some (.int x), x2] [] h (RI (fun r h' => r = x ∧ ∃ i' f, MdAt G h' b i' (rset ρ 3 f) ∧ i' 0 = nI (n + 1) ∧ (∀ s, 1 ≤ s → i' s = i s) ∧ ∀ j, j < n + 1 → RepM (if j = n then B else Hs j) (fun k => f (349 * j + k)))) := by
  have loop : ∀ (m j : Nat) (h : List va_E) (f : Nat → Int32), j + m = 349 → MdAt G h b i0 (rset ρ 3 f) → (∀ k, k < 349 * n → f k = f0 k) → (∀ k, k < j → f (349 * n + k) = ρ 2 k) → Go E mX6_changed d 0 0 57 [some (.ref b), some (.int (x)), some (.int (nI j))] [] h (RI (fun r h' => r = x ∧ ∃ i' f, MdAt G h' b i' (rset ρ 3 f) ∧ i' 0 = nI (n + 1) ∧ (∀ s, 1 ≤ s → i' s = i s) ∧ ∀ j, j < n + 1 → RepM (if j = n then B else Hs j) (fun k => f (349 * j + k)))) := by
    intro m
    induction m with
    | zero =>
      intro j h f hj q fa fb
      have ej : 349 = j := by omega
      subst ej
      refine go_iload_2 (DX6_changed.at 33 rfl) ?_
      refine go_sipush (v := nI 349) (DX6_changed.at 34 rfl) (by decide) ?_
      refine go_icmp_ge 91 (DX6_changed.at 35 rfl) (by decide) (fun c61 => ?_) (fun c61 => absurd (Int32.le_refl _) c61)
      refine go_aload_0 (DX6_changed.at 51 rfl) ?_
      refine go_dup (DX6_changed.at 52 rfl) rfl ?_
      refine go_getfield (DX6_changed.at 53 rfl) fX6_69 q.1 rfl ?_
      refine go_iconst (v := nI 1) (DX6_changed.at 54 rfl) (by decide) ?_
      refine go_iadd (DX6_changed.at 55 rfl) ?_
      rw [h0, nI_add]
      refine go_putM6 (kf := 3) (s := 0) (DX6_changed.at 56 rfl) fX6_69 (by decide) q (fun h98 q98 => ?_)
      refine go_iload_1 (DX6_changed.at 57 rfl) ?_
      exact go_iret (DX6_changed.at 58 rfl) rfl rfl (RI.mk ⟨rfl, upd i0 0 (nI (n + 1)), f, q98, pk_us, fun s hs => (pk_un (by omega)).trans (hi s hs), fun j hj => by
        by_cases e : j = n
        · rw [if_pos e, e]
          exact hB.congr (fun k hk => fb k hk)
        · rw [if_neg e]
          exact (hH j (by omega)).congr (fun k hk => fa _ (by omega))⟩)
    | succ m ih =>
      intro j h f hj q fa fb
      refine go_iload_2 (DX6_changed.at 33 rfl) ?_
      refine go_sipush (v := nI 349) (DX6_changed.at 34 rfl) (by decide) ?_
      refine go_icmp_ge 91 (DX6_changed.at 35 rfl) (by decide) (fun c61 => absurd ((nI_leI (by omega) (by omega)).mp c61) (by omega)) (fun c61 => ?_)
      refine go_aload_0 (DX6_changed.at 36 rfl) ?_
      refine go_getfield (DX6_changed.at 37 rfl) fX6_16 q.1 rfl ?_
      refine go_aload_0 (DX6_changed.at 38 rfl) ?_
      refine go_getfield (DX6_changed.at 39 rfl) fX6_69 q.1 rfl ?_
      rw [h0]
      refine go_sipush (v := nI 349) (DX6_changed.at 40 rfl) (by decide) ?_
      refine go_imul (DX6_changed.at 41 rfl) ?_
      rw [pk_mul, Nat.mul_comm]
      refine go_iload_2 (DX6_changed.at 42 rfl) ?_
      refine go_iadd (DX6_changed.at 43 rfl) ?_
      rw [nI_add]
      refine go_aload_0 (DX6_changed.at 44 rfl) ?_
      refine go_getfield (DX6_changed.at 45 rfl) fX6_13 q.1 rfl ?_
      refine go_iload_2 (DX6_changed.at 46 rfl) ?_
      refine go_ialdM (DX6_changed.at 47 rfl) (q.2.1 2 (by decide)) (show j < 349 by omega) (by decide) ?_
      rw [rset_n (by decide)]
      refine go_iastM (DX6_changed.at 48 rfl) q (a := 3) (by decide) (show 349 * n + j < 1396 by omega) (fun h84 q84 => ?_)
      rw [rset_rset, rset_s] at q84
      refine go_iincN_2 (DX6_changed.at 49 rfl) ?_
      refine go_goto 57 (DX6_changed.at 50 rfl) (by decide) ?_
      exact ih (j + 1) _ _ (by omega) q84 (fun k hk => by rw [pk_un (by omega)]; exact fa k hk) (fun k hk => by
        by_cases e : k = j
        · rw [e, pk_us]
        · rw [pk_un (by omega)]
          exact fb k (by omega))
  refine go_iconst (v := nI 0) (DX6_changed.at 31 rfl) (by decide) ?_
  refine go_istore_2 (DX6_changed.at 32 rfl) ?_
  exact loop 349 0 h f0 (Nat.zero_add _) hM (fun _ _ => rfl) (fun k hk => absurd hk (Nat.not_lt_zero k))
theorem m_changedYes {x : Int32} {n : Nat} {Hs : Nat → Ab} {B : Ab} (hx : 0 ≤ x) (hM : MdAt G h b i ρ) (hB : RepM B (ρ 2)) (hn : n ≤ 4) (h0 : i 0 = nI n) (hH : ∀ j, j < n → RepM (Hs j) (fun k => ρ 3 (349 * j + k))) : Calls E mX6_changed d 0 0 [.ref b, .int x] h (RI (fun r h' => r = x ∧ ∃ i' f, MdAt G h' b i' (rset ρ 3 f) ∧ i' 0 = nI (recN n) ∧ (∀ s, 1 ≤ s → i' s = i s) ∧ ∀ j, j < recN n → RepM (recA n Hs B j) (fun k => f (349 * j + k)))) := by
  refine Calls.of (ls := [some (.ref b), some (.int x), none]) (by decide +kernel) rfl (Nat.le_of_ble_eq_true rfl) (cat_ok rfl) ?_
  refine go_iload_1 (DX6_changed.at 0 rfl) ?_
  refine go_if_ge 6 (DX6_changed.at 1 rfl) (by decide) (fun c1 => ?_) (fun c1 => absurd hx c1)
  refine go_aload_0 (DX6_changed.at 4 rfl) ?_
  refine go_getfield (DX6_changed.at 5 rfl) fX6_69 hM.1 rfl ?_
  rw [h0]
  refine go_iconst (v := nI 4) (DX6_changed.at 6 rfl) (by decide) ?_
  refine go_icmp_ne 55 (DX6_changed.at 7 rfl) (by decide) (fun c11 => ?_) (fun c11 => ?_)
  · rw [nI_eq (by omega) (by decide)] at c11
    refine Go.weaken (m_changedTail (n := n) (Hs := Hs) (f0 := ρ 3) (by rw [rset_self]; exact hM) hB (by omega) h0 (fun _ _ => rfl) hH _) ?_
    rintro r h1 ⟨y, rfl, rfl, i', f', g1, g2, g3, g4⟩
    rw [show recN n = n + 1 from if_pos (by omega)]
    refine RI.mk ⟨rfl, i', f', g1, g2, g3, fun j hj => ?_⟩
    have g5 := g4 j hj
    unfold recA
    rw [show (if n < 4 then n else 3) = n from if_pos (by omega)]
    by_cases e : j = n
    · rw [if_pos e] at g5 ⊢
      exact g5
    · rw [if_neg e] at g5 ⊢
      rw [if_pos (by omega)]
      exact g5
  · rw [nI_eq (by omega) (by decide)] at c11
    subst c11
    refine go_iconst (v := nI 0) (DX6_changed.at 8 rfl) (by decide) ?_
    refine go_istore_2 (DX6_changed.at 9 rfl) ?_
    have loop : ∀ (m j : Nat) (h : List va_E) (f : Nat → Int32), j + m = 1047 → MdAt G h b i (rset ρ 3 f) → (∀ k, k < j → f k = ρ 3 (k + 349)) → (∀ k, j ≤ k → f k = ρ 3 k) → Go E mX6_changed d 0 0 16 [some (.ref b), some (.int (x)), some (.int (nI j))] [] h (RI (fun r h' => r = x ∧ ∃ i' f, MdAt G h' b i' (rset ρ 3 f) ∧ i' 0 = nI (recN 4) ∧ (∀ s, 1 ≤ s → i' s = i s) ∧ ∀ j, j < recN 4 → RepM (recA 4 Hs B j) (fun k => f (349 * j + k)))) := by
      intro m
      induction m with
      | zero =>
        intro j h f hj q fa fb
        have ej : 1047 = j := by omega
        subst ej
        refine go_iload_2 (DX6_changed.at 10 rfl) ?_
        refine go_sipush (v := nI 1047) (DX6_changed.at 11 rfl) (by decide) ?_
        refine go_icmp_ge 45 (DX6_changed.at 12 rfl) (by decide) (fun c20 => ?_) (fun c20 => absurd (Int32.le_refl _) c20)
        refine go_aload_0 (DX6_changed.at 25 rfl) ?_
        refine go_dup (DX6_changed.at 26 rfl) rfl ?_
        refine go_getfield (DX6_changed.at 27 rfl) fX6_69 q.1 rfl ?_
        refine go_iconst (v := nI 1) (DX6_changed.at 28 rfl) (by decide) ?_
        refine go_isub (DX6_changed.at 29 rfl) ?_
        rw [h0, pk_sub (by omega)]
        refine go_putM6 (kf := 3) (s := 0) (DX6_changed.at 30 rfl) fX6_69 (by decide) q (fun h52 q52 => ?_)
        refine Go.weaken (m_changedTail (n := 3) (Hs := fun j => Hs (j + 1)) q52 hB (by omega) pk_us (fun s hs => pk_un (by omega)) (fun j hj => ?_) _) ?_
        · refine (hH (j + 1) (by omega)).congr (fun k hk => ?_)
          rw [fa _ (by omega)]
          congr 1
          omega
        · rintro r h1 ⟨y, rfl, rfl, i', f', g1, g2, g3, g4⟩
          refine RI.mk ⟨rfl, i', f', g1, g2, g3, fun j hj => ?_⟩
          have g5 := g4 j hj
          unfold recA
          exact g5
      | succ m ih =>
        intro j h f hj q fa fb
        refine go_iload_2 (DX6_changed.at 10 rfl) ?_
        refine go_sipush (v := nI 1047) (DX6_changed.at 11 rfl) (by decide) ?_
        refine go_icmp_ge 45 (DX6_changed.at 12 rfl) (by decide) (fun c20 => absurd ((nI_leI (by omega) (by omega)).mp c20) (by omega)) (fun c20 => ?_)
        refine go_aload_0 (DX6_changed.at 13 rfl) ?_
        refine go_getfield (DX6_changed.at 14 rfl) fX6_16 q.1 rfl ?_
        refine go_iload_2 (DX6_changed.at 15 rfl) ?_
        refine go_aload_0 (DX6_changed.at 16 rfl) ?_
        refine go_getfield (DX6_changed.at 17 rfl) fX6_16 q.1 rfl ?_
        refine go_iload_2 (DX6_changed.at 18 rfl) ?_
        refine go_sipush (v := nI 349) (DX6_changed.at 19 rfl) (by decide) ?_
        refine go_iadd (DX6_changed.at 20 rfl) ?_
        rw [nI_add]
        refine go_ialdM (DX6_changed.at 21 rfl) (q.2.1 3 (by decide)) (show j + 349 < 1396 by omega) (by decide) ?_
        rw [rset_s, fb _ (by omega)]
        refine go_iastM (DX6_changed.at 22 rfl) q (a := 3) (by decide) (show j < 1396 by omega) (fun h38 q38 => ?_)
        rw [rset_rset, rset_s] at q38
        refine go_iincN_2 (DX6_changed.at 23 rfl) ?_
        refine go_goto 16 (DX6_changed.at 24 rfl) (by decide) ?_
        exact ih (j + 1) _ _ (by omega) q38 (fun k hk => by
          by_cases e : k = j
          · rw [e, pk_us]
          · rw [pk_un e]
            exact fa k (by omega)) (fun k hk => by rw [pk_un (by omega)]; exact fb k (by omega))
    exact loop 1047 0 h (ρ 3) (Nat.zero_add _) (by rw [rset_self]; exact hM) (fun k hk => absurd hk (Nat.not_lt_zero k)) (fun _ _ => rfl)

/-- behind a change: recorded or not -/
theorem m_changedZ {Z : Zt} {R : Int32 × Ab} (hM : MdAt G h b i ρ) (hTb : MTb ρ) (hB : RepM (zA Z) (ρ 2)) (hZ : MRest Z i ρ) (hR : RepM R.2 (ρ 1)) (hN : NG R (zA Z)) : Calls E mX6_changed d 0 0 [.ref b, .int R.1] h (RI (fun r h' => r = (chZ Z R).1 ∧ MZ G (chZ Z R).2 h' b)) := by
  by_cases hneg : R.1 < 0
  · refine (m_changedNo hneg).weaken ?_
    rintro r h1 ⟨rfl, rfl⟩
    rw [chZ_no hneg]
    have e := hN hneg
    rw [e] at hR
    exact RI.mk ⟨rfl, i, ρ, ⟨hM, hTb, hR⟩, hZ⟩
  · refine (m_changedYes (Int32.not_lt.mp hneg) hM hB hZ.2.1 hZ.1 hZ.2.2.1).weaken ?_
    rintro r h1 ⟨y, rfl, rfl, i', f, g1, g2, g3, g4⟩
    rw [chZ_yes hneg]
    obtain ⟨a, b, c, d, e, f', g, k⟩ := hZ
    refine RI.mk ⟨rfl, i', _, ⟨g1, hTb, hR⟩, g2, ?_, g4, (g3 1 (by decide)).trans d, e, f', (g3 2 (by decide)).trans g, k⟩
    show recN (zn Z) ≤ 4
    unfold recN
    split <;> omega

end M6
