/-! THE MODEL: sets that are fatal -/
theorem chB_step {x y : Nat} {l : List Nat} (h : chB (x :: y :: l) = true) : (¬ (nI x &&& -nI x) = 0 ∧ gI (nI x) = nI y) ∧ chB (y :: l) = true := by
  have h2 : (decide (¬ (nI x &&& -nI x) = 0 ∧ gI (nI x) = nI y) && chB (y :: l)) = true := h
  rw [Bool.and_eq_true] at h2
  exact ⟨of_decide_eq_true h2.1, h2.2⟩
/-- NONE for 0 -/
def lsI (v : Nat) : Int32 := if v = 0 then -5 else nI v
noncomputable def ntA (A : Ab) (p : Nat × Nat) (M : Nat) : Nat × Nat := ntF (colv (aG A) (aS A)) (aG A) (aS A) (aH A) (aT A) p M
theorem ntA_t {A : Ab} {p : Nat × Nat} {M : Nat} (h : ¬ IndP (colv (aG A) (aS A)) M (nc (aG A) (aS A))) : ntA A p M = (p.1 + 1, nt1 (fun t => ndv (aG A) (aS A) (aH A) t M) (aT A) p.2) := by
  unfold ntA ntF
  rw [depB_t h]
  rfl
theorem ntA_f {A : Ab} {p : Nat × Nat} {M : Nat} (h : IndP (colv (aG A) (aS A)) M (nc (aG A) (aS A))) : ntA A p M = p := by
  unfold ntA ntF
  rw [depB_f h]
  rfl
theorem aRun_cx {A : Ab} {w : Nat} (hA : AOK A) (h1 : 1 ≤ w) (h4 : w ≤ 4) : aRun A w = (cx (nc (aG A) (aS A)) w).foldl (ntA A) (0, 0) := frun_cx (by have := hA.1.nc; omega) h1 h4
theorem fold_2 {A : Ab} (hA : AOK A) : ∀ (l : List Nat) (p : Nat × Nat), (∀ x, x ∈ l → ∀ t, ndv (aG A) (aS A) (aH A) t x ≠ 0) → (p.1 ≠ 0 → p.2 ≠ 0) → (l.foldl (ntA A) p).1 ≠ 0 → (l.foldl (ntA A) p).2 ≠ 0
  | [], _, _, hp, h => hp h
  | a :: l, p, hl, hp, h => by
    refine fold_2 hA l (ntA A p a) (fun x hx => hl x (List.mem_cons_of_mem _ hx)) (fun hq => ?_) h
    by_cases q : IndP (colv (aG A) (aS A)) a (nc (aG A) (aS A))
    · rw [ntA_f q] at hq ⊢
      exact hp hq
    · rw [ntA_t q]
      have hT : 1 ≤ aT A := hA.1.2.2.2.2.2.1
      have key : ∀ t, 1 ≤ t → nt1 (fun t => ndv (aG A) (aS A) (aH A) t a) t p.2 ≠ 0 := by
        intro t
        induction t with
        | zero => intro h; omega
        | succ t ih =>
          intro _
          show (if nt1 _ t p.2 = 0 ∨ ndv (aG A) (aS A) (aH A) t a < nt1 _ t p.2 then ndv (aG A) (aS A) (aH A) t a else nt1 _ t p.2) ≠ 0
          split
          · exact hl a List.mem_cons_self t
          · rename_i w
            exact fun e => w (Or.inl e)
      exact key (aT A) hT
theorem fold_0 {A : Ab} : ∀ (l : List Nat) (p : Nat × Nat), (l.foldl (ntA A) p).1 = 0 → (l.foldl (ntA A) p).2 = p.2
  | [], _, _ => rfl
  | a :: l, p, h => by
    have h2 := fold_0 l (ntA A p a) h
    have h3 : (List.foldl (ntA A) (ntA A p a) l).1 = 0 := h
    rw [show List.foldl (ntA A) p (a :: l) = List.foldl (ntA A) (ntA A p a) l from rfl, h2]
    by_cases q : IndP (colv (aG A) (aS A)) a (nc (aG A) (aS A))
    · rw [ntA_f q]
    · exfalso
      rw [ntA_t q] at h3
      have mono : ∀ (l : List Nat) (p : Nat × Nat), p.1 ≤ (l.foldl (ntA A) p).1 := by
        intro l
        induction l with
        | nil => exact fun p => Nat.le_refl _
        | cons b l ih =>
          intro p
          refine Nat.le_trans ?_ (ih (ntA A p b))
          by_cases q : IndP (colv (aG A) (aS A)) b (nc (aG A) (aS A))
          · rw [ntA_f q]
            exact Nat.le_refl _
          · rw [ntA_t q]
            exact Nat.le_succ _
      have := mono l (p.1 + 1, nt1 (fun t => ndv (aG A) (aS A) (aH A) t a) (aT A) p.2)
      dsimp only at this
      omega
section M6
variable {E : AEnv} {d : Nat} {h h' : List va_E} {b : Nat} {i : Nat → Int32} {ρ : Nat → Nat → Int32} {A : Ab} {G : Nat → Option va_E}
theorem m_nextSet {x : Int32} (h0 : ¬ (x &&& -x) = 0) : Calls E mX6_nextSet d 0 0 [.int x] h (RX (gI x) h) := by
  refine Calls.of (ls := [some (.int x), none, none]) (by decide +kernel) rfl (Nat.le_of_ble_eq_true rfl) (cat_ok rfl) ?_
  refine go_iload_0 (DX6_nextSet.at 0 rfl) ?_
  refine go_iload_0 (DX6_nextSet.at 1 rfl) ?_
  refine go_ineg (DX6_nextSet.at 2 rfl) ?_
  refine go_iand (DX6_nextSet.at 3 rfl) ?_
  refine go_istore_1 (DX6_nextSet.at 4 rfl) ?_
  refine go_iload_0 (DX6_nextSet.at 5 rfl) ?_
  refine go_iload_1 (DX6_nextSet.at 6 rfl) ?_
  refine go_iadd (DX6_nextSet.at 7 rfl) ?_
  refine go_istore_2 (DX6_nextSet.at 8 rfl) ?_
  refine go_iload_2 (DX6_nextSet.at 9 rfl) ?_
  refine go_iload_0 (DX6_nextSet.at 10 rfl) ?_
  refine go_ixor (DX6_nextSet.at 11 rfl) ?_
  refine go_iload_1 (DX6_nextSet.at 12 rfl) ?_
  refine go_idiv (DX6_nextSet.at 13 rfl) h0 ?_
  refine go_iconst (v := nI 2) (DX6_nextSet.at 14 rfl) (by decide) ?_
  refine go_ishr (DX6_nextSet.at 15 rfl) ?_
  refine go_iload_2 (DX6_nextSet.at 16 rfl) ?_
  refine go_ior (DX6_nextSet.at 17 rfl) ?_
  exact go_iret (DX6_nextSet.at 18 rfl) rfl rfl (RX.mk rfl rfl)
theorem m_fatalLoop {h0 : List va_E} {x : Int32} {y : Nat} {r : List Nat} (hX : MX G h0 b i ρ A) (hy1 : 2 ^ (nc (aG A) (aS A)) ≤ y) (hy2 : y < 2 ^ 21) (hd : 7 ≤ d) : ∀ (l : List Nat) (p : Nat × Nat) (z : Nat) (h : List va_E) (f : Nat → Int32), MdAt G h b i (rset ρ 10 f) → chB (l ++ y :: r) = true → (l ++ y :: r).head? = some z → (∀ x, x ∈ l → x < 2 ^ (nc (aG A) (aS A))) → Go E mX6_fatalSets d 0 0 20 [some (.ref b), some (.int (x)), some (.int (nI p.1)), some (.int (nI z))] [] h (RI (fun r h' => (∃ f, MdAt G h' b i (rset ρ 10 f)) ∧ r = nI (l.foldl (ntA A) p).1)) := by
  have hM := hX.1
  have hTb := hX.2.1
  have hR := hX.2.2
  have hA := hR.1
  have hn := hA.1.nc
  have hT8 : aT A ≤ 8 := hA.1.2.2.2.2.2.2.1
  have hg4 : aG A ≤ 4 := hA.1.2.1
  have hs6 : aS A ≤ 6 := hA.1.2.2.2.1
  have hs2 : 2 ≤ aS A := hA.1.2.2.1
  have hg1 : 1 ≤ aG A := hA.1.1
  have hgs : aG A * aS A ≤ 15 := hA.1.2.2.2.2.1
  have hH5 : aH A ≤ 5 := hA.1.2.2.2.2.2.2.2
  have en : nc (aG A) (aS A) = aG A * aS A + aG A + 2 := rfl
  have hp20 := p20 hn.2
  intro l
  induction l with
  | nil =>
    intro p z h f q hch hz hl
    have ez : y = z := Option.some.inj hz
    subst ez
    refine go_iload_3 (DX6_fatalSets.at 15 rfl) ?_
    refine go_iconst (v := nI 1) (DX6_fatalSets.at 16 rfl) (by decide) ?_
    refine go_aload_0 (DX6_fatalSets.at 17 rfl) ?_
    refine go_cVx0 (DX6_fatalSets.at 18 rfl) nX6_59 vX6_cells (by omega) (m_cells (hX.row10 q) (by omega)) q.1 rfl (Nat.le_of_ble_eq_true rfl) ?_
    refine go_ishl (DX6_fatalSets.at 19 rfl) ?_
    rw [nx_shlW 1 (by omega), Nat.one_mul]
    refine go_icmp_ge 54 (DX6_fatalSets.at 20 rfl) (by decide) (fun c27 => ?_) (fun c27 => absurd (nI_le hy1 (by omega)) c27)
    refine go_iload_2 (DX6_fatalSets.at 35 rfl) ?_
    exact go_iret (DX6_fatalSets.at 36 rfl) rfl rfl (RI.mk ⟨⟨f, q⟩, rfl⟩)
  | cons a l ih =>
    intro p z h f q hch hz hl
    have ez : a = z := Option.some.inj hz
    subst ez
    have han := hl a List.mem_cons_self
    obtain ⟨z2, hz2⟩ : ∃ z2, (l ++ y :: r).head? = some z2 := by
      cases l with
      | nil => exact ⟨y, rfl⟩
      | cons c l => exact ⟨c, rfl⟩
    obtain ⟨l3, hl3⟩ : ∃ l3, l ++ y :: r = z2 :: l3 := by
      cases hq : l ++ y :: r with
      | nil => rw [hq] at hz2; cases hz2
      | cons c l3 =>
        rw [hq] at hz2
        cases hz2
        exact ⟨l3, rfl⟩
    have hch2 : chB (a :: (l ++ y :: r)) = true := hch
    rw [hl3] at hch2
    obtain ⟨⟨g1, g2⟩, g3⟩ := chB_step hch2
    rw [← hl3] at g3
    refine go_iload_3 (DX6_fatalSets.at 15 rfl) ?_
    refine go_iconst (v := nI 1) (DX6_fatalSets.at 16 rfl) (by decide) ?_
    refine go_aload_0 (DX6_fatalSets.at 17 rfl) ?_
    refine go_cVx0 (DX6_fatalSets.at 18 rfl) nX6_59 vX6_cells (by omega) (m_cells (hX.row10 q) (by omega)) q.1 rfl (Nat.le_of_ble_eq_true rfl) ?_
    refine go_ishl (DX6_fatalSets.at 19 rfl) ?_
    rw [nx_shlW 1 (by omega), Nat.one_mul]
    refine go_icmp_ge 54 (DX6_fatalSets.at 20 rfl) (by decide) (fun c27 => absurd ((nI_leI (by omega) (by omega)).mp c27) (by omega)) (fun c27 => ?_)
    refine go_iload_2 (DX6_fatalSets.at 21 rfl) ?_
    refine go_aload_0 (DX6_fatalSets.at 22 rfl) ?_
    refine go_iload_3 (DX6_fatalSets.at 23 rfl) ?_
    refine go_cVi1 (DX6_fatalSets.at 24 rfl) nX6_222 vX6_isSurvived (by omega) (m_isSurvived han (hX.row10 q) (by omega)) q.1 rfl (Nat.le_of_ble_eq_true rfl) (fun x33 h33 q33 => ?_)
    obtain ⟨f2, q33, e33⟩ := q33
    rw [rset_rset] at q33
    subst e33
    refine go_if_eq 43 (DX6_fatalSets.at 25 rfl) (by decide) (fun c36 => ?_) (fun c36 => ?_)
    · rw [bP_eq0] at c36
      have e0 : ntA A p a = (p.1 + 1, _) := ntA_t c36
      refine go_iconst (v := nI 1) (DX6_fatalSets.at 28 rfl) (by decide) ?_
      refine go_iadd (DX6_fatalSets.at 29 rfl) ?_
      rw [nI_add, show p.1 + 1 = (ntA A p a).1 by rw [e0]]
      refine go_istore_2 (DX6_fatalSets.at 30 rfl) ?_
      refine go_iload_3 (DX6_fatalSets.at 31 rfl) ?_
      refine go_cSx1 (DX6_fatalSets.at 32 rfl) nX6_225 vX6_nextSet (by omega) (m_nextSet g1) (Nat.le_of_ble_eq_true rfl) ?_
      rw [g2]
      refine go_istore_3 (DX6_fatalSets.at 33 rfl) ?_
      refine go_goto 20 (DX6_fatalSets.at 34 rfl) (by decide) ?_
      exact ih (ntA A p a) z2 h33 f2 q33 g3 hz2 (fun x hx => hl x (List.mem_cons_of_mem _ hx))
    · rw [bP_eq0, Classical.not_not] at c36
      have e0 : ntA A p a = p := ntA_f c36
      refine go_iconst (v := nI 0) (DX6_fatalSets.at 26 rfl) (by decide) ?_
      refine go_goto 44 (DX6_fatalSets.at 27 rfl) (by decide) ?_
      refine go_iadd (DX6_fatalSets.at 29 rfl) ?_
      rw [nI_add, show p.1 + 0 = (ntA A p a).1 by rw [e0, Nat.add_zero]]
      refine go_istore_2 (DX6_fatalSets.at 30 rfl) ?_
      refine go_iload_3 (DX6_fatalSets.at 31 rfl) ?_
      refine go_cSx1 (DX6_fatalSets.at 32 rfl) nX6_225 vX6_nextSet (by omega) (m_nextSet g1) (Nat.le_of_ble_eq_true rfl) ?_
      rw [g2]
      refine go_istore_3 (DX6_fatalSets.at 33 rfl) ?_
      refine go_goto 20 (DX6_fatalSets.at 34 rfl) (by decide) ?_
      exact ih (ntA A p a) z2 h33 f2 q33 g3 hz2 (fun x hx => hl x (List.mem_cons_of_mem _ hx))
theorem m_leastLoop {h0 : List va_E} {w y : Nat} {r : List Nat} (hX : MX G h0 b i ρ A) (hy1 : 2 ^ (nc (aG A) (aS A)) ≤ y) (hy2 : y < 2 ^ 21) (hd : 7 ≤ d) : ∀ (l : List Nat) (p : Nat × Nat) (z : Nat) (h : List va_E) (f : Nat → Int32) (x4 x5 x6 : Option Value), MdAt G h b i (rset ρ 10 f) → chB (l ++ y :: r) = true → (l ++ y :: r).head? = some z → (∀ x, x ∈ l → x < 2 ^ (nc (aG A) (aS A))) → (∀ x, x ∈ l → ∀ t, ndv (aG A) (aS A) (aH A) t x ≠ 0) → p.2 < 2 ^ 20 → Go E mX6_leastNodes d 0 0 9 [some (.ref b), some (.int (nI w)), some (.int (lsI p.2)), some (.int (nI z)), x4, x5, x6] [] h (RI (fun r h' => (∃ f, MdAt G h' b i (rset ρ 10 f)) ∧ r = lsI (l.foldl (ntA A) p).2)) := by
  have hM := hX.1
  have hTb := hX.2.1
  have hR := hX.2.2
  have hA := hR.1
  have hn := hA.1.nc
  have hT8 : aT A ≤ 8 := hA.1.2.2.2.2.2.2.1
  have hg4 : aG A ≤ 4 := hA.1.2.1
  have hs6 : aS A ≤ 6 := hA.1.2.2.2.1
  have hs2 : 2 ≤ aS A := hA.1.2.2.1
  have hg1 : 1 ≤ aG A := hA.1.1
  have hgs : aG A * aS A ≤ 15 := hA.1.2.2.2.2.1
  have hH5 : aH A ≤ 5 := hA.1.2.2.2.2.2.2.2
  have en : nc (aG A) (aS A) = aG A * aS A + aG A + 2 := rfl
  have hp20 := p20 hn.2
  intro l
  induction l with
  | nil =>
    intro p z h f x4 x5 x6 q hch hz hl hln hp2
    have ez : y = z := Option.some.inj hz
    subst ez
    refine go_iload_3 (DX6_leastNodes.at 8 rfl) ?_
    refine go_iconst (v := nI 1) (DX6_leastNodes.at 9 rfl) (by decide) ?_
    refine go_aload_0 (DX6_leastNodes.at 10 rfl) ?_
    refine go_cVx0 (DX6_leastNodes.at 11 rfl) nX6_59 vX6_cells (by omega) (m_cells (hX.row10 q) (by omega)) q.1 rfl (Nat.le_of_ble_eq_true rfl) ?_
    refine go_ishl (DX6_leastNodes.at 12 rfl) ?_
    rw [nx_shlW 1 (by omega), Nat.one_mul]
    refine go_icmp_ge 95 (DX6_leastNodes.at 13 rfl) (by decide) (fun c16 => ?_) (fun c16 => absurd (nI_le hy1 (by omega)) c16)
    refine go_iload_2 (DX6_leastNodes.at 53 rfl) ?_
    exact go_iret (DX6_leastNodes.at 54 rfl) rfl rfl (RI.mk ⟨⟨f, q⟩, rfl⟩)
  | cons a l ih =>
    intro p z h f x4 x5 x6 q hch hz hl hln hp2
    show Go E mX6_leastNodes d 0 0 9 _ [] h (RI (fun r h' => (∃ f, MdAt G h' b i (rset ρ 10 f)) ∧ r = lsI (l.foldl (ntA A) (ntA A p a)).2))
    have ez : a = z := Option.some.inj hz
    subst ez
    have han := hl a List.mem_cons_self
    obtain ⟨z2, hz2⟩ : ∃ z2, (l ++ y :: r).head? = some z2 := by
      cases l with
      | nil => exact ⟨y, rfl⟩
      | cons c l => exact ⟨c, rfl⟩
    obtain ⟨l3, hl3⟩ : ∃ l3, l ++ y :: r = z2 :: l3 := by
      cases hq : l ++ y :: r with
      | nil => rw [hq] at hz2; cases hz2
      | cons c l3 =>
        rw [hq] at hz2
        cases hz2
        exact ⟨l3, rfl⟩
    have hch2 : chB (a :: (l ++ y :: r)) = true := hch
    rw [hl3] at hch2
    obtain ⟨⟨g1, g2⟩, g3⟩ := chB_step hch2
    rw [← hl3] at g3
    have hnz : ∀ t, ndv (aG A) (aS A) (aH A) t a ≠ 0 := hln a List.mem_cons_self
    refine go_iload_3 (DX6_leastNodes.at 8 rfl) ?_
    refine go_iconst (v := nI 1) (DX6_leastNodes.at 9 rfl) (by decide) ?_
    refine go_aload_0 (DX6_leastNodes.at 10 rfl) ?_
    refine go_cVx0 (DX6_leastNodes.at 11 rfl) nX6_59 vX6_cells (by omega) (m_cells (hX.row10 q) (by omega)) q.1 rfl (Nat.le_of_ble_eq_true rfl) ?_
    refine go_ishl (DX6_leastNodes.at 12 rfl) ?_
    rw [nx_shlW 1 (by omega), Nat.one_mul]
    refine go_icmp_ge 95 (DX6_leastNodes.at 13 rfl) (by decide) (fun c16 => absurd ((nI_leI (by omega) (by omega)).mp c16) (by omega)) (fun c16 => ?_)
    refine go_aload_0 (DX6_leastNodes.at 14 rfl) ?_
    refine go_iload_3 (DX6_leastNodes.at 15 rfl) ?_
    refine go_cVi1 (DX6_leastNodes.at 16 rfl) nX6_222 vX6_isSurvived (by omega) (m_isSurvived han (hX.row10 q) (by omega)) q.1 rfl (Nat.le_of_ble_eq_true rfl) (fun x21 h21 q21 => ?_)
    obtain ⟨f2, q21, e21⟩ := q21
    rw [rset_rset] at q21
    subst e21
    refine go_if_ne 31 (DX6_leastNodes.at 17 rfl) (by decide) (fun c24 => ?_) (fun c24 => ?_)
    · rw [bP_eq0, Classical.not_not] at c24
      have e0 : ntA A p a = p := ntA_f c24
      refine go_iconst (v := nI 0) (DX6_leastNodes.at 20 rfl) (by decide) ?_
      refine go_istore_4 (DX6_leastNodes.at 21 rfl) ?_
      refine go_iconst (v := nI 0) (DX6_leastNodes.at 22 rfl) (by decide) ?_
      refine go_istore_5 (DX6_leastNodes.at 23 rfl) ?_
      show Go E mX6_leastNodes d 0 0 37 _ [] h21 (RI (fun r h' => (∃ f, MdAt G h' b i (rset ρ 10 f)) ∧ r = lsI (l.foldl (ntA A) (ntA A p a)).2))
      refine go_iload_5 (DX6_leastNodes.at 24 rfl) ?_
      refine go_aload_0 (DX6_leastNodes.at 25 rfl) ?_
      refine go_getfield (DX6_leastNodes.at 26 rfl) fX6_7 q21.1 rfl ?_
      refine go_iconst (v := nI 2) (DX6_leastNodes.at 27 rfl) (by decide) ?_
      refine go_ialdM (DX6_leastNodes.at 28 rfl) (q21.2.1 1 (by decide)) (show 2 < 349 by decide) (by decide) ?_
      rw [show rset ρ 10 f2 1 2 = nI (aT A) from hR.2.1.2.2.1]
      refine go_icmp_ge 87 (DX6_leastNodes.at 29 rfl) (by decide) (fun c45 => absurd ((nI_leI (by omega) (by omega)).mp c45) (by have := hA.1.2.2.2.2.2.1; omega)) (fun c45 => ?_)
      refine go_iload_4 (DX6_leastNodes.at 30 rfl) ?_
      refine go_if_eq 87 (DX6_leastNodes.at 31 rfl) (by decide) (fun c50 => ?_) (fun c50 => absurd rfl c50)
      refine go_iload_3 (DX6_leastNodes.at 49 rfl) ?_
      refine go_cSx1 (DX6_leastNodes.at 50 rfl) nX6_225 vX6_nextSet (by omega) (m_nextSet g1) (Nat.le_of_ble_eq_true rfl) ?_
      rw [g2]
      refine go_istore_3 (DX6_leastNodes.at 51 rfl) ?_
      refine go_goto 9 (DX6_leastNodes.at 52 rfl) (by decide) ?_
      have K := ih (ntA A p a) z2 h21 f2 (some (.int (nI 0))) (some (.int (nI 0))) x6 q21 g3 hz2 (fun x hx => hl x (List.mem_cons_of_mem _ hx)) (fun x hx => hln x (List.mem_cons_of_mem _ hx)) (by rw [e0]; exact hp2)
      rw [show (ntA A p a).2 = p.2 by rw [e0]] at K
      exact K
    · rw [bP_eq0] at c24
      have e0 : ntA A p a = (p.1 + 1, _) := ntA_t c24
      refine go_iconst (v := nI 1) (DX6_leastNodes.at 18 rfl) (by decide) ?_
      refine go_goto 32 (DX6_leastNodes.at 19 rfl) (by decide) ?_
      refine go_istore_4 (DX6_leastNodes.at 21 rfl) ?_
      refine go_iconst (v := nI 0) (DX6_leastNodes.at 22 rfl) (by decide) ?_
      refine go_istore_5 (DX6_leastNodes.at 23 rfl) ?_
      have tl : ∀ (mm j : Nat) (x6 : Option Value), j + mm = aT A → Go E mX6_leastNodes d 0 0 37 [some (.ref b), some (.int (nI w)), some (.int (lsI (nt1 (fun t => ndv (aG A) (aS A) (aH A) t a) j p.2))), some (.int (nI a)), some (.int (nI 1)), some (.int (nI j)), x6] [] h21 (RI (fun r h' => (∃ f, MdAt G h' b i (rset ρ 10 f)) ∧ r = lsI (l.foldl (ntA A) (ntA A p a)).2)) := by
        intro mm
        induction mm with
        | zero =>
          intro j x6 hj
          have ej : aT A = j := by omega
          subst ej
          refine go_iload_5 (DX6_leastNodes.at 24 rfl) ?_
          refine go_aload_0 (DX6_leastNodes.at 25 rfl) ?_
          refine go_getfield (DX6_leastNodes.at 26 rfl) fX6_7 q21.1 rfl ?_
          refine go_iconst (v := nI 2) (DX6_leastNodes.at 27 rfl) (by decide) ?_
          refine go_ialdM (DX6_leastNodes.at 28 rfl) (q21.2.1 1 (by decide)) (show 2 < 349 by decide) (by decide) ?_
          rw [show rset ρ 10 f2 1 2 = nI (aT A) from hR.2.1.2.2.1]
          refine go_icmp_ge 87 (DX6_leastNodes.at 29 rfl) (by decide) (fun c45 => ?_) (fun c45 => absurd (Int32.le_refl _) c45)
          refine go_iload_3 (DX6_leastNodes.at 49 rfl) ?_
          refine go_cSx1 (DX6_leastNodes.at 50 rfl) nX6_225 vX6_nextSet (by omega) (m_nextSet g1) (Nat.le_of_ble_eq_true rfl) ?_
          rw [g2]
          refine go_istore_3 (DX6_leastNodes.at 51 rfl) ?_
          refine go_goto 9 (DX6_leastNodes.at 52 rfl) (by decide) ?_
          have K := ih (ntA A p a) z2 h21 f2 (some (.int (nI 1))) (some (.int (nI (aT A)))) x6 q21 g3 hz2 (fun x hx => hl x (List.mem_cons_of_mem _ hx)) (fun x hx => hln x (List.mem_cons_of_mem _ hx)) (by rw [e0]; exact nt1_lt (fun t => ndv_lt hn.2) _ hp2)
          rw [show (ntA A p a).2 = nt1 (fun t => ndv (aG A) (aS A) (aH A) t a) (aT A) p.2 by rw [e0]] at K
          exact K
        | succ mm ihT =>
          intro j x6 hj
          have hvj : nt1 (fun t => ndv (aG A) (aS A) (aH A) t a) j p.2 < 2 ^ 31 := Nat.lt_trans (nt1_lt (fun t => ndv_lt hn.2) j hp2) (by decide)
          have hnv : ndv (aG A) (aS A) (aH A) j a < 2 ^ 20 := ndv_lt hn.2
          refine go_iload_5 (DX6_leastNodes.at 24 rfl) ?_
          refine go_aload_0 (DX6_leastNodes.at 25 rfl) ?_
          refine go_getfield (DX6_leastNodes.at 26 rfl) fX6_7 q21.1 rfl ?_
          refine go_iconst (v := nI 2) (DX6_leastNodes.at 27 rfl) (by decide) ?_
          refine go_ialdM (DX6_leastNodes.at 28 rfl) (q21.2.1 1 (by decide)) (show 2 < 349 by decide) (by decide) ?_
          rw [show rset ρ 10 f2 1 2 = nI (aT A) from hR.2.1.2.2.1]
          refine go_icmp_ge 87 (DX6_leastNodes.at 29 rfl) (by decide) (fun c45 => absurd ((nI_leI (by omega) (by omega)).mp c45) (by omega)) (fun c45 => ?_)
          refine go_iload_4 (DX6_leastNodes.at 30 rfl) ?_
          refine go_if_eq 87 (DX6_leastNodes.at 31 rfl) (by decide) (fun c50 => absurd c50 (by decide)) (fun c50 => ?_)
          refine go_aload_0 (DX6_leastNodes.at 32 rfl) ?_
          refine go_iload_3 (DX6_leastNodes.at 33 rfl) ?_
          refine go_iload_5 (DX6_leastNodes.at 34 rfl) ?_
          refine go_cVx2 (DX6_leastNodes.at 35 rfl) nX6_228 vX6_nodesOf (by omega) (m_nodesOf (show j < 8 by omega) (show a < 2 ^ 20 by omega) (hX.row10 q21) (by omega)) q21.1 rfl (Nat.le_of_ble_eq_true rfl) ?_
          rw [ndS_ndv (by omega) han]
          refine go_istore_6 (DX6_leastNodes.at 36 rfl) ?_
          refine go_iload_2 (DX6_leastNodes.at 37 rfl) ?_
          refine go_bipush (v := (-5)) (DX6_leastNodes.at 38 rfl) (by decide) ?_
          refine go_icmp_eq 74 (DX6_leastNodes.at 39 rfl) (by decide) (fun c65 => ?_) (fun c65 => ?_)
          · have v0 : nt1 (fun t => ndv (aG A) (aS A) (aH A) t a) j p.2 = 0 := Classical.byContradiction (fun w => nI_m5 hvj ((show lsI (nt1 (fun t => ndv (aG A) (aS A) (aH A) t a) j p.2) = nI (nt1 (fun t => ndv (aG A) (aS A) (aH A) t a) j p.2) from if_neg w).symm.trans c65))
            have ev : nt1 (fun t => ndv (aG A) (aS A) (aH A) t a) (j + 1) p.2 = ndv (aG A) (aS A) (aH A) j a := if_pos (Or.inl v0)
            refine go_iload_6 (DX6_leastNodes.at 43 rfl) ?_
            refine go_goto 80 (DX6_leastNodes.at 44 rfl) (by decide) ?_
            refine go_istore_2 (DX6_leastNodes.at 46 rfl) ?_
            refine go_iincN_5 (DX6_leastNodes.at 47 rfl) ?_
            refine go_goto 37 (DX6_leastNodes.at 48 rfl) (by decide) ?_
            have K := ihT (j + 1) (some (.int (nI (ndv (aG A) (aS A) (aH A) j a)))) (by omega)
            first
              | (rw [show nt1 (fun t => ndv (aG A) (aS A) (aH A) t a) (j + 1) p.2 = nt1 (fun t => ndv (aG A) (aS A) (aH A) t a) j p.2 from ev, show lsI (nt1 (fun t => ndv (aG A) (aS A) (aH A) t a) j p.2) = nI (nt1 (fun t => ndv (aG A) (aS A) (aH A) t a) j p.2) from if_neg v0] at K; exact K)
              | (rw [show nt1 (fun t => ndv (aG A) (aS A) (aH A) t a) (j + 1) p.2 = ndv (aG A) (aS A) (aH A) j a from ev, show lsI (ndv (aG A) (aS A) (aH A) j a) = nI (ndv (aG A) (aS A) (aH A) j a) from if_neg (hnz j)] at K; exact K)
          · have v0 : nt1 (fun t => ndv (aG A) (aS A) (aH A) t a) j p.2 ≠ 0 := fun w => c65 (if_pos w)
            rw [show lsI (nt1 (fun t => ndv (aG A) (aS A) (aH A) t a) j p.2) = nI (nt1 (fun t => ndv (aG A) (aS A) (aH A) t a) j p.2) from if_neg v0]
            refine go_iload_6 (DX6_leastNodes.at 40 rfl) ?_
            refine go_iload_2 (DX6_leastNodes.at 41 rfl) ?_
            refine go_icmp_ge 79 (DX6_leastNodes.at 42 rfl) (by decide) (fun c71 => ?_) (fun c71 => ?_)
            · rw [nI_leI hvj (by omega)] at c71
              have ev : nt1 (fun t => ndv (aG A) (aS A) (aH A) t a) (j + 1) p.2 = nt1 (fun t => ndv (aG A) (aS A) (aH A) t a) j p.2 := if_neg (by dsimp only; omega)
              refine go_iload_2 (DX6_leastNodes.at 45 rfl) ?_
              refine go_istore_2 (DX6_leastNodes.at 46 rfl) ?_
              refine go_iincN_5 (DX6_leastNodes.at 47 rfl) ?_
              refine go_goto 37 (DX6_leastNodes.at 48 rfl) (by decide) ?_
              have K := ihT (j + 1) (some (.int (nI (ndv (aG A) (aS A) (aH A) j a)))) (by omega)
              first
                | (rw [show nt1 (fun t => ndv (aG A) (aS A) (aH A) t a) (j + 1) p.2 = nt1 (fun t => ndv (aG A) (aS A) (aH A) t a) j p.2 from ev, show lsI (nt1 (fun t => ndv (aG A) (aS A) (aH A) t a) j p.2) = nI (nt1 (fun t => ndv (aG A) (aS A) (aH A) t a) j p.2) from if_neg v0] at K; exact K)
                | (rw [show nt1 (fun t => ndv (aG A) (aS A) (aH A) t a) (j + 1) p.2 = ndv (aG A) (aS A) (aH A) j a from ev, show lsI (ndv (aG A) (aS A) (aH A) j a) = nI (ndv (aG A) (aS A) (aH A) j a) from if_neg (hnz j)] at K; exact K)
            · rw [nI_leI hvj (by omega)] at c71
              have ev : nt1 (fun t => ndv (aG A) (aS A) (aH A) t a) (j + 1) p.2 = ndv (aG A) (aS A) (aH A) j a := if_pos (Or.inr (by dsimp only; omega))
              refine go_iload_6 (DX6_leastNodes.at 43 rfl) ?_
              refine go_goto 80 (DX6_leastNodes.at 44 rfl) (by decide) ?_
              refine go_istore_2 (DX6_leastNodes.at 46 rfl) ?_
              refine go_iincN_5 (DX6_leastNodes.at 47 rfl) ?_
              refine go_goto 37 (DX6_leastNodes.at 48 rfl) (by decide) ?_
              have K := ihT (j + 1) (some (.int (nI (ndv (aG A) (aS A) (aH A) j a)))) (by omega)
              first
                | (rw [show nt1 (fun t => ndv (aG A) (aS A) (aH A) t a) (j + 1) p.2 = nt1 (fun t => ndv (aG A) (aS A) (aH A) t a) j p.2 from ev, show lsI (nt1 (fun t => ndv (aG A) (aS A) (aH A) t a) j p.2) = nI (nt1 (fun t => ndv (aG A) (aS A) (aH A) t a) j p.2) from if_neg v0] at K; exact K)
                | (rw [show nt1 (fun t => ndv (aG A) (aS A) (aH A) t a) (j + 1) p.2 = ndv (aG A) (aS A) (aH A) j a from ev, show lsI (ndv (aG A) (aS A) (aH A) j a) = nI (ndv (aG A) (aS A) (aH A) j a) from if_neg (hnz j)] at K; exact K)
      exact tl (aT A) 0 x6 (Nat.zero_add _)
theorem m_leastNodes {w : Nat} (h1 : 1 ≤ w) (h4 : w ≤ 4) (hX : MX G h b i ρ A) (hd : 8 ≤ d) : Calls E mX6_leastNodes d 0 0 [.ref b, .int (nI w)] h (RI (fun r h' => (∃ f, MdAt G h' b i (rset ρ 10 f)) ∧ r = lsI (aRun A w).2)) := by
  refine Calls.of (ls := [some (.ref b), some (.int (nI w)), none, none, none, none, none]) (by decide +kernel) rfl (Nat.le_of_ble_eq_true rfl) (cat_ok rfl) ?_
  have hM := hX.1
  have hTb := hX.2.1
  have hR := hX.2.2
  have hA := hR.1
  have hn := hA.1.nc
  have hT8 : aT A ≤ 8 := hA.1.2.2.2.2.2.2.1
  have hg4 : aG A ≤ 4 := hA.1.2.1
  have hs6 : aS A ≤ 6 := hA.1.2.2.2.1
  have hs2 : 2 ≤ aS A := hA.1.2.2.1
  have hg1 : 1 ≤ aG A := hA.1.1
  have hgs : aG A * aS A ≤ 15 := hA.1.2.2.2.2.1
  have hH5 : aH A ≤ 5 := hA.1.2.2.2.2.2.2.2
  have en : nc (aG A) (aS A) = aG A * aS A + aG A + 2 := rfl
  obtain ⟨y, r, k1, k2, k3, k4⟩ := chain (n := nc (aG A) (aS A)) (w := w) hn.2 h1 h4
  have hw4 : 2 ^ w ≤ 2 ^ 4 := Nat.pow_le_pow_right (by decide) h4
  have hw1 : 1 ≤ 2 ^ w := Nat.one_le_two_pow
  refine go_bipush (v := (-5)) (DX6_leastNodes.at 0 rfl) (by decide) ?_
  refine go_istore_2 (DX6_leastNodes.at 1 rfl) ?_
  refine go_iconst (v := nI 1) (DX6_leastNodes.at 2 rfl) (by decide) ?_
  refine go_iload_1 (DX6_leastNodes.at 3 rfl) ?_
  refine go_ishl (DX6_leastNodes.at 4 rfl) ?_
  rw [nx_shlW 1 (by omega), Nat.one_mul]
  refine go_iconst (v := nI 1) (DX6_leastNodes.at 5 rfl) (by decide) ?_
  refine go_isub (DX6_leastNodes.at 6 rfl) ?_
  rw [pk_sub (by omega)]
  refine go_istore_3 (DX6_leastNodes.at 7 rfl) ?_
  rw [aRun_cx hA h1 h4]
  exact m_leastLoop hX k3 k4 (by omega) _ (0, 0) _ h (ρ 10) _ _ _ (by rw [rset_self]; exact hM) k1 k2 (fun x hx => ((cx_mem _ _ x).mp hx).1) (fun x hx t => ndv_ne0 (by omega) h1 hx) (by decide)

end M6
section M7
variable {E : AEnv} {d : Nat} {h h' : List va_E} {b : Nat} {G : Nat → Option va_E} {Z : Zt}
theorem y_survives {x : Int32} (hZ : MZ G Z h b) (hd : 7 ≤ d) : Calls E mX6_survives d 0 0 [.ref b, .int x] h (RI (fun r h' => r = svF (zA Z) x ∧ MZ G Z h' b)) := by
  refine Calls.of (ls := [some (.ref b), some (.int x)]) (by decide +kernel) rfl (Nat.le_of_ble_eq_true rfl) (cat_ok rfl) ?_
  have hZ2 := hZ
  obtain ⟨i, ρ, hX, hZr⟩ := hZ
  have hM := hX.1
  have hTb := hX.2.1
  have hR := hX.2.2
  have hA := hR.1
  have hn := hA.1.nc
  have hT8 : aT (zA Z) ≤ 8 := hA.1.2.2.2.2.2.2.1
  have hg4 : aG (zA Z) ≤ 4 := hA.1.2.1
  have hs6 : aS (zA Z) ≤ 6 := hA.1.2.2.2.1
  have hs2 : 2 ≤ aS (zA Z) := hA.1.2.2.1
  have hg1 : 1 ≤ aG (zA Z) := hA.1.1
  have hgs : aG (zA Z) * aS (zA Z) ≤ 15 := hA.1.2.2.2.2.1
  have hH5 : aH (zA Z) ≤ 5 := hA.1.2.2.2.2.2.2.2
  have en : nc (aG (zA Z)) (aS (zA Z)) = aG (zA Z) * aS (zA Z) + aG (zA Z) + 2 := rfl
  have hp20 := p20 hn.2
  have h1n : 1 ≤ 2 ^ nc (aG (zA Z)) (aS (zA Z)) := Nat.one_le_two_pow
  refine go_iload_1 (DX6_survives.at 0 rfl) ?_
  refine go_iconst (v := nI 0) (DX6_survives.at 1 rfl) (by decide) ?_
  refine go_iconst (v := nI 1) (DX6_survives.at 2 rfl) (by decide) ?_
  refine go_aload_0 (DX6_survives.at 3 rfl) ?_
  refine go_cVx0 (DX6_survives.at 4 rfl) nX6_59 vX6_cells (by omega) (m_cells hX (by omega)) hM.1 rfl (Nat.le_of_ble_eq_true rfl) ?_
  refine go_ishl (DX6_survives.at 5 rfl) ?_
  rw [nx_shlW 1 (by omega), Nat.one_mul]
  refine go_iconst (v := nI 1) (DX6_survives.at 6 rfl) (by decide) ?_
  refine go_isub (DX6_survives.at 7 rfl) ?_
  rw [pk_sub (by omega)]
  refine go_cSx3 (DX6_survives.at 8 rfl) nX6_51 vX6_within (by omega) c_within (Nat.le_of_ble_eq_true rfl) ?_
  rw [bP_wi h1n (by omega)]
  refine go_if_ne 19 (DX6_survives.at 9 rfl) (by decide) (fun c13 => ?_) (fun c13 => ?_)
  · rw [bP_eq0, Classical.not_not] at c13
    obtain ⟨M, hM2, rfl⟩ := inR_ex (by omega) c13
    have e0 : svF (zA Z) (nI M) = bP (IndP (colv (aG (zA Z)) (aS (zA Z))) M (nc (aG (zA Z)) (aS (zA Z)))) := by
      unfold svF
      rw [cI_t c13, nI_cl (by omega)]
    refine go_aload_0 (DX6_survives.at 12 rfl) ?_
    refine go_iload_1 (DX6_survives.at 13 rfl) ?_
    refine go_cVi1 (DX6_survives.at 14 rfl) nX6_222 vX6_isSurvived (by omega) (m_isSurvived hM2 hX (by omega)) hM.1 rfl (Nat.le_of_ble_eq_true rfl) (fun x21 h21 q21 => ?_)
    obtain ⟨f, q21, e21⟩ := q21
    subst e21
    refine go_if_eq 31 (DX6_survives.at 15 rfl) (by decide) (fun c24 => ?_) (fun c24 => ?_)
    · rw [bP_eq0] at c24
      rw [bP_f c24] at e0
      refine go_iconst (v := nI 0) (DX6_survives.at 18 rfl) (by decide) ?_
      exact go_iret (DX6_survives.at 19 rfl) rfl rfl (RI.mk ⟨e0.symm, i, _, hX.row10 q21, hZr.mu MU.r10⟩)
    · rw [bP_eq0, Classical.not_not] at c24
      rw [bP_t c24] at e0
      refine go_iconst (v := nI 1) (DX6_survives.at 16 rfl) (by decide) ?_
      refine go_goto 32 (DX6_survives.at 17 rfl) (by decide) ?_
      exact go_iret (DX6_survives.at 19 rfl) rfl rfl (RI.mk ⟨e0.symm, i, _, hX.row10 q21, hZr.mu MU.r10⟩)
  · rw [bP_eq0] at c13
    refine go_bipush (v := (-2)) (DX6_survives.at 10 rfl) (by decide) ?_
    exact go_iret (DX6_survives.at 11 rfl) rfl rfl (RI.mk ⟨(cI_f c13).symm, hZ2⟩)

theorem y_fatalSets {x : Int32} (hZ : MZ G Z h b) (hd : 8 ≤ d) : Calls E mX6_fatalSets d 0 0 [.ref b, .int x] h (RI (fun r h' => r = fsF (zA Z) x ∧ MZ G Z h' b)) := by
  refine Calls.of (ls := [some (.ref b), some (.int x), none, none]) (by decide +kernel) rfl (Nat.le_of_ble_eq_true rfl) (cat_ok rfl) ?_
  have hZ2 := hZ
  obtain ⟨i, ρ, hX, hZr⟩ := hZ
  have hM := hX.1
  have hTb := hX.2.1
  have hR := hX.2.2
  have hA := hR.1
  have hn := hA.1.nc
  have hT8 : aT (zA Z) ≤ 8 := hA.1.2.2.2.2.2.2.1
  have hg4 : aG (zA Z) ≤ 4 := hA.1.2.1
  have hs6 : aS (zA Z) ≤ 6 := hA.1.2.2.2.1
  have hs2 : 2 ≤ aS (zA Z) := hA.1.2.2.1
  have hg1 : 1 ≤ aG (zA Z) := hA.1.1
  have hgs : aG (zA Z) * aS (zA Z) ≤ 15 := hA.1.2.2.2.2.1
  have hH5 : aH (zA Z) ≤ 5 := hA.1.2.2.2.2.2.2.2
  have en : nc (aG (zA Z)) (aS (zA Z)) = aG (zA Z) * aS (zA Z) + aG (zA Z) + 2 := rfl
  have hp20 := p20 hn.2
  refine go_iload_1 (DX6_fatalSets.at 0 rfl) ?_
  refine go_iconst (v := nI 1) (DX6_fatalSets.at 1 rfl) (by decide) ?_
  refine go_iconst (v := nI 4) (DX6_fatalSets.at 2 rfl) (by decide) ?_
  refine go_cSx3 (DX6_fatalSets.at 3 rfl) nX6_51 vX6_within (by omega) c_within (Nat.le_of_ble_eq_true rfl) ?_
  refine go_if_ne 12 (DX6_fatalSets.at 4 rfl) (by decide) (fun c6 => ?_) (fun c6 => ?_)
  · rw [bI_eq0, Classical.not_not] at c6
    refine go_iconst (v := nI 0) (DX6_fatalSets.at 7 rfl) (by decide) ?_
    refine go_istore_2 (DX6_fatalSets.at 8 rfl) ?_
    obtain ⟨w, hw5, rfl⟩ := inR_ex (n := 5) (by decide) (show inR x 5 from ⟨Int32.le_trans (by decide) c6.1, Int32.lt_of_le_of_lt c6.2 (by decide)⟩)
    have e0 : fsF (zA Z) (nI w) = nI (aRun (zA Z) w).1 := by
      unfold fsF
      rw [cI_t c6, nI_cl (by omega)]
    rw [nI_leI (by decide) (by omega)] at c6
    obtain ⟨y, r, k1, k2, k3, k4⟩ := chain (n := nc (aG (zA Z)) (aS (zA Z))) (w := w) hn.2 c6.1 (by omega)
    have hw4 : 2 ^ w ≤ 2 ^ 4 := Nat.pow_le_pow_right (by decide) (by omega)
    have hw1 : 1 ≤ 2 ^ w := Nat.one_le_two_pow
    refine go_iconst (v := nI 1) (DX6_fatalSets.at 9 rfl) (by decide) ?_
    refine go_iload_1 (DX6_fatalSets.at 10 rfl) ?_
    refine go_ishl (DX6_fatalSets.at 11 rfl) ?_
    rw [nx_shlW 1 (by omega), Nat.one_mul]
    refine go_iconst (v := nI 1) (DX6_fatalSets.at 12 rfl) (by decide) ?_
    refine go_isub (DX6_fatalSets.at 13 rfl) ?_
    rw [pk_sub (by omega)]
    refine go_istore_3 (DX6_fatalSets.at 14 rfl) ?_
    refine Go.weaken (m_fatalLoop hX k3 k4 (by omega) _ (0, 0) _ h (ρ 10) (by rw [rset_self]; exact hM) k1 k2 (fun x hx => ((cx_mem _ _ x).mp hx).1)) ?_
    rintro r2 h1 ⟨v, rfl, ⟨f, q⟩, rfl⟩
    rw [← aRun_cx hA c6.1 (by omega)]
    exact RI.mk ⟨e0.symm, i, _, hX.row10 q, hZr.mu MU.r10⟩
  · rw [bI_eq0] at c6
    refine go_bipush (v := (-2)) (DX6_fatalSets.at 5 rfl) (by decide) ?_
    exact go_iret (DX6_fatalSets.at 6 rfl) rfl rfl (RI.mk ⟨(cI_f c6).symm, hZ2⟩)

theorem fold_2lt {A : Ab} (hA : AOK A) : ∀ (l : List Nat) (p : Nat × Nat), p.2 < 2 ^ 20 → (List.foldl (ntF (colv (aG A) (aS A)) (aG A) (aS A) (aH A) (aT A)) p l).2 < 2 ^ 20
  | [], _, h => h
  | a :: l, p, h => by
    refine fold_2lt hA l _ ?_
    unfold ntF
    cases depB (colv (aG A) (aS A)) (nc (aG A) (aS A)) a
    · exact h
    · exact nt1_lt (fun t => ndv_lt hA.1.nc.2) _ h
theorem y_fatalNodes (hZ : MZ G Z h b) (hd : 9 ≤ d) : Calls E mX6_fatalNodes d 0 0 [.ref b] h (RI (fun r h' => r = fnF (zA Z) ∧ MZ G Z h' b)) := by
  refine Calls.of (ls := [some (.ref b), none, none]) (by decide +kernel) rfl (Nat.le_of_ble_eq_true rfl) (cat_ok rfl) ?_
  have loop : ∀ (m w : Nat) (h : List va_E), w + m = 5 → 1 ≤ w → MZ G Z h b → Go E mX6_fatalNodes d 0 0 5 [some (.ref b), some (.int (-5)), some (.int (nI w))] [] h (RI (fun r h' => r = fnG (zA Z) m w ∧ MZ G Z h' b)) := by
    intro m
    induction m with
    | zero =>
      intro w h hw h1 hZ
      obtain rfl : w = 5 := by omega
      refine go_iload_2 (DX6_fatalNodes.at 4 rfl) ?_
      refine go_iconst (v := nI 5) (DX6_fatalNodes.at 5 rfl) (by decide) ?_
      refine go_icmp_ge 28 (DX6_fatalNodes.at 6 rfl) (by decide) (fun c7 => ?_) (fun c7 => absurd (Int32.le_refl _) c7)
      refine go_iload_1 (DX6_fatalNodes.at 16 rfl) ?_
      exact go_iret (DX6_fatalNodes.at 17 rfl) rfl rfl (RI.mk ⟨rfl, hZ⟩)
    | succ m ih =>
      intro w h hw h1 hZ
      have hZ0 := hZ
      obtain ⟨i, ρ, hX, hZr⟩ := hZ
      have hM := hX.1
      have hA := hX.2.2.1
      refine go_iload_2 (DX6_fatalNodes.at 4 rfl) ?_
      refine go_iconst (v := nI 5) (DX6_fatalNodes.at 5 rfl) (by decide) ?_
      refine go_icmp_ge 28 (DX6_fatalNodes.at 6 rfl) (by decide) (fun c7 => absurd ((nI_leI (by omega) (by omega)).mp c7) (by omega)) (fun c7 => ?_)
      refine go_iload_1 (DX6_fatalNodes.at 7 rfl) ?_
      refine go_bipush (v := (-5)) (DX6_fatalNodes.at 8 rfl) (by decide) ?_
      refine go_icmp_ne 28 (DX6_fatalNodes.at 9 rfl) (by decide) (fun c13 => absurd rfl c13) (fun c13 => ?_)
      refine go_aload_0 (DX6_fatalNodes.at 10 rfl) ?_
      refine go_iload_2 (DX6_fatalNodes.at 11 rfl) ?_
      refine go_cVi1 (DX6_fatalNodes.at 12 rfl) nX6_231 vX6_leastNodes (by omega) (m_leastNodes (show 1 ≤ w by omega) (by omega) hX (by omega)) hM.1 rfl (Nat.le_of_ble_eq_true rfl) (fun x18 h18 q18 => ?_)
      obtain ⟨⟨f, q18⟩, e18⟩ := q18
      have hZ3 : MZ G Z h18 b := ⟨i, _, hX.row10 q18, hZr.mu MU.r10⟩
      subst e18
      by_cases hz : (aRun (zA Z) w).1 = 0
      · have h2 : (aRun (zA Z) w).2 = 0 := by
          rw [aRun_cx hA (by omega) (by omega)] at hz ⊢
          exact fold_0 _ _ hz
        rw [show lsI (aRun (zA Z) w).2 = -5 from if_pos h2]
        have e0 : fnG (zA Z) (m + 1) w = fnG (zA Z) m (w + 1) := if_pos hz
        rw [e0]
        refine go_istore_1 (DX6_fatalNodes.at 13 rfl) ?_
        refine go_iincN_2 (DX6_fatalNodes.at 14 rfl) ?_
        refine go_goto 5 (DX6_fatalNodes.at 15 rfl) (by decide) ?_
        exact ih (w + 1) _ (by omega) (by omega) hZ3
      · have h2 : (aRun (zA Z) w).2 ≠ 0 := by
          rw [aRun_cx hA (by omega) (by omega)] at hz ⊢
          exact fold_2 hA _ _ (fun x hx t => ndv_ne0 (by have := hA.1.nc; omega) (by omega) hx) (fun q => absurd rfl q) hz
        have h3 : (aRun (zA Z) w).2 < 2 ^ 20 := by
          unfold aRun frun
          exact fold_2lt hA _ _ (by decide)
        rw [show lsI (aRun (zA Z) w).2 = nI (aRun (zA Z) w).2 from if_neg h2]
        have hne := nI_m5 (show (aRun (zA Z) w).2 < 2 ^ 31 by omega)
        have e0 : fnG (zA Z) (m + 1) w = nI (aRun (zA Z) w).2 := if_neg hz
        refine go_istore_1 (DX6_fatalNodes.at 13 rfl) ?_
        refine go_iincN_2 (DX6_fatalNodes.at 14 rfl) ?_
        refine go_goto 5 (DX6_fatalNodes.at 15 rfl) (by decide) ?_
        refine go_iload_2 (DX6_fatalNodes.at 4 rfl) ?_
        refine go_iconst (v := nI 5) (DX6_fatalNodes.at 5 rfl) (by decide) ?_
        refine go_icmp_ge 28 (DX6_fatalNodes.at 6 rfl) (by decide) (fun c7 => ?_) (fun c7 => ?_)
        · refine go_iload_1 (DX6_fatalNodes.at 16 rfl) ?_
          exact go_iret (DX6_fatalNodes.at 17 rfl) rfl rfl (RI.mk ⟨e0.symm, hZ3⟩)
        · refine go_iload_1 (DX6_fatalNodes.at 7 rfl) ?_
          refine go_bipush (v := (-5)) (DX6_fatalNodes.at 8 rfl) (by decide) ?_
          refine go_icmp_ne 28 (DX6_fatalNodes.at 9 rfl) (by decide) (fun c13 => ?_) (fun c13 => absurd c13 hne)
          refine go_iload_1 (DX6_fatalNodes.at 16 rfl) ?_
          exact go_iret (DX6_fatalNodes.at 17 rfl) rfl rfl (RI.mk ⟨e0.symm, hZ3⟩)
      
  refine go_bipush (v := (-5)) (DX6_fatalNodes.at 0 rfl) (by decide) ?_
  refine go_istore_1 (DX6_fatalNodes.at 1 rfl) ?_
  refine go_iconst (v := nI 1) (DX6_fatalNodes.at 2 rfl) (by decide) ?_
  refine go_istore_2 (DX6_fatalNodes.at 3 rfl) ?_
  exact loop 4 1 h (by decide) (by decide) hZ

end M7
