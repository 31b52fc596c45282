/-! THE SEARCH GOES THROUGH ALL SETS -/
theorem bit_lt {M j c : Nat} (hM : M < 2 ^ j) (hb : bit M c) : c < j := by
  rcases Nat.lt_or_ge c j with q | q
  · exact q
  · have h1 : M / 2 ^ c = 0 := Nat.div_eq_of_lt (Nat.lt_of_lt_of_le hM (Nat.pow_le_pow_right (by decide) q))
    have h2 : M / 2 ^ c % 2 = 1 := hb
    rw [h1] at h2
    cases h2
theorem bit_or {M j c : Nat} : bit (M ||| 2 ^ j) c ↔ bit M c ∨ c = j := by
  rw [bit_tb, bit_tb, Nat.testBit_or, Nat.testBit_two_pow]
  by_cases e : j = c
  · subst e; simp
  · simp [e, Ne.symm e]
theorem or_lt {M fr j : Nat} (hM : M < 2 ^ fr) (hj : fr ≤ j) : M ||| 2 ^ j < 2 ^ (j + 1) := Nat.or_lt_two_pow (Nat.lt_of_lt_of_le hM (Nat.pow_le_pow_right (by decide) (by omega))) (Nat.pow_lt_pow_right (by decide) (by omega))
theorem pcn_congr {M M' : Nat} : ∀ j, (∀ c, c < j → (bit M c ↔ bit M' c)) → pcn M j = pcn M' j
  | 0, _ => rfl
  | j + 1, h => by
    have h1 := h j (by omega)
    have h2 : M / 2 ^ j % 2 = 1 ↔ M' / 2 ^ j % 2 = 1 := h1
    show pcn M j + M / 2 ^ j % 2 = pcn M' j + M' / 2 ^ j % 2
    rw [pcn_congr j (fun c hc => h c (by omega))]
    omega
theorem IndP.congr {C : Nat → Nat → Nat} {M M' j : Nat} (h : ∀ c, c < j → (bit M c ↔ bit M' c)) (hI : IndP C M j) : IndP C M' j := by
  intro c hc hb
  obtain ⟨l, l1, l2, l3⟩ := hI c hc ((h c hc).mpr hb)
  exact ⟨l, l1, l2, fun c' hc' hb' hne => l3 c' hc' ((h c' hc').mpr hb') hne⟩
theorem BInv.congr {C : Nat → Nat → Nat} {M M' j r : Nat} {U : Nat → Nat → Nat} {K : Nat → Nat} (h : ∀ c, c < j → (bit M c ↔ bit M' c)) (hB : BInv C M j r U K) : BInv C M' j r U K := by
  obtain ⟨h1, h2, h3, h4, h5, h6, h7, h8⟩ := hB
  refine ⟨h1, h2, fun c hc hb => h3 c hc ((h c hc).mpr hb), fun l hl => h4 l ⟨hl.1, fun c hc hb => hl.2 c hc ((h c hc).mp hb)⟩, h5, h6, by rw [← pcn_congr j h]; exact h7, ?_⟩
  rw [← pcn_congr j h, h8]
  exact ⟨fun q => q.congr h, fun q => q.congr (fun c hc => (h c hc).symm)⟩
/-- fewer cells -/
theorem IndP.less {C : Nat → Nat → Nat} {M M' j j' : Nat} (hjj : j ≤ j') (h : ∀ c, c < j → bit M c → bit M' c) (hI : IndP C M' j') : IndP C M j := by
  intro c hc hb
  obtain ⟨l, l1, l2, l3⟩ := hI c (by omega) (h c hc hb)
  exact ⟨l, l1, l2, fun c' hc' hb' hne => l3 c' (by omega) (h c' hc' hb') hne⟩
theorem IndP.ext {C : Nat → Nat → Nat} {M j n : Nat} (hM : M < 2 ^ j) (hI : IndP C M j) : IndP C M n := by
  intro c hc hb
  obtain ⟨l, l1, l2, l3⟩ := hI c (bit_lt hM hb) hb
  exact ⟨l, l1, l2, fun c' hc' hb' hne => l3 c' (bit_lt hM hb') hb' hne⟩
theorem BInv.skips {C : Nat → Nat → Nat} {M fr r : Nat} {U : Nat → Nat → Nat} {K : Nat → Nat} (hM : M < 2 ^ fr) (hB : BInv C M fr r U K) : ∀ k, BInv C M (fr + k) r U K
  | 0 => hB
  | k + 1 => (hB.skips hM k).skip (fun q => by have := bit_lt hM q; omega)
theorem pcn_skips {M fr : Nat} (hM : M < 2 ^ fr) (k : Nat) : pcn M (fr + k) = pcn M fr := pcn_hi hM k
/-- the flag: the chosen cells are independent, and the rows hold what is left; or they are not -/
def FInv (C : Nat → Nat → Nat) (n M fr L F : Nat) (R : Nat → Nat → Nat) : Prop :=
  (F = 0 ∧ ∃ U K, BInv C M fr L U K ∧ L = pcn M fr ∧ ∀ c, fr ≤ c → c < n → ∀ i, i < 6 → R c i = rst U K L (C c) i) ∨ (F = 1 ∧ ¬ IndP C M fr)
theorem FInv.more {C : Nat → Nat → Nat} {n M fr L F j : Nat} {R : Nat → Nat → Nat} (hF : FInv C n M fr L F R) (hC : ∀ c, c < n → B6 (C c)) (hM : M < 2 ^ fr) (hj : fr ≤ j) (hjn : j < n) (hR : B6 (R j)) :
    (F = 1 ∨ (∀ i, i < 6 → R j i = 0) → ∀ R', FInv C n (M ||| 2 ^ j) (j + 1) (L + 1) 1 R') ∧
    (F = 0 → (¬ ∀ i, i < 6 → R j i = 0) → FInv C n (M ||| 2 ^ j) (j + 1) (L + 1) 0 (fun c i => R c i ^^^ gm (gm (R j i) (gv (R j (ldv (R j))))) (R c (ldv (R j))))) := by
  have hcg : ∀ c, c < j → (bit M c ↔ bit (M ||| 2 ^ j) c) := fun c hc => by
    rw [bit_or]
    exact ⟨Or.inl, fun q => q.elim id (fun e => by omega)⟩
  have hbj : bit (M ||| 2 ^ j) j := bit_or.mpr (Or.inr rfl)
  have hbad : ¬ IndP C M fr → ¬ IndP C (M ||| 2 ^ j) (j + 1) := fun hno hI => hno (hI.less (by omega) (fun c hc hb => bit_or.mpr (Or.inl hb)))
  have hpc : ∀ U K, BInv C M fr L U K → L = pcn M fr → BInv C (M ||| 2 ^ j) j L U K ∧ L = pcn (M ||| 2 ^ j) j := by
    intro U K hB hL
    have h1 := hB.skips hM (j - fr)
    rw [show fr + (j - fr) = j by omega] at h1
    refine ⟨h1.congr hcg, ?_⟩
    rw [← pcn_congr j hcg]
    have h2 := pcn_skips hM (j - fr)
    rw [show fr + (j - fr) = j by omega] at h2
    rw [h2]
    exact hL
  refine ⟨fun hor R' => Or.inr ⟨rfl, ?_⟩, fun h0 hne => ?_⟩
  · rcases hF with ⟨hF0, U, K, hB, hL, hrst⟩ | ⟨-, hno⟩
    · rcases hor with q | hz
      · omega
      · obtain ⟨hB', hL'⟩ := hpc U K hB hL
        have hD := hB'.dep (hC j hjn) hbj (fun i hi => by rw [← hrst j hj hjn i hi]; exact hz i hi)
        intro hI
        have e := hD.2.2.2.2.2.2.2.mpr hI
        have e2 : pcn (M ||| 2 ^ j) (j + 1) = pcn (M ||| 2 ^ j) j + 1 := by
          show pcn (M ||| 2 ^ j) j + (M ||| 2 ^ j) / 2 ^ j % 2 = _
          rw [show (M ||| 2 ^ j) / 2 ^ j % 2 = 1 from hbj]
        omega
    · exact hbad hno
  · rcases hF with ⟨hF0, U, K, hB, hL, hrst⟩ | ⟨hF1, -⟩
    · obtain ⟨hB', hL'⟩ := hpc U K hB hL
      have hex : ∃ i, i < 6 ∧ R j i ≠ 0 := by
        apply Classical.byContradiction
        intro hno
        exact hne (fun i hi => Classical.byContradiction fun q => hno ⟨i, hi, q⟩)
      have hsp := ldv_spec hex
      have hld := ldv_lt (R j)
      have hw : ∃ i, i < 6 ∧ rst U K L (C j) i ≠ 0 := by
        obtain ⟨i, hi, q⟩ := hex
        exact ⟨i, hi, by rw [← hrst j hj hjn i hi]; exact q⟩
      have hr6 : L < 6 := by
        obtain ⟨i, hi, q⟩ := hw
        exact hB'.room (hC j hjn) hi q
      have ew : ∀ i, i < 6 → rst U K L (C j) i = R j i := fun i hi => (hrst j hj hjn i hi).symm
      have e2 : pcn (M ||| 2 ^ j) (j + 1) = pcn (M ||| 2 ^ j) j + 1 := by
        show pcn (M ||| 2 ^ j) j + (M ||| 2 ^ j) / 2 ^ j % 2 = _
        rw [show (M ||| 2 ^ j) / 2 ^ j % 2 = 1 from hbj]
      refine Or.inl ⟨rfl, (fun p => if p = L then (fun i => gm (rst U K L (C j) i) (gv (rst U K L (C j) (ldv (R j))))) else U p), (fun p => if p = L then ldv (R j) else K p), ?_, by omega, ?_⟩
      · exact hB'.more (ld := ldv (R j)) (hC j hjn) (fun c hc => hC c (by omega)) hbj hr6 hld (by rw [ew _ hld]; exact hsp) (fun p hp i _ => by rw [if_neg (by omega)]) (fun p hp => by rw [if_neg (by omega)]) (fun i _ => by rw [if_pos rfl]) (if_pos rfl)
      · intro c h1 h2 i hi
        show R c i ^^^ gm (gm (R j i) (gv (R j (ldv (R j))))) (R c (ldv (R j))) = rst _ _ L (C c) i ^^^ gm ((if L = L then (fun i => gm (rst U K L (C j) i) (gv (rst U K L (C j) (ldv (R j))))) else U L) i) (rst _ _ L (C c) (if L = L then ldv (R j) else K L))
        rw [if_pos rfl, if_pos rfl]
        have hold := rst_congr (U := U) (K := K) (U' := fun p => if p = L then (fun i => gm (rst U K L (C j) i) (gv (rst U K L (C j) (ldv (R j))))) else U p) (K' := fun p => if p = L then ldv (R j) else K p) (r := L) (fun p hp i _ => by show U p i = (if p = L then _ else U p) i; rw [if_neg (by omega)]) (fun p hp => by show K p = if p = L then _ else K p; rw [if_neg (by omega)]) (fun p hp => (hB.2.1 p hp).2) L (Nat.le_refl L) (C c)
        rw [← hold i hi, ← hold _ hld, ← hrst c (by omega) h2 i hi, ← hrst c (by omega) h2 _ hld]
        show _ = R c i ^^^ gm (gm (rst U K L (C j) i) (gv (rst U K L (C j) (ldv (R j))))) (R c (ldv (R j)))
        rw [ew i hi, ew _ hld]
    · omega
section SE
variable {E : AEnv} {b : Nat} {σ : Rows} {g s T sh : Nat}
set_option maxHeartbeats 16000000 in
theorem c_choose {a w : Nat} {C : Nat → Nat → Nat} (hw4 : w ≤ 4) (hS0 : LayX σ g s T sh) (hC : ColX σ (nc g s) C) (hab : a + 6 ≤ b ∨ b + 2 ≤ a) : ∀ (kk L fr M F d fd ls : Nat) (h : List va_E) (rf : Nat → Int32) (R : Nat → Nat → Nat), L + kk = w → fr ≤ nc g s → M < 2 ^ fr → 4 + kk ≤ d → SeIs h b w fd ls rf → StAt h a σ → (L < w → ∀ c, fr ≤ c → c < nc g s → rf (L * 20 + c) = nI (pq 6 (R c)) ∧ B6 (R c)) → FInv C (nc g s) M fr L F R → ls < 2 ^ 20 →
    Calls E mX3_choose d 0 0 [.ref b, .ref a, .int (nI L), .int (nI fr), .int (nI M), .int (nI F)] h (RV (fun h' => Only b (b + 2) h h' ∧ ∃ rf', SeIs h' b w (List.foldl (ntF C g s sh T) (fd, ls) (dl (nc g s) (nc g s - fr) kk M)).1 (List.foldl (ntF C g s sh T) (fd, ls) (dl (nc g s) (nc g s - fr) kk M)).2 rf' ∧ (∀ j, j < (L + 1) * 20 → rf' j = rf j))) := by
  have hn := hS0.2.2.2.2.nc
  intro kk
  induction kk with
  | zero =>
    intro L fr M F d fd ls h rf R hLw hfr hM hd hN hS hrow hF hls
    have e0 : dl (nc g s) (nc g s - fr) 0 M = [M] := by
      cases (nc g s - fr) with
      | zero => rfl
      | succ m => rfl
    rw [e0]
    have hM20 : M < 2 ^ 20 := Nat.lt_of_lt_of_le hM (Nat.pow_le_pow_right (by decide) (by omega))
    refine Calls.of (ls := [some (.ref b), some (.ref a), some (.int (nI L)), some (.int (nI fr)), some (.int (nI M)), some (.int (nI F)), none, none]) (by decide +kernel) rfl (Nat.le_of_ble_eq_true rfl) (cat_ok rfl) ?_
    refine go_iload_2 (DX3_choose.at 0 rfl) ?_
    refine go_aload_0 (DX3_choose.at 1 rfl) ?_
    refine go_getfield (DX3_choose.at 2 rfl) fX3_15 hN.1 rfl ?_
    refine go_icmp_lt 21 (DX3_choose.at 3 rfl) (by decide) (fun c5 => absurd c5 (nI_nlt (by omega) (by omega))) (fun c5 => ?_)
    refine go_iload_5 (DX3_choose.at 4 rfl) ?_
    refine go_if_eq 20 (DX3_choose.at 5 rfl) (by decide) (fun c10 => ?_) (fun c10 => ?_)
    · have e1 : depB C (nc g s) M = false := by
        rcases hF with ⟨-, U, K, hB, hL, -⟩ | ⟨q, -⟩
        · exact depB_f ((hB.2.2.2.2.2.2.2.mp hL).ext hM)
        · rw [q] at c10; exact absurd c10 (by decide)
      have e2 : List.foldl (ntF C g s sh T) (fd, ls) [M] = (fd, ls) := by
        show ntF C g s sh T (fd, ls) M = _
        unfold ntF
        rw [e1]; rfl
      exact go_return (DX3_choose.at 10 rfl) rfl (RV.mk ⟨Only.rf, rf, by rw [e2]; exact hN, fun _ _ => rfl⟩)
    · have e1 : depB C (nc g s) M = true := by
        rcases hF with ⟨q, -⟩ | ⟨-, hno⟩
        · rw [q] at c10; exact absurd rfl c10
        · exact depB_t (fun q => hno (q.less hfr (fun c _ hb => hb)))
      have e2 : List.foldl (ntF C g s sh T) (fd, ls) [M] = (fd + 1, nt1 (fun t => ndv g s sh t M) T ls) := by
        show ntF C g s sh T (fd, ls) M = _
        unfold ntF
        rw [e1]; rfl
      refine go_aload_0 (DX3_choose.at 6 rfl) ?_
      refine go_aload_1 (DX3_choose.at 7 rfl) ?_
      refine go_iload_4 (DX3_choose.at 8 rfl) ?_
      refine go_cVv2 (DX3_choose.at 9 rfl) nX3_49 vX3_note (by omega) (c_note hN hS hS0 hM20 hls hab (by omega)) hN.1 rfl (Nat.le_of_ble_eq_true rfl) (fun h17 q17 => ?_)
      exact go_return (DX3_choose.at 10 rfl) rfl (RV.mk ⟨q17.1, rf, by rw [e2]; exact q17.2, fun _ _ => rfl⟩)
  | succ kk ihk =>
    intro L fr M F d fd0 ls0 h0 rf0 R hLw hfr hM hd hN0 hS hrow hF hls0
    have fold_lt : ∀ (l : List Nat) (p : Nat × Nat), p.2 < 2 ^ 20 → (List.foldl (ntF C g s sh T) p l).2 < 2 ^ 20 := by
      intro l
      induction l with
      | nil => intro p hp; exact hp
      | cons A l ih =>
        intro p hp
        refine ih _ ?_
        unfold ntF
        split
        · exact nt1_lt (fun t => ndv_lt hn.2) T hp
        · exact hp
    have dl_s : ∀ m j, j + (m + 1) = nc g s → dl (nc g s) (m + 1) (kk + 1) M = dl (nc g s) m kk (M ||| 2 ^ j) ++ dl (nc g s) m (kk + 1) M := by
      intro m j hj
      show dl (nc g s) m kk (M ||| 2 ^ (nc g s - m - 1)) ++ dl (nc g s) m (kk + 1) M = _
      rw [show nc g s - m - 1 = j by omega]
    have dl_0 : dl (nc g s) 0 (kk + 1) M = [] := rfl
    generalize ntF C g s sh T = nf at ihk fold_lt ⊢
    generalize dl (nc g s) = D at ihk dl_s dl_0 ⊢
    refine Calls.of (ls := [some (.ref b), some (.ref a), some (.int (nI L)), some (.int (nI fr)), some (.int (nI M)), some (.int (nI F)), none, none]) (by decide +kernel) rfl (Nat.le_of_ble_eq_true rfl) (cat_ok rfl) ?_
    have hLw' : L < w := by omega
    have hF2 : F < 2 := by rcases hF with q | q <;> omega
    have main : ∀ (m j fd ls : Nat) (h : List va_E) (rf : Nat → Int32) (x7 : Option Value), j + m = nc g s → fr ≤ j → Only b (b + 2) h0 h → SeIs h b w fd ls rf → (∀ k, k < (L + 1) * 20 → rf k = rf0 k) → ls < 2 ^ 20 → Go E mX3_choose d 0 0 24 [some (.ref b), some (.ref a), some (.int (nI L)), some (.int (nI fr)), some (.int (nI M)), some (.int (nI F)), some (.int (nI j)), x7] [] h (RV (fun h' => Only b (b + 2) h0 h' ∧ ∃ rf', SeIs h' b w (List.foldl nf (fd, ls) (D m (kk + 1) M)).1 (List.foldl nf (fd, ls) (D m (kk + 1) M)).2 rf' ∧ (∀ j, j < (L + 1) * 20 → rf' j = rf0 j))) := by
      intro m
      induction m with
      | zero =>
        intro j fd ls h rf x7 hj hfj hO hN hlo hls
        have hS1 := hS.keep hO (by omega)
        have ej : j = nc g s := by omega
        subst ej
        refine go_iload_6 (DX3_choose.at 13 rfl) ?_
        refine go_aload_1 (DX3_choose.at 14 rfl) ?_
        refine go_cVx0 (DX3_choose.at 15 rfl) nX3_31 vX4_cellCount (by omega) (c_cellCount hS1 hS0) hS1.1 rfl (Nat.le_of_ble_eq_true rfl) ?_
        refine go_icmp_ge 114 (DX3_choose.at 16 rfl) (by decide) (fun c30 => ?_) (fun c30 => absurd (Int32.le_refl _) c30)
        exact go_return (DX3_choose.at 64 rfl) rfl (RV.mk ⟨hO, rf, by rw [dl_0]; exact hN, hlo⟩)
      | succ m ihm =>
        intro j fd ls h rf x7 hj hfj hO hN hlo hls
        have hS1 := hS.keep hO (by omega)
        have hRj := hrow hLw' j hfj (by omega)
        have hFm := hF.more (fun c hc => (hC c hc).2) hM hfj (show j < nc g s by omega) hRj.2
        have ed := dl_s m j (by omega)
        have hM' := or_lt hM hfj
        -- the call of the next level, and what follows
        have next : ∀ (F' : Nat) (h2 : List va_E) (rf2 : Nat → Int32) (R' : Nat → Nat → Nat), F' < 2 → Only b (b + 2) h0 h2 → SeIs h2 b w fd ls rf2 → (∀ k, k < (L + 1) * 20 → rf2 k = rf0 k) → (L + 1 < w → ∀ c, j + 1 ≤ c → c < nc g s → rf2 ((L + 1) * 20 + c) = nI (pq 6 (R' c)) ∧ B6 (R' c)) → FInv C (nc g s) (M ||| 2 ^ j) (j + 1) (L + 1) F' R' →
            Go E mX3_choose d 0 0 105 [some (.ref b), some (.ref a), some (.int (nI L)), some (.int (nI fr)), some (.int (nI M)), some (.int (nI F)), some (.int (nI j)), some (.int (nI (pq 6 (R j))))] [.int (nI F'), .int (nI (M ||| 2 ^ j)), .int (nI (j + 1)), .int (nI (L + 1)), .ref a, .ref b] h2 (RV (fun h' => Only b (b + 2) h0 h' ∧ ∃ rf', SeIs h' b w (List.foldl nf (fd, ls) (D (m + 1) (kk + 1) M)).1 (List.foldl nf (fd, ls) (D (m + 1) (kk + 1) M)).2 rf' ∧ (∀ j, j < (L + 1) * 20 → rf' j = rf0 j))) := by
          intro F' h2 rf2 R' hF' hO2 hN2 hlo2 hrow2 hFI
          have hS2 := hS.keep hO2 (by omega)
          have hcall := ihk (L + 1) (j + 1) (M ||| 2 ^ j) F' (d - 1) fd ls h2 rf2 R' (by omega) (by omega) hM' (by omega) hN2 hS2 hrow2 hFI hls
          rw [show nc g s - (j + 1) = m by omega] at hcall
          refine go_cVv5 (DX3_choose.at 61 rfl) nX3_45 vX3_choose (by omega) hcall hN2.1 rfl (Nat.le_of_ble_eq_true rfl) (fun h3 q3 => ?_)
          obtain ⟨o3, rf3, n3, lo3⟩ := q3
          refine go_iincN_6 (DX3_choose.at 62 rfl) ?_
          refine go_goto 24 (DX3_choose.at 63 rfl) (by decide) ?_
          have hl3 := fold_lt (D m kk (M ||| 2 ^ j)) (fd, ls) hls
          rw [ed, List.foldl_append]
          generalize List.foldl nf (fd, ls) (D m kk (M ||| 2 ^ j)) = x at n3 hl3 ⊢
          obtain ⟨fd2, ls2⟩ := x
          exact ihm (j + 1) fd2 ls2 h3 rf3 _ (by omega) (by omega) (hO2.trans o3) n3 (fun k hk => (lo3 k (Nat.lt_of_lt_of_le hk (Nat.mul_le_mul_right 20 (Nat.le_succ (L + 1))))).trans (hlo2 k hk)) hl3
        refine go_iload_6 (DX3_choose.at 13 rfl) ?_
        refine go_aload_1 (DX3_choose.at 14 rfl) ?_
        refine go_cVx0 (DX3_choose.at 15 rfl) nX3_31 vX4_cellCount (by omega) (c_cellCount hS1 hS0) hS1.1 rfl (Nat.le_of_ble_eq_true rfl) ?_
        refine go_icmp_ge 114 (DX3_choose.at 16 rfl) (by decide) (fun c30 => absurd c30 (nI_ge (a := j) (b := nc g s) (by omega) (by omega))) (fun c30 => ?_)
        refine go_aload_0 (DX3_choose.at 17 rfl) ?_
        refine go_getfield (DX3_choose.at 18 rfl) fX3_9 hN.1 rfl ?_
        refine go_iload_2 (DX3_choose.at 19 rfl) ?_
        refine go_bipush (v := nI 20) (DX3_choose.at 20 rfl) (by decide) ?_
        refine go_imul (DX3_choose.at 21 rfl) ?_
        rw [pk_mul]
        refine go_iload_6 (DX3_choose.at 22 rfl) ?_
        refine go_iadd (DX3_choose.at 23 rfl) ?_
        rw [nI_add]
        refine go_cSx2 (DX3_choose.at 24 rfl) nX3_53 vX5_at (by omega) (c_at (Or.inl hN.2) (show L * 20 + j < 80 by omega) (by decide)) (Nat.le_of_ble_eq_true rfl) ?_
        rw [hlo (L * 20 + j) (by omega), hRj.1]
        refine go_istore_7 (DX3_choose.at 25 rfl) ?_
        refine go_iload_2 (DX3_choose.at 26 rfl) ?_
        refine go_iconst (v := nI 1) (DX3_choose.at 27 rfl) (by decide) ?_
        refine go_iadd (DX3_choose.at 28 rfl) ?_
        rw [nI_add]
        refine go_aload_0 (DX3_choose.at 29 rfl) ?_
        refine go_getfield (DX3_choose.at 30 rfl) fX3_15 hN.1 rfl ?_
        refine go_icmp_ge 74 (DX3_choose.at 31 rfl) (by decide) (fun c56 => ?_) (fun c56 => ?_)
        · rw [nI_leI (by omega) (by omega)] at c56
          refine go_aload_0 (DX3_choose.at 41 rfl) ?_
          refine go_aload_1 (DX3_choose.at 42 rfl) ?_
          refine go_iload_2 (DX3_choose.at 43 rfl) ?_
          refine go_iconst (v := nI 1) (DX3_choose.at 44 rfl) (by decide) ?_
          refine go_iadd (DX3_choose.at 45 rfl) ?_
          rw [nI_add]
          refine go_iload_6 (DX3_choose.at 46 rfl) ?_
          refine go_iconst (v := nI 1) (DX3_choose.at 47 rfl) (by decide) ?_
          refine go_iadd (DX3_choose.at 48 rfl) ?_
          rw [nI_add]
          refine go_iload_4 (DX3_choose.at 49 rfl) ?_
          refine go_iconst (v := nI 1) (DX3_choose.at 50 rfl) (by decide) ?_
          refine go_iload_6 (DX3_choose.at 51 rfl) ?_
          refine go_ishl (DX3_choose.at 52 rfl) ?_
          rw [nx_shlW _ (by omega), Nat.one_mul]
          refine go_ior (DX3_choose.at 53 rfl) ?_
          rw [nx_or]
          refine go_iload_5 (DX3_choose.at 54 rfl) ?_
          refine go_if_ne 100 (DX3_choose.at 55 rfl) (by decide) (fun c92 => ?_) (fun c92 => ?_)
          · refine go_iconst (v := nI 1) (DX3_choose.at 58 rfl) (by decide) ?_
            refine go_goto 105 (DX3_choose.at 59 rfl) (by decide) ?_
            exact next 1 h rf R (by decide) hO hN hlo (fun q => absurd q (by omega)) (hFm.1 (Or.inl (by rcases (show F = 0 ∨ F = 1 by omega) with q | q; (rw [q] at c92; exact absurd rfl c92); exact q)) R)
          · refine go_iload_7 (DX3_choose.at 56 rfl) ?_
            refine go_if_ne 104 (DX3_choose.at 57 rfl) (by decide) (fun c97 => ?_) (fun c97 => ?_)
            · refine go_iconst (v := nI 0) (DX3_choose.at 60 rfl) (by decide) ?_
              exact next 0 h rf _ (by decide) hO hN hlo (fun q => absurd q (by omega)) (hFm.2 (by rcases (show F = 0 ∨ F = 1 by omega) with q | q; exact q; (rw [q] at c92; exact absurd c92 (by decide))) (fun q => c97 ((pq_eq0 hRj.2).mpr q)))
            · refine go_iconst (v := nI 1) (DX3_choose.at 58 rfl) (by decide) ?_
              refine go_goto 105 (DX3_choose.at 59 rfl) (by decide) ?_
              exact next 1 h rf R (by decide) hO hN hlo (fun q => absurd q (by omega)) (hFm.1 (Or.inr ((pq_eq0 hRj.2).mp c97)) R)
        · rw [nI_leI (by omega) (by omega)] at c56
          refine go_aload_0 (DX3_choose.at 32 rfl) ?_
          refine go_iload_7 (DX3_choose.at 33 rfl) ?_
          refine go_iload_2 (DX3_choose.at 34 rfl) ?_
          refine go_iload_6 (DX3_choose.at 35 rfl) ?_
          refine go_iconst (v := nI 1) (DX3_choose.at 36 rfl) (by decide) ?_
          refine go_iadd (DX3_choose.at 37 rfl) ?_
          rw [nI_add]
          refine go_aload_1 (DX3_choose.at 38 rfl) ?_
          refine go_cVx0 (DX3_choose.at 39 rfl) nX3_31 vX4_cellCount (by omega) (c_cellCount hS1 hS0) hS1.1 rfl (Nat.le_of_ble_eq_true rfl) ?_
          refine go_cVv4 (DX3_choose.at 40 rfl) nX3_57 vX3_takeOut (by omega) (c_takeOut (R := R) hN hRj.2 (by omega) hn.2 (fun c h1c h2c => ⟨(hlo (L * 20 + c) (by omega)).trans (hrow hLw' c (by omega) h2c).1, (hrow hLw' c (by omega) h2c).2⟩) (show j + 1 ≤ nc g s by omega) (by omega)) hN.1 rfl (Nat.le_of_ble_eq_true rfl) (fun h71 q71 => ?_)
          obtain ⟨o71, rf71, n71, lo71, hi71⟩ := q71
          have hB71 : ∀ c, j + 1 ≤ c → c < nc g s → B6 (fun i => R c i ^^^ gm (gm (R j i) (gv (R j (ldv (R j))))) (R c (ldv (R j)))) := fun c h1c h2c => (hrow hLw' c (by omega) h2c).2.xor ((hRj.2.gm (gv_lt (hRj.2 _ (ldv_lt _)))).gm ((hrow hLw' c (by omega) h2c).2 _ (ldv_lt _)))
          refine go_aload_0 (DX3_choose.at 41 rfl) ?_
          refine go_aload_1 (DX3_choose.at 42 rfl) ?_
          refine go_iload_2 (DX3_choose.at 43 rfl) ?_
          refine go_iconst (v := nI 1) (DX3_choose.at 44 rfl) (by decide) ?_
          refine go_iadd (DX3_choose.at 45 rfl) ?_
          rw [nI_add]
          refine go_iload_6 (DX3_choose.at 46 rfl) ?_
          refine go_iconst (v := nI 1) (DX3_choose.at 47 rfl) (by decide) ?_
          refine go_iadd (DX3_choose.at 48 rfl) ?_
          rw [nI_add]
          refine go_iload_4 (DX3_choose.at 49 rfl) ?_
          refine go_iconst (v := nI 1) (DX3_choose.at 50 rfl) (by decide) ?_
          refine go_iload_6 (DX3_choose.at 51 rfl) ?_
          refine go_ishl (DX3_choose.at 52 rfl) ?_
          rw [nx_shlW _ (by omega), Nat.one_mul]
          refine go_ior (DX3_choose.at 53 rfl) ?_
          rw [nx_or]
          refine go_iload_5 (DX3_choose.at 54 rfl) ?_
          refine go_if_ne 100 (DX3_choose.at 55 rfl) (by decide) (fun c92 => ?_) (fun c92 => ?_)
          · refine go_iconst (v := nI 1) (DX3_choose.at 58 rfl) (by decide) ?_
            refine go_goto 105 (DX3_choose.at 59 rfl) (by decide) ?_
            exact next 1 h71 rf71 _ (by decide) (hO.trans o71) n71 (fun k hk => (lo71 k hk).trans (hlo k hk)) (fun _ c h1c h2c => ⟨hi71 c h1c h2c, hB71 c h1c h2c⟩) (hFm.1 (Or.inl (by rcases (show F = 0 ∨ F = 1 by omega) with q | q; (rw [q] at c92; exact absurd rfl c92); exact q)) _)
          · refine go_iload_7 (DX3_choose.at 56 rfl) ?_
            refine go_if_ne 104 (DX3_choose.at 57 rfl) (by decide) (fun c97 => ?_) (fun c97 => ?_)
            · refine go_iconst (v := nI 0) (DX3_choose.at 60 rfl) (by decide) ?_
              exact next 0 h71 rf71 _ (by decide) (hO.trans o71) n71 (fun k hk => (lo71 k hk).trans (hlo k hk)) (fun _ c h1c h2c => ⟨hi71 c h1c h2c, hB71 c h1c h2c⟩) (hFm.2 (by rcases (show F = 0 ∨ F = 1 by omega) with q | q; exact q; (rw [q] at c92; exact absurd c92 (by decide))) (fun q => c97 ((pq_eq0 hRj.2).mpr q)))
            · refine go_iconst (v := nI 1) (DX3_choose.at 58 rfl) (by decide) ?_
              refine go_goto 105 (DX3_choose.at 59 rfl) (by decide) ?_
              exact next 1 h71 rf71 _ (by decide) (hO.trans o71) n71 (fun k hk => (lo71 k hk).trans (hlo k hk)) (fun _ c h1c h2c => ⟨hi71 c h1c h2c, hB71 c h1c h2c⟩) (hFm.1 (Or.inr ((pq_eq0 hRj.2).mp c97)) _)
    refine go_iload_2 (DX3_choose.at 0 rfl) ?_
    refine go_aload_0 (DX3_choose.at 1 rfl) ?_
    refine go_getfield (DX3_choose.at 2 rfl) fX3_15 hN0.1 rfl ?_
    refine go_icmp_lt 21 (DX3_choose.at 3 rfl) (by decide) (fun c5 => ?_) (fun c5 => absurd ((nI_ltI (by omega) (by omega)).mpr hLw') c5)
    refine go_iload_3 (DX3_choose.at 11 rfl) ?_
    refine go_istore_6 (DX3_choose.at 12 rfl) ?_
    exact main (nc g s - fr) fr fd0 ls0 h0 rf0 none (by omega) (Nat.le_refl _) Only.rf hN0 (fun _ _ => rfl) hls0
end SE
