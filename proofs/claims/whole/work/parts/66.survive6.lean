/-! THE MODEL: which sets survive -/
theorem bit_xc {L c x : Nat} (hb : bit L c) : bit (L ^^^ 1 * 2 ^ c) x ↔ bit L x ∧ x ≠ c := by
  rw [Nat.one_mul, bit_tb, bit_tb, Nat.testBit_xor, Nat.testBit_two_pow]
  rw [bit_tb] at hb
  by_cases e : c = x
  · subst e
    simp [hb]
  · simp [e, Ne.symm e]
theorem xc_lt {L c : Nat} (hL : L < 2 ^ 20) (hb : bit L c) : L ^^^ 1 * 2 ^ c < L := by
  have e : L ^^^ 1 * 2 ^ c = clr L c := eq_bits (fun x => by
    rw [bit_xc hb]
    by_cases hx : x < 32
    · rw [bit_clr hx]
    · constructor
      · intro q
        have := bit_big hL q.1
        omega
      · intro q
        have := bit_big (Nat.lt_of_le_of_lt clr_le hL) q
        omega)
  have h1 : L ^^^ 1 * 2 ^ c ≤ L := by rw [e]; exact clr_le
  have h2 : L ^^^ 1 * 2 ^ c ≠ L := fun q => by
    have q2 : bit (L ^^^ 1 * 2 ^ c) c := by rw [q]; exact hb
    exact ((bit_xc hb).mp q2).2 rfl
  omega
theorem IndP.step {C : Nat → Nat → Nat} {L c n : Nat} (hC : ∀ c, c < n → B6 (C c)) (hc : c < n) (hb : bit L c) {l : Nat → Nat} (hl : Dual C L n c l) : IndP C (L ^^^ 1 * 2 ^ c) n ↔ IndP C L n := by
  constructor
  · intro h c' hc' hb'
    by_cases e : c' = c
    · subst e
      exact ⟨l, hl⟩
    · obtain ⟨l', h1, h2, h3⟩ := h c' hc' ((bit_xc hb).mpr ⟨hb', e⟩)
      have hy := ev_lt h1 (hC c hc)
      refine ⟨fun k => l' k ^^^ gm (l k) (ev l' (C c)), h1.xor (hl.1.gm hy), ?_, fun c2 hc2 hb2 hne => ?_⟩
      · rw [ev_xor_l h1 (hl.1.gm hy) (hC c' hc'), ev_gm_l hl.1 (hC c' hc') hy, hl.2.2 c' hc' hb' e, gm_0l hy, h2]
        rfl
      · by_cases e2 : c2 = c
        · subst e2
          rw [ev_xor_l h1 (hl.1.gm hy) (hC c2 hc2), ev_gm_l hl.1 (hC c2 hc2) hy, hl.2.1, gm_1l hy, Nat.xor_self]
        · rw [ev_xor_l h1 (hl.1.gm hy) (hC c2 hc2), ev_gm_l hl.1 (hC c2 hc2) hy, hl.2.2 c2 hc2 hb2 e2, gm_0l hy, h3 c2 hc2 ((bit_xc hb).mpr ⟨hb2, e2⟩) hne]
          rfl
  · intro h
    exact h.less (Nat.le_refl n) (fun c' _ hb' => ((bit_xc hb).mp hb').1)
/-- a cell that is mended within its group or from the data has a functional of its own -/
theorem dual12 {g s T sh M c : Nat} (hL : LayOK g s T sh) (hM : M < 2 ^ 20) (hc : c < nc g s) (hb : bit M c) (h0 : pmv g s c &&& M = 0) : ∃ l, Dual (colv g s) M (nc g s) c l := by
  have hh := hcv_lt hL hc
  have hg : g ≤ 4 := hL.2.1
  have hs : 2 ≤ s := hL.2.2.1
  refine ⟨sgl 1 (hcv g s c), B6.sgl (by decide), ?_, fun c' hc' hb' hne => ?_⟩
  · rw [ev_sgl (fun i _ => colv_lt i) (by omega), colv_home hL hc]
  · rw [ev_sgl (fun i _ => colv_lt i) (by omega)]
    have hx := bit_big hM hb'
    by_cases q : hcv g s c < g
    · have h1 : hcv g s c' ≠ hcv g s c := fun e => and_bit h0 ((pmv_bit (by omega) q (by omega)).mpr ⟨e, hne⟩) hb'
      by_cases q2 : c' < g * s
      · have eh : hcv g s c' = c' / s := if_pos q2
        rw [colv_dk q2 q, if_neg (by omega)]
      · have eh : hcv g s c' = c' - g * s := if_neg q2
        rw [colv_pk q2, if_neg (by omega)]
    · have hd : ¬ c < g * s := fun w => q (hcv_ltg w)
      have eh : hcv g s c = c - g * s := if_neg hd
      have q2 : ¬ c' < g * s := fun w => and_bit h0 (by rw [pmv_d q]; exact bit_m1.mpr w) hb'
      rw [colv_pk q2, if_neg (by omega)]
theorem IndP.zero {C : Nat → Nat → Nat} {n : Nat} : IndP C 0 n := fun c _ hb => absurd hb (nbit0 c)
theorem ndS_bit {nd : Nat → Nat} {M x : Nat} : ∀ j, bit (ndS nd M j) x ↔ ∃ c, c < j ∧ bit M c ∧ nd c = x
  | 0 => ⟨fun q => absurd q (nbit0 x), fun ⟨c, h, _⟩ => absurd h (Nat.not_lt_zero c)⟩
  | j + 1 => by
    have ih := ndS_bit (nd := nd) (M := M) (x := x) j
    show bit (if M / 2 ^ j % 2 = 1 then ndS nd M j ||| 1 * 2 ^ nd j else ndS nd M j ||| 0) x ↔ _
    by_cases q : M / 2 ^ j % 2 = 1
    · rw [if_pos q, Nat.one_mul, bit_or, ih]
      constructor
      · rintro (⟨c, h1, h2, h3⟩ | h)
        · exact ⟨c, by omega, h2, h3⟩
        · exact ⟨j, by omega, q, h.symm⟩
      · rintro ⟨c, h1, h2, h3⟩
        by_cases e : c = j
        · subst e
          exact Or.inr h3.symm
        · exact Or.inl ⟨c, by omega, h2, h3⟩
    · rw [if_neg q, Nat.or_zero, ih]
      constructor
      · rintro ⟨c, h1, h2, h3⟩
        exact ⟨c, by omega, h2, h3⟩
      · rintro ⟨c, h1, h2, h3⟩
        by_cases e : c = j
        · subst e
          exact absurd h2 q
        · exact ⟨c, by omega, h2, h3⟩
theorem ndv_bit {g s sh t A x : Nat} (hn : 0 < nc g s) (hA : A < 2 ^ nc g s) : bit (ndv g s sh t A) x ↔ ∃ c, c < nc g s ∧ bit A c ∧ (c + t * sh) % nc g s = x := by
  generalize hN : nc g s = N at hn hA
  have hr : t * sh % N < N := Nat.mod_lt _ hn
  have em : ∀ c, (c + t * sh) % N = (c + t * sh % N) % N := fun c => by rw [Nat.add_mod_mod]
  unfold ndv
  rw [hN, bit_and, bit_m1]
  generalize t * sh % N = r at hr em
  have e1 : bit (A * 2 ^ r ||| A / 2 ^ (N - r)) x ↔ (r ≤ x ∧ bit A (x - r)) ∨ bit A (x + (N - r)) := by
    rw [bit_tb, bit_tb, bit_tb, Nat.testBit_or, Nat.testBit_mul_two_pow, Nat.testBit_div_two_pow]
    simp
  rw [e1]
  constructor
  · rintro ⟨⟨h1, h2⟩ | h2, hx⟩
    · have h3 := bit_big hA h2
      refine ⟨x - r, h3, h2, ?_⟩
      rw [em, show x - r + r = x by omega, Nat.mod_eq_of_lt hx]
    · have h3 := bit_big hA h2
      refine ⟨x + (N - r), h3, h2, ?_⟩
      rw [em, show x + (N - r) + r = x + N by omega, Nat.add_mod_right, Nat.mod_eq_of_lt hx]
  · rintro ⟨c, h1, h2, h3⟩
    rw [em] at h3
    have hx : x < N := by rw [← h3]; exact Nat.mod_lt _ hn
    refine ⟨?_, hx⟩
    by_cases q : c + r < N
    · rw [Nat.mod_eq_of_lt q] at h3
      left
      exact ⟨by omega, by rw [show x - r = c by omega]; exact h2⟩
    · right
      rw [show c + r = c + r - N + N by omega, Nat.add_mod_right, Nat.mod_eq_of_lt (by omega)] at h3
      rw [show x + (N - r) = c by omega]
      exact h2
theorem ndS_ndv {g s sh t A : Nat} (hn : 0 < nc g s) (hA : A < 2 ^ nc g s) : ndS (fun c => (c + t * sh) % nc g s) A (nc g s) = ndv g s sh t A := eq_bits (fun x => by rw [ndS_bit, ndv_bit hn hA])
theorem ex_bit {M : Nat} : ∀ n, pcn M n ≠ 0 → ∃ c, c < n ∧ bit M c
  | 0, h => absurd rfl h
  | n + 1, h => by
    by_cases q : M / 2 ^ n % 2 = 1
    · exact ⟨n, by omega, q⟩
    · have h2 : pcn M n + M / 2 ^ n % 2 ≠ 0 := h
      obtain ⟨c, h3, h4⟩ := ex_bit (M := M) n (by omega)
      exact ⟨c, by omega, h4⟩
theorem ndv_ne0 {g s sh t A w : Nat} (hn : 0 < nc g s) (hw : 1 ≤ w) (hA : A ∈ cx (nc g s) w) : ndv g s sh t A ≠ 0 := by
  obtain ⟨h1, h2⟩ := (cx_mem _ _ A).mp hA
  obtain ⟨c, h3, h4⟩ := ex_bit (M := A) (nc g s) (by omega)
  intro e
  have q := (ndv_bit (x := (c + t * sh) % nc g s) hn h1).mpr ⟨c, h3, h4, rfl⟩
  rw [e] at q
  exact nbit0 _ q
/-! the order of the sets makes no difference -/
theorem foldl_perm {β : Type} {f : β → Nat → β} {Q : Nat → Prop} (hc : ∀ p a b, Q a → Q b → f (f p a) b = f (f p b) a) {l1 l2 : List Nat} (h : List.Perm l1 l2) : (∀ x, x ∈ l1 → Q x) → ∀ p, l1.foldl f p = l2.foldl f p := by
  induction h with
  | nil => exact fun _ _ => rfl
  | cons x _ ih => exact fun hq p => ih (fun y hy => hq y (List.mem_cons_of_mem _ hy)) (f p x)
  | swap x y l =>
    intro hq p
    show l.foldl f (f (f p y) x) = l.foldl f (f (f p x) y)
    rw [hc p y x (hq y List.mem_cons_self) (hq x (List.mem_cons_of_mem _ List.mem_cons_self))]
  | trans h1 _ ih1 ih2 => exact fun hq p => (ih1 hq p).trans (ih2 (fun y hy => hq y (h1.mem_iff.mpr hy)) p)
def mn0 (a b : Nat) : Nat := if b = 0 ∨ a < b then a else b
theorem mn0_comm {a b x : Nat} (ha : a ≠ 0) (hb : b ≠ 0) : mn0 a (mn0 b x) = mn0 b (mn0 a x) := by
  unfold mn0
  repeat' split
  all_goals omega
theorem nt1_mn {f : Nat → Nat} {b : Nat} (hf : ∀ t, f t ≠ 0) (hb : b ≠ 0) : ∀ t x, nt1 f t (mn0 b x) = mn0 b (nt1 f t x)
  | 0, _ => rfl
  | t + 1, x => by
    show mn0 (f t) (nt1 f t (mn0 b x)) = mn0 b (mn0 (f t) (nt1 f t x))
    rw [nt1_mn hf hb t x, mn0_comm (hf t) hb]
theorem nt1_comm {f g : Nat → Nat} (hf : ∀ t, f t ≠ 0) (hg : ∀ t, g t ≠ 0) (T : Nat) : ∀ t x, nt1 f T (nt1 g t x) = nt1 g t (nt1 f T x)
  | 0, _ => rfl
  | t + 1, x => by
    show nt1 f T (mn0 (g t) (nt1 g t x)) = mn0 (g t) (nt1 g t (nt1 f T x))
    rw [nt1_mn hf (hg t), nt1_comm hf hg T t x]
theorem frun_cx {g s sh T w : Nat} {C : Nat → Nat → Nat} (hn : 0 < nc g s) (h1 : 1 ≤ w) (h4 : w ≤ 4) : frun C g s sh T w = (cx (nc g s) w).foldl (ntF C g s sh T) (0, 0) := by
  show List.foldl (ntF C g s sh T) (0, 0) (dl (nc g s) (nc g s) (min w 4) 0) = _
  rw [Nat.min_eq_left h4]
  have hp := dl_cx (nc g s) w
  refine foldl_perm (Q := fun A => ∀ t, ndv g s sh t A ≠ 0) (fun p a b ha hb => ?_) hp (fun x hx t => ndv_ne0 hn h1 (hp.mem_iff.mp hx)) _
  unfold ntF
  cases depB C (nc g s) a <;> cases depB C (nc g s) b <;> try rfl
  show (p.1 + 1 + 1, nt1 (fun t => ndv g s sh t b) T (nt1 (fun t => ndv g s sh t a) T p.2)) = (p.1 + 1 + 1, nt1 (fun t => ndv g s sh t a) T (nt1 (fun t => ndv g s sh t b) T p.2))
  rw [nt1_comm hb ha]
theorem fold_le {C : Nat → Nat → Nat} {g s sh T : Nat} : ∀ (l : List Nat) (p : Nat × Nat), (l.foldl (ntF C g s sh T) p).1 ≤ p.1 + l.length
  | [], p => Nat.le_refl _
  | a :: l, p => by
    have ih := fold_le (C := C) (g := g) (s := s) (sh := sh) (T := T) l (ntF C g s sh T p a)
    have h1 : (ntF C g s sh T p a).1 ≤ p.1 + 1 := by
      unfold ntF
      cases depB C (nc g s) a
      · exact Nat.le_succ _
      · exact Nat.le_refl _
    show (l.foldl (ntF C g s sh T) (ntF C g s sh T p a)).1 ≤ p.1 + (l.length + 1)
    omega
theorem aRun_lt {A : Ab} {w : Nat} (hA : AOK A) (h1 : 1 ≤ w) (h4 : w ≤ 4) : (aRun A w).1 < 2 ^ 31 := by
  have hn := hA.1.nc
  unfold aRun
  rw [frun_cx (by omega) h1 h4]
  have q := fold_le (C := colv (aG A) (aS A)) (g := aG A) (s := aS A) (sh := aH A) (T := aT A) (cx (nc (aG A) (aS A)) w) (0, 0)
  have q2 := php (2 ^ nc (aG A) (aS A)) _ (cx_nodup (nc (aG A) (aS A)) w) (fun x hx => ((cx_mem _ _ x).mp hx).1)
  have q3 := p20 hn.2
  dsimp only at q
  omega
section M6
variable {E : AEnv} {d : Nat} {h h' : List va_E} {b : Nat} {i : Nat → Int32} {ρ : Nat → Nat → Int32} {A : Ab} {G : Nat → Option va_E}
theorem m_isSurvived {M : Nat} (hMn : M < 2 ^ (nc (aG A) (aS A))) (hX : MX G h b i ρ A) (hd : 6 ≤ d) : Calls E mX6_isSurvived d 0 0 [.ref b, .int (nI M)] h (RI (fun r h' => ∃ f, MdAt G h' b i (rset ρ 10 f) ∧ r = bP (IndP (colv (aG A) (aS A)) M (nc (aG A) (aS A))))) := by
  refine Calls.of (ls := [some (.ref b), some (.int (nI M)), none, none, none]) (by decide +kernel) rfl (Nat.le_of_ble_eq_true rfl) (cat_ok rfl) ?_
  have hM := hX.1
  have hTb := hX.2.1
  have hR := hX.2.2
  have hA := hR.1
  have hn := hA.1.nc
  have hT8 : aT A ≤ 8 := hA.1.2.2.2.2.2.2.1
  have hg4 : aG A ≤ 4 := hA.1.2.1
  have hs6 : aS A ≤ 6 := hA.1.2.2.2.1
  have hs2 : 2 ≤ aS A := hA.1.2.2.1
  have hg1 : 1 ≤ aG A := hA.1.1
  have hgs : aG A * aS A ≤ 15 := hA.1.2.2.2.2.1
  have hH5 : aH A ≤ 5 := hA.1.2.2.2.2.2.2.2
  have en : nc (aG A) (aS A) = aG A * aS A + aG A + 2 := rfl
  have hp20 := p20 hn.2
  have outer : ∀ (m L : Nat) (h : List va_E) (f : Nat → Int32) (x4 : Option Value), L < m → MdAt G h b i (rset ρ 10 f) → L < 2 ^ (nc (aG A) (aS A)) → (IndP (colv (aG A) (aS A)) L (nc (aG A) (aS A)) ↔ IndP (colv (aG A) (aS A)) M (nc (aG A) (aS A))) → Go E mX6_isSurvived d 0 0 4 [some (.ref b), some (.int (nI M)), some (.int (nI L)), some (.int (nI 1)), x4] [] h (RI (fun r h' => ∃ f, MdAt G h' b i (rset ρ 10 f) ∧ r = bP (IndP (colv (aG A) (aS A)) M (nc (aG A) (aS A))))) := by
    intro m
    induction m with
    | zero =>
      intro L h f x4 hm
      exact absurd hm (Nat.not_lt_zero L)
    | succ m ihO =>
      intro L h f x4 hm q hL hI
      refine go_iload_3 (DX6_isSurvived.at 4 rfl) ?_
      refine go_if_eq 60 (DX6_isSurvived.at 5 rfl) (by decide) (fun c5 => absurd c5 (by decide)) (fun c5 => ?_)
      refine go_iconst (v := nI 0) (DX6_isSurvived.at 6 rfl) (by decide) ?_
      refine go_istore_3 (DX6_isSurvived.at 7 rfl) ?_
      refine go_iconst (v := nI 0) (DX6_isSurvived.at 8 rfl) (by decide) ?_
      refine go_istore_4 (DX6_isSurvived.at 9 rfl) ?_
      have inner : ∀ (mm j K gg : Nat) (h : List va_E) (f : Nat → Int32), j + mm = nc (aG A) (aS A) → MdAt G h b i (rset ρ 10 f) → K < 2 ^ (nc (aG A) (aS A)) → (IndP (colv (aG A) (aS A)) K (nc (aG A) (aS A)) ↔ IndP (colv (aG A) (aS A)) M (nc (aG A) (aS A))) → (gg = 1 ∧ K < L ∨ gg = 0 ∧ K = L ∧ ∀ c, c < j → bit L c → ¬ ∃ l, Dual (colv (aG A) (aS A)) L (nc (aG A) (aS A)) c l) → Go E mX6_isSurvived d 0 0 13 [some (.ref b), some (.int (nI M)), some (.int (nI K)), some (.int (nI gg)), some (.int (nI j))] [] h (RI (fun r h' => ∃ f, MdAt G h' b i (rset ρ 10 f) ∧ r = bP (IndP (colv (aG A) (aS A)) M (nc (aG A) (aS A))))) := by
        intro mm
        induction mm with
        | zero =>
          intro j K gg h f hj q hK hI hg
          have ej : nc (aG A) (aS A) = j := by omega
          subst ej
          refine go_iload_4 (DX6_isSurvived.at 10 rfl) ?_
          refine go_aload_0 (DX6_isSurvived.at 11 rfl) ?_
          refine go_cVx0 (DX6_isSurvived.at 12 rfl) nX6_59 vX6_cells (by omega) (m_cells (hX.row10 q) (by omega)) q.1 rfl (Nat.le_of_ble_eq_true rfl) ?_
          refine go_icmp_ge 57 (DX6_isSurvived.at 13 rfl) (by decide) (fun c19 => ?_) (fun c19 => absurd (Int32.le_refl _) c19)
          refine go_goto 4 (DX6_isSurvived.at 36 rfl) (by decide) ?_
          rcases hg with ⟨rfl, hlt⟩ | ⟨rfl, rfl, hno⟩
          · exact ihO K h f _ (by omega) q hK hI
          · refine go_iload_3 (DX6_isSurvived.at 4 rfl) ?_
            refine go_if_eq 60 (DX6_isSurvived.at 5 rfl) (by decide) (fun c5 => ?_) (fun c5 => absurd rfl c5)
            refine go_iload_2 (DX6_isSurvived.at 37 rfl) ?_
            refine go_if_ne 68 (DX6_isSurvived.at 38 rfl) (by decide) (fun c61 => ?_) (fun c61 => ?_)
            · have e0 : bP (IndP (colv (aG A) (aS A)) M (nc (aG A) (aS A))) = nI 0 := bP_f (fun w => by
                have w2 := hI.mpr w
                rw [nI_eq0 (by omega)] at c61
                obtain ⟨c, hc, hb⟩ : ∃ c, c < nc (aG A) (aS A) ∧ bit K c := by
                  apply Classical.byContradiction
                  intro q
                  apply c61
                  apply eq_bits
                  intro x
                  refine ⟨fun hb => ?_, fun hb => absurd hb (nbit0 x)⟩
                  exact absurd ⟨x, bit_big hK hb, hb⟩ q
                exact hno c hc hb (w2 c hc hb))
              refine go_iconst (v := nI 0) (DX6_isSurvived.at 41 rfl) (by decide) ?_
              exact go_iret (DX6_isSurvived.at 42 rfl) rfl rfl (RI.mk ⟨f, q, e0.symm⟩)
            · rw [nI_eq0 (by omega)] at c61
              have e0 : bP (IndP (colv (aG A) (aS A)) M (nc (aG A) (aS A))) = nI 1 := bP_t (hI.mp (by rw [c61]; exact IndP.zero))
              refine go_iconst (v := nI 1) (DX6_isSurvived.at 39 rfl) (by decide) ?_
              refine go_goto 69 (DX6_isSurvived.at 40 rfl) (by decide) ?_
              exact go_iret (DX6_isSurvived.at 42 rfl) rfl rfl (RI.mk ⟨f, q, e0.symm⟩)
        | succ mm ihI =>
          intro j K gg h f hj q hK hI hg
          refine go_iload_4 (DX6_isSurvived.at 10 rfl) ?_
          refine go_aload_0 (DX6_isSurvived.at 11 rfl) ?_
          refine go_cVx0 (DX6_isSurvived.at 12 rfl) nX6_59 vX6_cells (by omega) (m_cells (hX.row10 q) (by omega)) q.1 rfl (Nat.le_of_ble_eq_true rfl) ?_
          refine go_icmp_ge 57 (DX6_isSurvived.at 13 rfl) (by decide) (fun c19 => absurd c19 (nI_ge (by omega) (by omega))) (fun c19 => ?_)
          refine go_iload_2 (DX6_isSurvived.at 14 rfl) ?_
          refine go_iload_4 (DX6_isSurvived.at 15 rfl) ?_
          refine go_ishr (DX6_isSurvived.at 16 rfl) ?_
          refine go_iconst (v := nI 1) (DX6_isSurvived.at 17 rfl) (by decide) ?_
          refine go_iand (DX6_isSurvived.at 18 rfl) ?_
          refine go_iconst (v := nI 1) (DX6_isSurvived.at 19 rfl) (by decide) ?_
          refine go_icmp_ne 51 (DX6_isSurvived.at 20 rfl) (by decide) (fun c29 => ?_) (fun c29 => ?_)
          · rw [nx_bit (by omega) (by omega), nI_eq (by omega) (by decide)] at c29
            refine go_iincN_4 (DX6_isSurvived.at 34 rfl) ?_
            refine go_goto 13 (DX6_isSurvived.at 35 rfl) (by decide) ?_
            first
              | exact ihI (j + 1) _ _ h f (by omega) q hK hI (hg.elim Or.inl (fun w => Or.inr ⟨w.1, w.2.1, fun c hc hb => by
                  by_cases e : c = j
                  · exact absurd (by rw [← e, w.2.1]; exact hb) c29
                  · exact w.2.2 c (by omega) hb⟩))
              | exact ihI (j + 1) _ _ h36 f2 (by omega) q36 hK hI (hg.elim Or.inl (fun w => Or.inr ⟨w.1, w.2.1, fun c hc hb => by
                  by_cases e : c = j
                  · rw [e, ← w.2.1]
                    exact hno2
                  · exact w.2.2 c (by omega) hb⟩))
              | exact ihI (j + 1) _ _ h36 f2 (by omega) q36 (by omega) ((IndP.step (fun c _ i _ => colv_lt i) (by omega) c29 hl2).trans hI) (Or.inl ⟨rfl, by rcases hg with w | w <;> omega⟩)
          · rw [nx_bit (by omega) (by omega), nI_eq (by omega) (by decide)] at c29
            refine go_aload_0 (DX6_isSurvived.at 21 rfl) ?_
            refine go_iload_2 (DX6_isSurvived.at 22 rfl) ?_
            refine go_iload_4 (DX6_isSurvived.at 23 rfl) ?_
            refine go_cVi2 (DX6_isSurvived.at 24 rfl) nX6_117 vX6_wayOf (by omega) (m_wayOf hK (show j < nc (aG A) (aS A) by omega) c29 (hX.row10 q) (by omega)) q.1 rfl (Nat.le_of_ble_eq_true rfl) (fun x36 h36 q36 => ?_)
            obtain ⟨f2, q36, w36⟩ := q36
            rw [rset_rset] at q36
            have hd12 : 0 < x36 ∧ (∃ l, Dual (colv (aG A) (aS A)) K (nc (aG A) (aS A)) j l) ∨ x36 = 0 ∧ ¬ ∃ l, Dual (colv (aG A) (aS A)) K (nc (aG A) (aS A)) j l := by
              rcases w36 with ⟨h0, rfl⟩ | ⟨-, hl, rfl⟩ | ⟨-, hl, rfl⟩
              · refine Or.inl ⟨?_, dual12 hA.1 (by omega) (by omega) c29 h0⟩
                split <;> decide
              · exact Or.inl ⟨by decide, hl⟩
              · exact Or.inr ⟨rfl, hl⟩
            refine go_if_le 51 (DX6_isSurvived.at 25 rfl) (by decide) (fun c39 => ?_) (fun c39 => ?_)
            · have hno2 : ¬ ∃ l, Dual (colv (aG A) (aS A)) K (nc (aG A) (aS A)) j l := hd12.elim (fun w => absurd w.1 (Int32.not_lt.mpr c39)) (fun w => w.2)
              refine go_iincN_4 (DX6_isSurvived.at 34 rfl) ?_
              refine go_goto 13 (DX6_isSurvived.at 35 rfl) (by decide) ?_
              first
                | exact ihI (j + 1) _ _ h f (by omega) q hK hI (hg.elim Or.inl (fun w => Or.inr ⟨w.1, w.2.1, fun c hc hb => by
                    by_cases e : c = j
                    · exact absurd (by rw [← e, w.2.1]; exact hb) c29
                    · exact w.2.2 c (by omega) hb⟩))
                | exact ihI (j + 1) _ _ h36 f2 (by omega) q36 hK hI (hg.elim Or.inl (fun w => Or.inr ⟨w.1, w.2.1, fun c hc hb => by
                    by_cases e : c = j
                    · rw [e, ← w.2.1]
                      exact hno2
                    · exact w.2.2 c (by omega) hb⟩))
                | exact ihI (j + 1) _ _ h36 f2 (by omega) q36 (by omega) ((IndP.step (fun c _ i _ => colv_lt i) (by omega) c29 hl2).trans hI) (Or.inl ⟨rfl, by rcases hg with w | w <;> omega⟩)
            · have hl2 : ∃ l, Dual (colv (aG A) (aS A)) K (nc (aG A) (aS A)) j l := hd12.elim (fun w => w.2) (fun w => absurd (show x36 ≤ 0 by rw [w.1]; exact Int32.le_refl _) c39)
              obtain ⟨l2, hl2⟩ := hl2
              have hxl := xc_lt (show K < 2 ^ 20 by omega) c29
              refine go_iload_2 (DX6_isSurvived.at 26 rfl) ?_
              refine go_iconst (v := nI 1) (DX6_isSurvived.at 27 rfl) (by decide) ?_
              refine go_iload_4 (DX6_isSurvived.at 28 rfl) ?_
              refine go_ishl (DX6_isSurvived.at 29 rfl) ?_
              rw [nx_shlW 1 (by omega)]
              refine go_ixor (DX6_isSurvived.at 30 rfl) ?_
              rw [nx_xor]
              refine go_istore_2 (DX6_isSurvived.at 31 rfl) ?_
              refine go_iconst (v := nI 1) (DX6_isSurvived.at 32 rfl) (by decide) ?_
              refine go_istore_3 (DX6_isSurvived.at 33 rfl) ?_
              refine go_iincN_4 (DX6_isSurvived.at 34 rfl) ?_
              refine go_goto 13 (DX6_isSurvived.at 35 rfl) (by decide) ?_
              first
                | exact ihI (j + 1) _ _ h f (by omega) q hK hI (hg.elim Or.inl (fun w => Or.inr ⟨w.1, w.2.1, fun c hc hb => by
                    by_cases e : c = j
                    · exact absurd (by rw [← e, w.2.1]; exact hb) c29
                    · exact w.2.2 c (by omega) hb⟩))
                | exact ihI (j + 1) _ _ h36 f2 (by omega) q36 hK hI (hg.elim Or.inl (fun w => Or.inr ⟨w.1, w.2.1, fun c hc hb => by
                    by_cases e : c = j
                    · rw [e, ← w.2.1]
                      exact hno2
                    · exact w.2.2 c (by omega) hb⟩))
                | exact ihI (j + 1) _ _ h36 f2 (by omega) q36 (by omega) ((IndP.step (fun c _ i _ => colv_lt i) (by omega) c29 hl2).trans hI) (Or.inl ⟨rfl, by rcases hg with w | w <;> omega⟩)
      exact inner (nc (aG A) (aS A)) 0 L 0 h f (Nat.zero_add _) q hL hI (Or.inr ⟨rfl, rfl, fun c hc => absurd hc (Nat.not_lt_zero c)⟩)
  refine go_iload_1 (DX6_isSurvived.at 0 rfl) ?_
  refine go_istore_2 (DX6_isSurvived.at 1 rfl) ?_
  refine go_iconst (v := nI 1) (DX6_isSurvived.at 2 rfl) (by decide) ?_
  refine go_istore_3 (DX6_isSurvived.at 3 rfl) ?_
  exact outer (M + 1) M h (ρ 10) _ (by omega) (by rw [rset_self]; exact hM) hMn Iff.rfl

end M6
