/-! THE MODEL: orders are read from the text, and carried out -/
/-- only 'at' has changed, to q -/
def IU (i i' : Nat → Int32) (q : Nat) : Prop := i' 3 = nI q ∧ ∀ s, s ≠ 3 → i' s = i s
theorem IU.rf {i : Nat → Int32} {q : Nat} (h : i 3 = nI q) : IU i i q := ⟨h, fun _ _ => rfl⟩
theorem IU.trans {i i' i2 : Nat → Int32} {q r : Nat} (u : IU i i' q) (v : IU i' i2 r) : IU i i2 r := ⟨v.1, fun s hs => (v.2 s hs).trans (u.2 s hs)⟩
theorem IU.up {i : Nat → Int32} {q : Nat} : IU i (upd i 3 (nI q)) q := ⟨pk_us, fun s hs => pk_un hs⟩
def plR (Y : Nat → Nat) (N q : Nat) : Bool × Nat := if dgt Y N q then (if q + 1 < N ∧ Y (q + 1) = 46 then (if dgt Y N (q + 2) then (true, nme Y N (q + 2)) else (false, q + 2)) else (false, q + 1)) else (false, q)
theorem ff_ne {n : Nat} : ¬ ((false, n) : Bool × Nat).1 = true := Bool.false_ne_true
theorem ordR_n {Y : Nat → Nat} {N p : Nat} (h : p < N) (hy : Y p = 110) : ordR Y N p = if dgt Y N (p + 1) then (true, nme Y N (p + 1)) else (false, p + 1) := by
  unfold ordR
  rw [if_pos ⟨h, hy⟩]
theorem ordR_p {Y : Nat → Nat} {N p : Nat} (h : p < N) (hy : Y p = 120 ∨ Y p = 109) : ordR Y N p = plR Y N (p + 1) := by
  unfold ordR plR
  rw [if_neg (by omega), if_pos ⟨h, by omega⟩]
  by_cases q1 : dgt Y N (p + 1)
  · rw [if_pos q1, if_pos q1]
    by_cases q2 : p + 2 < N ∧ Y (p + 2) = 46
    · rw [if_pos q2, if_pos (show p + 1 + 1 < N ∧ Y (p + 1 + 1) = 46 from q2)]
      by_cases q3 : dgt Y N (p + 3)
      · rw [if_pos q3, if_pos (show dgt Y N (p + 1 + 2) from q3), if_neg (by omega)]
      · rw [if_neg q3, if_neg (show ¬ dgt Y N (p + 1 + 2) from q3)]
    · rw [if_neg q2, if_neg (show ¬ (p + 1 + 1 < N ∧ Y (p + 1 + 1) = 46) from q2)]
  · rw [if_neg q1, if_neg q1]
theorem ordR_w {Y : Nat → Nat} {N p : Nat} (h : p < N) (hy : Y p = 119) : ordR Y N p = if (plR Y N (p + 1)).1 = true then (if (plR Y N (p + 1)).2 < N ∧ Y (plR Y N (p + 1)).2 = 61 then (if dgt Y N ((plR Y N (p + 1)).2 + 1) then (true, nme Y N ((plR Y N (p + 1)).2 + 1)) else (false, (plR Y N (p + 1)).2 + 1)) else (false, (plR Y N (p + 1)).2)) else plR Y N (p + 1) := by
  unfold ordR plR
  rw [if_neg (by omega), if_pos ⟨h, by omega⟩]
  by_cases q1 : dgt Y N (p + 1)
  · rw [if_pos q1, if_pos q1]
    by_cases q2 : p + 2 < N ∧ Y (p + 2) = 46
    · rw [if_pos q2, if_pos (show p + 1 + 1 < N ∧ Y (p + 1 + 1) = 46 from q2)]
      by_cases q3 : dgt Y N (p + 3)
      · rw [if_pos q3, if_pos (show dgt Y N (p + 1 + 2) from q3), if_pos hy, if_pos rfl]
      · rw [if_neg q3, if_neg (show ¬ dgt Y N (p + 1 + 2) from q3), if_neg ff_ne]
    · rw [if_neg q2, if_neg (show ¬ (p + 1 + 1 < N ∧ Y (p + 1 + 1) = 46) from q2), if_neg ff_ne]
  · rw [if_neg q1, if_neg q1, if_neg ff_ne]
theorem ordR_no {Y : Nat → Nat} {N p : Nat} (h : ¬ (p < N ∧ (Y p = 119 ∨ Y p = 120 ∨ Y p = 110 ∨ Y p = 109))) : ordR Y N p = (false, p) := by
  unfold ordR
  rw [if_neg (by omega), if_neg (by omega)]
theorem plR_t {Y : Nat → Nat} {N q : Nat} (h : (plR Y N q).1 = true) : plR Y N q = (true, nme Y N (q + 2)) ∧ dgt Y N q ∧ dgt Y N (q + 2) ∧ (plR Y N q).2 ≤ N := by
  unfold plR at h ⊢
  by_cases q1 : dgt Y N q
  · rw [if_pos q1] at h ⊢
    by_cases q2 : q + 1 < N ∧ Y (q + 1) = 46
    · rw [if_pos q2] at h ⊢
      by_cases q3 : dgt Y N (q + 2)
      · rw [if_pos q3]
        exact ⟨rfl, q1, q3, (nme_le q3.1).2⟩
      · rw [if_neg q3] at h
        cases h
    · rw [if_neg q2] at h
      cases h
  · rw [if_neg q1] at h
    cases h
section M6
variable {E : AEnv} {d : Nat} {h h' : List va_E} {b : Nat} {i : Nat → Int32} {ρ : Nat → Nat → Int32} {G : Nat → Option va_E} {Y : Nat → Nat} {N p : Nat}
theorem m_next (hM : MdAt G h b i ρ) (hT : TxtIs (ρ 5) Y N) (hN : i 2 = nI N) (hp : i 3 = nI p) (hp2 : p < 2 ^ 30) : Calls E mX6_next d 0 0 [.ref b] h (RX (if p < N then nI (Y p) else (-1)) h) := by
  refine Calls.of (ls := [some (.ref b)]) (by decide +kernel) rfl (Nat.le_of_ble_eq_true rfl) (cat_ok rfl) ?_
  have hN60 := hT.1
  refine go_aload_0 (DX6_next.at 0 rfl) ?_
  refine go_getfield (DX6_next.at 1 rfl) fX6_185 hM.1 rfl ?_
  rw [hp]
  refine go_aload_0 (DX6_next.at 2 rfl) ?_
  refine go_getfield (DX6_next.at 3 rfl) fX6_182 hM.1 rfl ?_
  rw [hN]
  refine go_icmp_ge 23 (DX6_next.at 4 rfl) (by decide) (fun c8 => ?_) (fun c8 => ?_)
  · rw [nI_leI (by omega) (by omega)] at c8
    refine go_iconst (v := (-1)) (DX6_next.at 11 rfl) (by decide) ?_
    exact go_iret (DX6_next.at 12 rfl) rfl rfl (RX.mk (by first | rw [if_neg (by omega)] | rw [if_pos hl]) rfl)
  · rw [nI_leI (by omega) (by omega)] at c8
    have hl : p < N := by omega
    refine go_aload_0 (DX6_next.at 5 rfl) ?_
    refine go_getfield (DX6_next.at 6 rfl) fX6_22 hM.1 rfl ?_
    refine go_aload_0 (DX6_next.at 7 rfl) ?_
    refine go_getfield (DX6_next.at 8 rfl) fX6_185 hM.1 rfl ?_
    rw [hp]
    refine go_ialdM (DX6_next.at 9 rfl) (hM.2.1 5 (by decide)) (show p < 60 by omega) (by decide) ?_
    rw [(hT.2 p hl).1]
    refine go_goto 24 (DX6_next.at 10 rfl) (by decide) ?_
    exact go_iret (DX6_next.at 12 rfl) rfl rfl (RX.mk (by first | rw [if_neg (by omega)] | rw [if_pos hl]) rfl)

theorem m_takes (hM : MdAt G h b i ρ) (hT : TxtIs (ρ 5) Y N) (hN : i 2 = nI N) (hp : i 3 = nI p) (hp2 : p < 2 ^ 30) {wn : Nat} (hw : wn < 65536) (hd : 1 ≤ d) : Calls E mX6_takes d 0 0 [.ref b, .int (nI wn)] h (RI (fun x h' => ∃ i', MdAt G h' b i' ρ ∧ ((p < N ∧ Y p = wn ∧ x = nI 1 ∧ IU i i' (p + 1)) ∨ (¬ (p < N ∧ Y p = wn) ∧ x = nI 0 ∧ IU i i' p)))) := by
  refine Calls.of (ls := [some (.ref b), some (.int (nI wn)), none]) (by decide +kernel) rfl (Nat.le_of_ble_eq_true rfl) (cat_ok rfl) ?_
  have hN60 := hT.1
  have hiff : (if p < N then nI (Y p) else (-1)) = nI wn ↔ p < N ∧ Y p = wn := by
    by_cases q : p < N
    · rw [if_pos q, nI_eq (by have := (hT.2 p q).2; omega) (by omega)]
      exact ⟨fun e => ⟨q, e⟩, fun e => e.2⟩
    · rw [if_neg q]
      exact ⟨fun e => absurd e.symm (nI_ne1 (by omega)), fun e => absurd e.1 q⟩
  refine go_aload_0 (DX6_takes.at 0 rfl) ?_
  refine go_cVx0 (DX6_takes.at 1 rfl) nX6_188 vX6_next (by omega) (m_next hM hT hN hp hp2) hM.1 rfl (Nat.le_of_ble_eq_true rfl) ?_
  refine go_iload_1 (DX6_takes.at 2 rfl) ?_
  refine go_icmp_ne 12 (DX6_takes.at 3 rfl) (by decide) (fun c5 => ?_) (fun c5 => ?_)
  · rw [hiff] at c5
    refine go_iconst (v := nI 0) (DX6_takes.at 6 rfl) (by decide) ?_
    refine go_istore_2 (DX6_takes.at 7 rfl) ?_
    refine go_aload_0 (DX6_takes.at 8 rfl) ?_
    refine go_dup (DX6_takes.at 9 rfl) rfl ?_
    refine go_getfield (DX6_takes.at 10 rfl) fX6_185 hM.1 rfl ?_
    rw [hp]
    refine go_iload_2 (DX6_takes.at 11 rfl) ?_
    refine go_if_eq 27 (DX6_takes.at 12 rfl) (by decide) (fun c20 => ?_) (fun c20 => absurd rfl c20)
    refine go_iconst (v := nI 0) (DX6_takes.at 15 rfl) (by decide) ?_
    refine go_iadd (DX6_takes.at 16 rfl) ?_
    rw [nI_add]
    refine go_putM6 (kf := 8) (s := 3) (DX6_takes.at 17 rfl) fX6_185 (by decide) hM (fun h29 q29 => ?_)
    refine go_iload_2 (DX6_takes.at 18 rfl) ?_
    exact go_iret (DX6_takes.at 19 rfl) rfl rfl (RI.mk ⟨_, q29, Or.inr ⟨c5, rfl, IU.up⟩⟩)
  · rw [hiff] at c5
    refine go_iconst (v := nI 1) (DX6_takes.at 4 rfl) (by decide) ?_
    refine go_goto 13 (DX6_takes.at 5 rfl) (by decide) ?_
    refine go_istore_2 (DX6_takes.at 7 rfl) ?_
    refine go_aload_0 (DX6_takes.at 8 rfl) ?_
    refine go_dup (DX6_takes.at 9 rfl) rfl ?_
    refine go_getfield (DX6_takes.at 10 rfl) fX6_185 hM.1 rfl ?_
    rw [hp]
    refine go_iload_2 (DX6_takes.at 11 rfl) ?_
    refine go_if_eq 27 (DX6_takes.at 12 rfl) (by decide) (fun c20 => absurd c20 (by decide)) (fun c20 => ?_)
    refine go_iconst (v := nI 1) (DX6_takes.at 13 rfl) (by decide) ?_
    refine go_goto 28 (DX6_takes.at 14 rfl) (by decide) ?_
    refine go_iadd (DX6_takes.at 16 rfl) ?_
    rw [nI_add]
    refine go_putM6 (kf := 8) (s := 3) (DX6_takes.at 17 rfl) fX6_185 (by decide) hM (fun h29 q29 => ?_)
    refine go_iload_2 (DX6_takes.at 18 rfl) ?_
    exact go_iret (DX6_takes.at 19 rfl) rfl rfl (RI.mk ⟨_, q29, Or.inl ⟨c5.1, c5.2, rfl, IU.up⟩⟩)

theorem dgt_iff (hT : TxtIs (ρ 5) Y N) : (nI 48 ≤ (if p < N then nI (Y p) else (-1)) ∧ (if p < N then nI (Y p) else (-1)) ≤ nI 57) ↔ dgt Y N p := by
  by_cases q : p < N
  · have h1 := (hT.2 p q).2
    rw [if_pos q, nI_leI (by decide) (by omega), nI_leI (by omega) (by decide)]
    exact ⟨fun e => ⟨q, e.1, e.2⟩, fun e => ⟨e.2.1, e.2.2⟩⟩
  · rw [if_neg q]
    exact ⟨fun e => absurd e.1 (by decide), fun e => absurd e.1 q⟩
theorem m_readsDigit (hM : MdAt G h b i ρ) (hT : TxtIs (ρ 5) Y N) (hN : i 2 = nI N) (hp : i 3 = nI p) (hp2 : p < 2 ^ 30) {k : Nat} (hk : k < 3) (hd : 1 ≤ d) : Calls E mX6_readsDigit d 0 0 [.ref b, .int (nI k)] h (RI (fun x h' => ∃ i' f, MdAt G h' b i' (rset ρ 6 f) ∧ ((dgt Y N p ∧ x = nI 1 ∧ IU i i' (p + 1) ∧ f = upd (ρ 6) k (nI (Y p - 48))) ∨ (¬ dgt Y N p ∧ x = nI 0 ∧ IU i i' p)))) := by
  refine Calls.of (ls := [some (.ref b), some (.int (nI k)), none]) (by decide +kernel) rfl (Nat.le_of_ble_eq_true rfl) (cat_ok rfl) ?_
  have hN60 := hT.1
  refine go_aload_0 (DX6_readsDigit.at 0 rfl) ?_
  refine go_cVx0 (DX6_readsDigit.at 1 rfl) nX6_188 vX6_next (by omega) (m_next hM hT hN hp hp2) hM.1 rfl (Nat.le_of_ble_eq_true rfl) ?_
  refine go_bipush (v := nI 48) (DX6_readsDigit.at 2 rfl) (by decide) ?_
  refine go_bipush (v := nI 57) (DX6_readsDigit.at 3 rfl) (by decide) ?_
  refine go_cSx3 (DX6_readsDigit.at 4 rfl) nX6_51 vX6_within (by omega) c_within (Nat.le_of_ble_eq_true rfl) ?_
  by_cases hdg : dgt Y N p
  · rw [bI_t ((dgt_iff hT).mpr hdg)]
    refine go_istore_2 (DX6_readsDigit.at 5 rfl) ?_
    refine go_aload_0 (DX6_readsDigit.at 6 rfl) ?_
    refine go_getfield (DX6_readsDigit.at 7 rfl) fX6_25 hM.1 rfl ?_
    refine go_iload_1 (DX6_readsDigit.at 8 rfl) ?_
    refine go_aload_0 (DX6_readsDigit.at 9 rfl) ?_
    refine go_cVx0 (DX6_readsDigit.at 10 rfl) nX6_188 vX6_next (by omega) (m_next hM hT hN hp hp2) hM.1 rfl (Nat.le_of_ble_eq_true rfl) ?_
    rw [if_pos hdg.1]
    refine go_bipush (v := nI 48) (DX6_readsDigit.at 11 rfl) (by decide) ?_
    refine go_isub (DX6_readsDigit.at 12 rfl) ?_
    rw [pk_sub (by have := hdg.2.1; omega)]
    refine go_iastM (DX6_readsDigit.at 13 rfl) hM (a := 6) (by decide) (show k < 3 by omega) (fun h24 q24 => ?_)
    refine go_aload_0 (DX6_readsDigit.at 14 rfl) ?_
    refine go_dup (DX6_readsDigit.at 15 rfl) rfl ?_
    refine go_getfield (DX6_readsDigit.at 16 rfl) fX6_185 q24.1 rfl ?_
    rw [hp]
    refine go_iload_2 (DX6_readsDigit.at 17 rfl) ?_
    refine go_if_eq 38 (DX6_readsDigit.at 18 rfl) (by decide) (fun c31 => absurd c31 (by decide)) (fun c31 => ?_)
    refine go_iconst (v := nI 1) (DX6_readsDigit.at 19 rfl) (by decide) ?_
    refine go_goto 39 (DX6_readsDigit.at 20 rfl) (by decide) ?_
    refine go_iadd (DX6_readsDigit.at 22 rfl) ?_
    rw [nI_add]
    refine go_putM6 (kf := 8) (s := 3) (DX6_readsDigit.at 23 rfl) fX6_185 (by decide) q24 (fun h40 q40 => ?_)
    refine go_iload_2 (DX6_readsDigit.at 24 rfl) ?_
    exact go_iret (DX6_readsDigit.at 25 rfl) rfl rfl (RI.mk ⟨_, _, q40, Or.inl ⟨hdg, rfl, IU.up, rfl⟩⟩)
  · rw [bI_f (fun w => hdg ((dgt_iff hT).mp w))]
    refine go_istore_2 (DX6_readsDigit.at 5 rfl) ?_
    refine go_aload_0 (DX6_readsDigit.at 6 rfl) ?_
    refine go_getfield (DX6_readsDigit.at 7 rfl) fX6_25 hM.1 rfl ?_
    refine go_iload_1 (DX6_readsDigit.at 8 rfl) ?_
    refine go_aload_0 (DX6_readsDigit.at 9 rfl) ?_
    refine go_cVx0 (DX6_readsDigit.at 10 rfl) nX6_188 vX6_next (by omega) (m_next hM hT hN hp hp2) hM.1 rfl (Nat.le_of_ble_eq_true rfl) ?_
    refine go_bipush (v := nI 48) (DX6_readsDigit.at 11 rfl) (by decide) ?_
    refine go_isub (DX6_readsDigit.at 12 rfl) ?_
    refine go_iastM (DX6_readsDigit.at 13 rfl) hM (a := 6) (by decide) (show k < 3 by omega) (fun h24 q24 => ?_)
    refine go_aload_0 (DX6_readsDigit.at 14 rfl) ?_
    refine go_dup (DX6_readsDigit.at 15 rfl) rfl ?_
    refine go_getfield (DX6_readsDigit.at 16 rfl) fX6_185 q24.1 rfl ?_
    rw [hp]
    refine go_iload_2 (DX6_readsDigit.at 17 rfl) ?_
    refine go_if_eq 38 (DX6_readsDigit.at 18 rfl) (by decide) (fun c31 => ?_) (fun c31 => absurd rfl c31)
    refine go_iconst (v := nI 0) (DX6_readsDigit.at 21 rfl) (by decide) ?_
    refine go_iadd (DX6_readsDigit.at 22 rfl) ?_
    rw [nI_add]
    refine go_putM6 (kf := 8) (s := 3) (DX6_readsDigit.at 23 rfl) fX6_185 (by decide) q24 (fun h40 q40 => ?_)
    refine go_iload_2 (DX6_readsDigit.at 24 rfl) ?_
    exact go_iret (DX6_readsDigit.at 25 rfl) rfl rfl (RI.mk ⟨_, _, q40, Or.inr ⟨hdg, rfl, IU.up⟩⟩)
  

theorem m_readsNumber (hM : MdAt G h b i ρ) (hT : TxtIs (ρ 5) Y N) (hN : i 2 = nI N) (hp : i 3 = nI p) (hp2 : p < 2 ^ 30) {k : Nat} (hk : k < 3) (hd : 2 ≤ d) : Calls E mX6_readsNumber d 0 0 [.ref b, .int (nI k)] h (RI (fun x h' => ∃ i' f, MdAt G h' b i' (rset ρ 6 f) ∧ ((dgt Y N p ∧ x = nI 1 ∧ IU i i' (nme Y N p) ∧ f = upd (ρ 6) k (nI (nmv Y N p))) ∨ (¬ dgt Y N p ∧ x = nI 0 ∧ IU i i' p)))) := by
  refine Calls.of (ls := [some (.ref b), some (.int (nI k))]) (by decide +kernel) rfl (Nat.le_of_ble_eq_true rfl) (cat_ok rfl) ?_
  have hN60 := hT.1
  refine go_aload_0 (DX6_readsNumber.at 0 rfl) ?_
  refine go_iload_1 (DX6_readsNumber.at 1 rfl) ?_
  refine go_cVi1 (DX6_readsNumber.at 2 rfl) nX6_191 vX6_readsDigit (by omega) (m_readsDigit hM hT hN hp hp2 hk (by omega)) hM.1 rfl (Nat.le_of_ble_eq_true rfl) (fun x2 h2 q2 => ?_)
  obtain ⟨i1, f1, q2, ⟨hdg, rfl, u2, rfl⟩ | ⟨hdg, rfl, u2⟩⟩ := q2
  · have hT2 : TxtIs (rset ρ 6 (upd (ρ 6) k (nI (Y p - 48))) 5) Y N := hT
    have hy57 := hdg.2.2
    have hy48 := hdg.2.1
    refine go_if_ne 10 (DX6_readsNumber.at 3 rfl) (by decide) (fun c5 => ?_) (fun c5 => absurd c5 (by decide))
    refine go_aload_0 (DX6_readsNumber.at 6 rfl) ?_
    refine go_getfield (DX6_readsNumber.at 7 rfl) fX6_25 q2.1 rfl ?_
    refine go_iload_1 (DX6_readsNumber.at 8 rfl) ?_
    refine go_ialdM (DX6_readsNumber.at 9 rfl) (q2.2.1 6 (by decide)) (show k < 3 by omega) (by decide) ?_
    rw [rset_s, pk_us]
    refine go_if_le 66 (DX6_readsNumber.at 10 rfl) (by decide) (fun c16 => ?_) (fun c16 => ?_)
    · rw [show (0 : Int32) = nI 0 from rfl, nI_leI (by omega) (by decide)] at c16
      have e0 : nmv Y N p = Y p - 48 ∧ nme Y N p = p + 1 := by
        unfold nmv nme
        rw [if_pos (show Y p = 48 by omega), if_pos (show Y p = 48 by omega)]
        exact ⟨by omega, rfl⟩
      refine go_iconst (v := nI 1) (DX6_readsNumber.at 38 rfl) (by decide) ?_
      exact go_iret (DX6_readsNumber.at 39 rfl) rfl rfl (RI.mk (by first | exact ⟨_, _, q63, Or.inl ⟨hdg, rfl, by rw [e0.2]; exact u2.trans IU.up, rfl⟩⟩ | exact ⟨i1, _, q2, Or.inl ⟨hdg, rfl, by rw [e0.2]; exact u2, by rw [e0.1]⟩⟩))
    · rw [show (0 : Int32) = nI 0 from rfl, nI_leI (by omega) (by decide)] at c16
      refine go_aload_0 (DX6_readsNumber.at 11 rfl) ?_
      refine go_cVx0 (DX6_readsNumber.at 12 rfl) nX6_188 vX6_next (by omega) (m_next (p := p + 1) q2 hT2 ((u2.2 2 (by decide)).trans hN) u2.1 (by omega)) q2.1 rfl (Nat.le_of_ble_eq_true rfl) ?_
      refine go_bipush (v := nI 48) (DX6_readsNumber.at 13 rfl) (by decide) ?_
      refine go_bipush (v := nI 57) (DX6_readsNumber.at 14 rfl) (by decide) ?_
      refine go_cSx3 (DX6_readsNumber.at 15 rfl) nX6_51 vX6_within (by omega) c_within (Nat.le_of_ble_eq_true rfl) ?_
      refine go_if_eq 66 (DX6_readsNumber.at 16 rfl) (by decide) (fun c30 => ?_) (fun c30 => ?_)
      · rw [bI_eq0, dgt_iff hT2] at c30
        have e0 : nmv Y N p = Y p - 48 ∧ nme Y N p = p + 1 := by
          unfold nmv nme
          rw [if_neg (show ¬ Y p = 48 by omega), if_neg (show ¬ Y p = 48 by omega), if_neg (fun w => c30 w), if_neg (fun w => c30 w)]
          exact ⟨rfl, rfl⟩
        refine go_iconst (v := nI 1) (DX6_readsNumber.at 38 rfl) (by decide) ?_
        exact go_iret (DX6_readsNumber.at 39 rfl) rfl rfl (RI.mk (by first | exact ⟨_, _, q63, Or.inl ⟨hdg, rfl, by rw [e0.2]; exact u2.trans IU.up, rfl⟩⟩ | exact ⟨i1, _, q2, Or.inl ⟨hdg, rfl, by rw [e0.2]; exact u2, by rw [e0.1]⟩⟩))
      · rw [bI_eq0, Classical.not_not, dgt_iff hT2] at c30
        have hz48 := c30.2.1
        have e0 : nmv Y N p = 10 * (Y p - 48) + (Y (p + 1) - 48) ∧ nme Y N p = p + 2 := by
          unfold nmv nme
          rw [if_neg (show ¬ Y p = 48 by omega), if_neg (show ¬ Y p = 48 by omega), if_pos c30, if_pos c30]
          exact ⟨rfl, rfl⟩
        refine go_aload_0 (DX6_readsNumber.at 17 rfl) ?_
        refine go_getfield (DX6_readsNumber.at 18 rfl) fX6_25 q2.1 rfl ?_
        refine go_iload_1 (DX6_readsNumber.at 19 rfl) ?_
        refine go_bipush (v := nI 10) (DX6_readsNumber.at 20 rfl) (by decide) ?_
        refine go_aload_0 (DX6_readsNumber.at 21 rfl) ?_
        refine go_getfield (DX6_readsNumber.at 22 rfl) fX6_25 q2.1 rfl ?_
        refine go_iload_1 (DX6_readsNumber.at 23 rfl) ?_
        refine go_ialdM (DX6_readsNumber.at 24 rfl) (q2.2.1 6 (by decide)) (show k < 3 by omega) (by decide) ?_
        rw [rset_s, pk_us]
        refine go_imul (DX6_readsNumber.at 25 rfl) ?_
        rw [pk_mul]
        refine go_aload_0 (DX6_readsNumber.at 26 rfl) ?_
        refine go_cVx0 (DX6_readsNumber.at 27 rfl) nX6_188 vX6_next (by omega) (m_next (p := p + 1) q2 hT2 ((u2.2 2 (by decide)).trans hN) u2.1 (by omega)) q2.1 rfl (Nat.le_of_ble_eq_true rfl) ?_
        rw [if_pos c30.1]
        refine go_iadd (DX6_readsNumber.at 28 rfl) ?_
        rw [nI_add]
        refine go_bipush (v := nI 48) (DX6_readsNumber.at 29 rfl) (by decide) ?_
        refine go_isub (DX6_readsNumber.at 30 rfl) ?_
        rw [pk_sub (by omega), show 10 * (Y p - 48) + Y (p + 1) - 48 = nmv Y N p by rw [e0.1]; omega]
        refine go_iastM (DX6_readsNumber.at 31 rfl) q2 (a := 6) (by decide) (show k < 3 by omega) (fun h55 q55 => ?_)
        rw [rset_rset, rset_s, upd_upd] at q55
        refine go_aload_0 (DX6_readsNumber.at 32 rfl) ?_
        refine go_dup (DX6_readsNumber.at 33 rfl) rfl ?_
        refine go_getfield (DX6_readsNumber.at 34 rfl) fX6_185 q55.1 rfl ?_
        rw [u2.1]
        refine go_iconst (v := nI 1) (DX6_readsNumber.at 35 rfl) (by decide) ?_
        refine go_iadd (DX6_readsNumber.at 36 rfl) ?_
        rw [nI_add]
        refine go_putM6 (kf := 8) (s := 3) (DX6_readsNumber.at 37 rfl) fX6_185 (by decide) q55 (fun h63 q63 => ?_)
        refine go_iconst (v := nI 1) (DX6_readsNumber.at 38 rfl) (by decide) ?_
        exact go_iret (DX6_readsNumber.at 39 rfl) rfl rfl (RI.mk (by first | exact ⟨_, _, q63, Or.inl ⟨hdg, rfl, by rw [e0.2]; exact u2.trans IU.up, rfl⟩⟩ | exact ⟨i1, _, q2, Or.inl ⟨hdg, rfl, by rw [e0.2]; exact u2, by rw [e0.1]⟩⟩))
  · refine go_if_ne 10 (DX6_readsNumber.at 3 rfl) (by decide) (fun c5 => absurd rfl c5) (fun c5 => ?_)
    refine go_iconst (v := nI 0) (DX6_readsNumber.at 4 rfl) (by decide) ?_
    exact go_iret (DX6_readsNumber.at 5 rfl) rfl rfl (RI.mk ⟨i1, f1, q2, Or.inr ⟨hdg, rfl, u2⟩⟩)
  

theorem m_readsPlace (hM : MdAt G h b i ρ) (hT : TxtIs (ρ 5) Y N) (hN : i 2 = nI N) (hp : i 3 = nI p) (hp2 : p < 2 ^ 30) (hd : 3 ≤ d) : Calls E mX6_readsPlace d 0 0 [.ref b] h (RI (fun x h' => ∃ i' f, MdAt G h' b i' (rset ρ 6 f) ∧ IU i i' (plR Y N p).2 ∧ (((plR Y N p).1 = true ∧ x = nI 1 ∧ f 0 = nI (Y p - 48) ∧ f 1 = nI (nmv Y N (p + 2))) ∨ ((plR Y N p).1 = false ∧ x = nI 0)))) := by
  refine Calls.of (ls := [some (.ref b)]) (by decide +kernel) rfl (Nat.le_of_ble_eq_true rfl) (cat_ok rfl) ?_
  have hN60 := hT.1
  refine go_aload_0 (DX6_readsPlace.at 0 rfl) ?_
  refine go_iconst (v := nI 0) (DX6_readsPlace.at 1 rfl) (by decide) ?_
  refine go_cVi1 (DX6_readsPlace.at 2 rfl) nX6_191 vX6_readsDigit (by omega) (m_readsDigit hM hT hN hp hp2 (show 0 < 3 by decide) (by omega)) hM.1 rfl (Nat.le_of_ble_eq_true rfl) (fun x2 h2 q2 => ?_)
  obtain ⟨i1, f1, q2, ⟨hdg, rfl, u2, rfl⟩ | ⟨hdg, rfl, u2⟩⟩ := q2
  · have hT2 : TxtIs (rset ρ 6 (upd (ρ 6) 0 (nI (Y p - 48))) 5) Y N := hT
    have hpN := hdg.1
    refine go_if_eq 29 (DX6_readsPlace.at 3 rfl) (by decide) (fun c5 => absurd c5 (by decide)) (fun c5 => ?_)
    refine go_aload_0 (DX6_readsPlace.at 4 rfl) ?_
    refine go_bipush (v := nI 46) (DX6_readsPlace.at 5 rfl) (by decide) ?_
    refine go_cVi1 (DX6_readsPlace.at 6 rfl) nX6_194 vX6_takes (by omega) (m_takes (p := p + 1) q2 hT2 ((u2.2 2 (by decide)).trans hN) u2.1 (by omega) (wn := 46) (by decide) (by omega)) q2.1 rfl (Nat.le_of_ble_eq_true rfl) (fun x11 h11 q11 => ?_)
    obtain ⟨i3, q11, ⟨k1, k2, rfl, u11⟩ | ⟨kn, rfl, u11⟩⟩ := q11
    · refine go_if_eq 29 (DX6_readsPlace.at 7 rfl) (by decide) (fun c14 => absurd c14 (by decide)) (fun c14 => ?_)
      refine go_aload_0 (DX6_readsPlace.at 8 rfl) ?_
      refine go_iconst (v := nI 1) (DX6_readsPlace.at 9 rfl) (by decide) ?_
      refine go_cVi1 (DX6_readsPlace.at 10 rfl) nX6_197 vX6_readsNumber (by omega) (m_readsNumber (p := p + 2) q11 hT2 (((u2.trans u11).2 2 (by decide)).trans hN) u11.1 (by omega) (show 1 < 3 by decide) (by omega)) q11.1 rfl (Nat.le_of_ble_eq_true rfl) (fun x19 h19 q19 => ?_)
      obtain ⟨i4, f4, q19, hq19⟩ := q19
      rw [rset_rset] at q19
      rcases hq19 with ⟨hd3, rfl, u19, rfl⟩ | ⟨hd3, rfl, u19⟩
      · have eR : plR Y N p = (true, nme Y N (p + 2)) := by
          unfold plR
          rw [if_pos hdg, if_pos ⟨k1, k2⟩, if_pos hd3]
        refine go_if_eq 29 (DX6_readsPlace.at 11 rfl) (by decide) (fun c22 => absurd c22 (by decide)) (fun c22 => ?_)
        refine go_iconst (v := nI 1) (DX6_readsPlace.at 12 rfl) (by decide) ?_
        refine go_goto 30 (DX6_readsPlace.at 13 rfl) (by decide) ?_
        exact go_iret (DX6_readsPlace.at 15 rfl) rfl rfl (RI.mk ⟨i4, _, q19, by rw [eR]; exact (u2.trans u11).trans u19, Or.inl ⟨by rw [eR], rfl, by rw [rset_s, pk_un (by decide), pk_us], pk_us⟩⟩)
      · have eR : plR Y N p = (false, p + 2) := by
          unfold plR
          rw [if_pos hdg, if_pos ⟨k1, k2⟩, if_neg hd3]
        refine go_if_eq 29 (DX6_readsPlace.at 11 rfl) (by decide) (fun c22 => ?_) (fun c22 => absurd rfl c22)
        refine go_iconst (v := nI 0) (DX6_readsPlace.at 14 rfl) (by decide) ?_
        exact go_iret (DX6_readsPlace.at 15 rfl) rfl rfl (RI.mk ⟨i4, _, q19, by rw [eR]; exact (u2.trans u11).trans u19, Or.inr ⟨by rw [eR], rfl⟩⟩)
      
    · have eR : plR Y N p = (false, p + 1) := by
        unfold plR
        rw [if_pos hdg, if_neg kn]
      refine go_if_eq 29 (DX6_readsPlace.at 7 rfl) (by decide) (fun c14 => ?_) (fun c14 => absurd rfl c14)
      refine go_iconst (v := nI 0) (DX6_readsPlace.at 14 rfl) (by decide) ?_
      exact go_iret (DX6_readsPlace.at 15 rfl) rfl rfl (RI.mk ⟨i3, _, q11, by rw [eR]; exact u2.trans u11, Or.inr ⟨by rw [eR], rfl⟩⟩)
    
  · have eR : plR Y N p = (false, p) := if_neg hdg
    refine go_if_eq 29 (DX6_readsPlace.at 3 rfl) (by decide) (fun c5 => ?_) (fun c5 => absurd rfl c5)
    refine go_iconst (v := nI 0) (DX6_readsPlace.at 14 rfl) (by decide) ?_
    exact go_iret (DX6_readsPlace.at 15 rfl) rfl rfl (RI.mk ⟨i1, f1, q2, by rw [eR]; exact u2, Or.inr ⟨by rw [eR], rfl⟩⟩)
  

theorem m_restN (hM : MdAt G h b i ρ) (hT : TxtIs (ρ 5) Y N) (hN : i 2 = nI N) (hp : i 3 = nI p) (hp2 : p < 2 ^ 30) (hd : 3 ≤ d) : Calls E mX6_readsRest d 0 0 [.ref b, .int (nI 110)] h (RI (fun x h' => ∃ i' f, MdAt G h' b i' (rset ρ 6 f) ∧ ((dgt Y N p ∧ x = nI 1 ∧ IU i i' (nme Y N p) ∧ f = upd (ρ 6) 0 (nI (nmv Y N p))) ∨ (¬ dgt Y N p ∧ x = nI 0 ∧ IU i i' p)))) := by
  refine Calls.of (ls := [some (.ref b), some (.int (nI 110))]) (by decide +kernel) rfl (Nat.le_of_ble_eq_true rfl) (cat_ok rfl) ?_
  refine go_iload_1 (DX6_readsRest.at 0 rfl) ?_
  refine go_lookup (off := 57) 58 (DX6_readsRest.at 1 rfl) rfl (by decide +kernel) (by decide) ?_
  refine go_aload_0 (DX6_readsRest.at 17 rfl) ?_
  refine go_iconst (v := nI 0) (DX6_readsRest.at 18 rfl) (by decide) ?_
  refine go_cVi1 (DX6_readsRest.at 19 rfl) nX6_197 vX6_readsNumber (by omega) (m_readsNumber hM hT hN hp hp2 (show 0 < 3 by decide) (by omega)) hM.1 rfl (Nat.le_of_ble_eq_true rfl) (fun x60 h60 q60 => ?_)
  exact go_iret (DX6_readsRest.at 20 rfl) rfl (by obtain ⟨i1, f1, -, ⟨-, rfl, -⟩ | ⟨-, rfl, -⟩⟩ := q60 <;> rfl) (RI.mk q60)

theorem m_restX (hM : MdAt G h b i ρ) (hT : TxtIs (ρ 5) Y N) (hN : i 2 = nI N) (hp : i 3 = nI p) (hp2 : p < 2 ^ 30) (hd : 4 ≤ d) : Calls E mX6_readsRest d 0 0 [.ref b, .int (nI 120)] h (RI (fun x h' => ∃ i' f, MdAt G h' b i' (rset ρ 6 f) ∧ IU i i' (plR Y N p).2 ∧ (((plR Y N p).1 = true ∧ x = nI 1 ∧ f 0 = nI (Y p - 48) ∧ f 1 = nI (nmv Y N (p + 2))) ∨ ((plR Y N p).1 = false ∧ x = nI 0)))) := by
  refine Calls.of (ls := [some (.ref b), some (.int (nI 120))]) (by decide +kernel) rfl (Nat.le_of_ble_eq_true rfl) (cat_ok rfl) ?_
  refine go_iload_1 (DX6_readsRest.at 0 rfl) ?_
  refine go_lookup (off := 63) 64 (DX6_readsRest.at 1 rfl) rfl (by decide +kernel) (by decide) ?_
  refine go_aload_0 (DX6_readsRest.at 21 rfl) ?_
  refine go_cVi0 (DX6_readsRest.at 22 rfl) nX6_200 vX6_readsPlace (by omega) (m_readsPlace hM hT hN hp hp2 (by omega)) hM.1 rfl (Nat.le_of_ble_eq_true rfl) (fun x65 h65 q65 => ?_)
  exact go_iret (DX6_readsRest.at 23 rfl) rfl (by obtain ⟨i1, f1, -, -, ⟨-, rfl, -⟩ | ⟨-, rfl⟩⟩ := q65 <;> rfl) (RI.mk q65)

theorem m_restM (hM : MdAt G h b i ρ) (hT : TxtIs (ρ 5) Y N) (hN : i 2 = nI N) (hp : i 3 = nI p) (hp2 : p < 2 ^ 30) (hd : 4 ≤ d) : Calls E mX6_readsRest d 0 0 [.ref b, .int (nI 109)] h (RI (fun x h' => ∃ i' f, MdAt G h' b i' (rset ρ 6 f) ∧ IU i i' (plR Y N p).2 ∧ (((plR Y N p).1 = true ∧ x = nI 1 ∧ f 0 = nI (Y p - 48) ∧ f 1 = nI (nmv Y N (p + 2))) ∨ ((plR Y N p).1 = false ∧ x = nI 0)))) := by
  refine Calls.of (ls := [some (.ref b), some (.int (nI 109))]) (by decide +kernel) rfl (Nat.le_of_ble_eq_true rfl) (cat_ok rfl) ?_
  refine go_iload_1 (DX6_readsRest.at 0 rfl) ?_
  refine go_lookup (off := 63) 64 (DX6_readsRest.at 1 rfl) rfl (by decide +kernel) (by decide) ?_
  refine go_aload_0 (DX6_readsRest.at 21 rfl) ?_
  refine go_cVi0 (DX6_readsRest.at 22 rfl) nX6_200 vX6_readsPlace (by omega) (m_readsPlace hM hT hN hp hp2 (by omega)) hM.1 rfl (Nat.le_of_ble_eq_true rfl) (fun x65 h65 q65 => ?_)
  exact go_iret (DX6_readsRest.at 23 rfl) rfl (by obtain ⟨i1, f1, -, -, ⟨-, rfl, -⟩ | ⟨-, rfl⟩⟩ := q65 <;> rfl) (RI.mk q65)

theorem m_restW (hM : MdAt G h b i ρ) (hT : TxtIs (ρ 5) Y N) (hN : i 2 = nI N) (hp : i 3 = nI p) (hp2 : p < 2 ^ 30) (hd : 4 ≤ d) : Calls E mX6_readsRest d 0 0 [.ref b, .int (nI 119)] h (RI (fun x h' => ∃ i' f, MdAt G h' b i' (rset ρ 6 f) ∧ IU i i' (if (plR Y N p).1 = true then (if (plR Y N p).2 < N ∧ Y (plR Y N p).2 = 61 then (if dgt Y N ((plR Y N p).2 + 1) then (true, nme Y N ((plR Y N p).2 + 1)) else (false, (plR Y N p).2 + 1)) else (false, (plR Y N p).2)) else plR Y N p).2 ∧ (((if (plR Y N p).1 = true then (if (plR Y N p).2 < N ∧ Y (plR Y N p).2 = 61 then (if dgt Y N ((plR Y N p).2 + 1) then (true, nme Y N ((plR Y N p).2 + 1)) else (false, (plR Y N p).2 + 1)) else (false, (plR Y N p).2)) else plR Y N p).1 = true ∧ x = nI 1 ∧ f 0 = nI (Y p - 48) ∧ f 1 = nI (nmv Y N (p + 2)) ∧ f 2 = nI (nmv Y N (nme Y N (p + 2) + 1))) ∨ ((if (plR Y N p).1 = true then (if (plR Y N p).2 < N ∧ Y (plR Y N p).2 = 61 then (if dgt Y N ((plR Y N p).2 + 1) then (true, nme Y N ((plR Y N p).2 + 1)) else (false, (plR Y N p).2 + 1)) else (false, (plR Y N p).2)) else plR Y N p).1 = false ∧ x = nI 0)))) := by
  refine Calls.of (ls := [some (.ref b), some (.int (nI 119))]) (by decide +kernel) rfl (Nat.le_of_ble_eq_true rfl) (cat_ok rfl) ?_
  have hN60 := hT.1
  refine go_iload_1 (DX6_readsRest.at 0 rfl) ?_
  refine go_lookup (off := 27) 28 (DX6_readsRest.at 1 rfl) rfl (by decide +kernel) (by decide) ?_
  refine go_aload_0 (DX6_readsRest.at 2 rfl) ?_
  refine go_cVi0 (DX6_readsRest.at 3 rfl) nX6_200 vX6_readsPlace (by omega) (m_readsPlace hM hT hN hp hp2 (by omega)) hM.1 rfl (Nat.le_of_ble_eq_true rfl) (fun x29 h29 q29 => ?_)
  obtain ⟨i1, f1, q29, u29, ⟨ht, rfl, g0, g1⟩ | ⟨ht, rfl⟩⟩ := q29
  · have hT2 : TxtIs (rset ρ 6 f1 5) Y N := hT
    obtain ⟨e1, hd1, hd2, hle⟩ := plR_t ht
    generalize hP : (plR Y N p).2 = P at u29 hle
    have hPe : P = nme Y N (p + 2) := by rw [← hP, e1]
    refine go_if_eq 56 (DX6_readsRest.at 4 rfl) (by decide) (fun c32 => absurd c32 (by decide)) (fun c32 => ?_)
    refine go_aload_0 (DX6_readsRest.at 5 rfl) ?_
    refine go_bipush (v := nI 61) (DX6_readsRest.at 6 rfl) (by decide) ?_
    refine go_cVi1 (DX6_readsRest.at 7 rfl) nX6_194 vX6_takes (by omega) (m_takes (p := P) q29 hT2 ((u29.2 2 (by decide)).trans hN) u29.1 (by omega) (wn := 61) (by decide) (by omega)) q29.1 rfl (Nat.le_of_ble_eq_true rfl) (fun x38 h38 q38 => ?_)
    obtain ⟨i3, q38, ⟨k1, k2, rfl, u38⟩ | ⟨kn, rfl, u38⟩⟩ := q38
    · refine go_if_eq 56 (DX6_readsRest.at 8 rfl) (by decide) (fun c41 => absurd c41 (by decide)) (fun c41 => ?_)
      refine go_aload_0 (DX6_readsRest.at 9 rfl) ?_
      refine go_iconst (v := nI 2) (DX6_readsRest.at 10 rfl) (by decide) ?_
      refine go_cVi1 (DX6_readsRest.at 11 rfl) nX6_197 vX6_readsNumber (by omega) (m_readsNumber (p := P + 1) q38 hT2 (((u29.trans u38).2 2 (by decide)).trans hN) u38.1 (by omega) (show 2 < 3 by decide) (by omega)) q38.1 rfl (Nat.le_of_ble_eq_true rfl) (fun x46 h46 q46 => ?_)
      obtain ⟨i4, f4, q46, hq46⟩ := q46
      rw [rset_rset] at q46
      rcases hq46 with ⟨hd3, rfl, u46, rfl⟩ | ⟨hd3, rfl, u46⟩
      · have eR : (if (plR Y N p).1 = true then (if P < N ∧ Y P = 61 then (if dgt Y N (P + 1) then (true, nme Y N (P + 1)) else (false, P + 1)) else (false, P)) else plR Y N p) = (true, nme Y N (P + 1)) := by rw [if_pos ht, if_pos ⟨k1, k2⟩, if_pos hd3]
        rw [eR]
        refine go_if_eq 56 (DX6_readsRest.at 12 rfl) (by decide) (fun c49 => absurd c49 (by decide)) (fun c49 => ?_)
        refine go_iconst (v := nI 1) (DX6_readsRest.at 13 rfl) (by decide) ?_
        refine go_goto 57 (DX6_readsRest.at 14 rfl) (by decide) ?_
        exact go_iret (DX6_readsRest.at 16 rfl) rfl rfl (RI.mk ⟨i4, _, q46, (u29.trans u38).trans u46, Or.inl ⟨rfl, rfl, by rw [rset_s, pk_un (by decide)]; exact g0, by rw [rset_s, pk_un (by decide)]; exact g1, by rw [rset_s, pk_us, hPe]⟩⟩)
      · have eR : (if (plR Y N p).1 = true then (if P < N ∧ Y P = 61 then (if dgt Y N (P + 1) then (true, nme Y N (P + 1)) else (false, P + 1)) else (false, P)) else plR Y N p) = (false, P + 1) := by rw [if_pos ht, if_pos ⟨k1, k2⟩, if_neg hd3]
        rw [eR]
        refine go_if_eq 56 (DX6_readsRest.at 12 rfl) (by decide) (fun c49 => ?_) (fun c49 => absurd rfl c49)
        refine go_iconst (v := nI 0) (DX6_readsRest.at 15 rfl) (by decide) ?_
        exact go_iret (DX6_readsRest.at 16 rfl) rfl rfl (RI.mk ⟨i4, f4, q46, (u29.trans u38).trans u46, Or.inr ⟨rfl, rfl⟩⟩)
      
    · have eR : (if (plR Y N p).1 = true then (if P < N ∧ Y P = 61 then (if dgt Y N (P + 1) then (true, nme Y N (P + 1)) else (false, P + 1)) else (false, P)) else plR Y N p) = (false, P) := by rw [if_pos ht, if_neg kn]
      rw [eR]
      refine go_if_eq 56 (DX6_readsRest.at 8 rfl) (by decide) (fun c41 => ?_) (fun c41 => absurd rfl c41)
      refine go_iconst (v := nI 0) (DX6_readsRest.at 15 rfl) (by decide) ?_
      exact go_iret (DX6_readsRest.at 16 rfl) rfl rfl (RI.mk ⟨i3, f1, q38, u29.trans u38, Or.inr ⟨rfl, rfl⟩⟩)
    
  · have eR : (if (plR Y N p).1 = true then (if (plR Y N p).2 < N ∧ Y (plR Y N p).2 = 61 then (if dgt Y N ((plR Y N p).2 + 1) then (true, nme Y N ((plR Y N p).2 + 1)) else (false, (plR Y N p).2 + 1)) else (false, (plR Y N p).2)) else plR Y N p) = plR Y N p := if_neg (by rw [ht]; decide)
    rw [eR]
    refine go_if_eq 56 (DX6_readsRest.at 4 rfl) (by decide) (fun c32 => ?_) (fun c32 => absurd rfl c32)
    refine go_iconst (v := nI 0) (DX6_readsRest.at 15 rfl) (by decide) ?_
    exact go_iret (DX6_readsRest.at 16 rfl) rfl rfl (RI.mk ⟨i1, f1, q29, u29, Or.inr ⟨ht, rfl⟩⟩)
  

theorem m_readsOrder (hM : MdAt G h b i ρ) (hT : TxtIs (ρ 5) Y N) (hN : i 2 = nI N) (hp : i 3 = nI p) (hp2 : p < 2 ^ 30) (hd : 5 ≤ d) : Calls E mX6_readsOrder d 0 0 [.ref b] h (RI (fun x h' => ∃ i' f, MdAt G h' b i' (rset ρ 6 f) ∧ IU i i' (ordR Y N p).2 ∧ (((ordR Y N p).1 = true ∧ x = nI 1 ∧ (Y p = 110 → f 0 = nI (nmv Y N (p + 1))) ∧ (Y p ≠ 110 → f 0 = nI (Y (p + 1) - 48) ∧ f 1 = nI (nmv Y N (p + 3)) ∧ (Y p = 119 → f 2 = nI (nmv Y N (nme Y N (p + 3) + 1))))) ∨ ((ordR Y N p).1 = false ∧ x = nI 0)))) := by
  refine Calls.of (ls := [some (.ref b), none]) (by decide +kernel) rfl (Nat.le_of_ble_eq_true rfl) (cat_ok rfl) ?_
  have hN60 := hT.1
  refine go_aload_0 (DX6_readsOrder.at 0 rfl) ?_
  refine go_cVx0 (DX6_readsOrder.at 1 rfl) nX6_188 vX6_next (by omega) (m_next hM hT hN hp hp2) hM.1 rfl (Nat.le_of_ble_eq_true rfl) ?_
  by_cases hk : p < N ∧ (Y p = 119 ∨ Y p = 120 ∨ Y p = 110 ∨ Y p = 109)
  · obtain ⟨hl, hy | hy | hy | hy⟩ := hk
    · rw [if_pos hl, hy]
      refine go_istore_1 (DX6_readsOrder.at 2 rfl) ?_
      refine go_iload_1 (DX6_readsOrder.at 3 rfl) ?_
      refine go_bipush (v := nI 119) (DX6_readsOrder.at 4 rfl) (by decide) ?_
      refine go_icmp_eq 31 (DX6_readsOrder.at 5 rfl) (by decide) (fun c8 => ?_) (fun c8 => absurd rfl c8)
      refine go_aload_0 (DX6_readsOrder.at 17 rfl) ?_
      refine go_dup (DX6_readsOrder.at 18 rfl) rfl ?_
      refine go_getfield (DX6_readsOrder.at 19 rfl) fX6_185 hM.1 rfl ?_
      rw [hp]
      refine go_iconst (v := nI 1) (DX6_readsOrder.at 20 rfl) (by decide) ?_
      refine go_iadd (DX6_readsOrder.at 21 rfl) ?_
      rw [nI_add]
      refine go_putM6 (kf := 8) (s := 3) (DX6_readsOrder.at 22 rfl) fX6_185 (by decide) hM (fun h38 q38 => ?_)
      refine go_aload_0 (DX6_readsOrder.at 23 rfl) ?_
      refine go_iload_1 (DX6_readsOrder.at 24 rfl) ?_
      refine go_cVi1 (DX6_readsOrder.at 25 rfl) nX6_204 vX6_readsRest (by omega) (m_restW (p := p + 1) (q38 : MdAt G h38 b (upd i 3 (nI (p + 1))) ρ) hT ((pk_un (by decide)).trans hN) pk_us (by omega) (by omega)) q38.1 rfl (Nat.le_of_ble_eq_true rfl) (fun x43 h43 q43 => ?_)
      rw [← ordR_w hl hy] at q43
      obtain ⟨i1, f1, q43, u43, ⟨ht, rfl, g0, g1, g2⟩ | ⟨ht, rfl⟩⟩ := q43
      · exact go_iret (DX6_readsOrder.at 26 rfl) rfl rfl (RI.mk ⟨i1, f1, q43, IU.up.trans u43, Or.inl ⟨ht, rfl, fun e => absurd e (by decide), fun _ => ⟨g0, g1, fun _ => g2⟩⟩⟩)
      · exact go_iret (DX6_readsOrder.at 26 rfl) rfl rfl (RI.mk ⟨i1, f1, q43, IU.up.trans u43, Or.inr ⟨ht, rfl⟩⟩)
      
    · rw [if_pos hl, hy]
      refine go_istore_1 (DX6_readsOrder.at 2 rfl) ?_
      refine go_iload_1 (DX6_readsOrder.at 3 rfl) ?_
      refine go_bipush (v := nI 119) (DX6_readsOrder.at 4 rfl) (by decide) ?_
      refine go_icmp_eq 31 (DX6_readsOrder.at 5 rfl) (by decide) (fun c8 => absurd c8 (by decide)) (fun c8 => ?_)
      refine go_iload_1 (DX6_readsOrder.at 6 rfl) ?_
      refine go_bipush (v := nI 120) (DX6_readsOrder.at 7 rfl) (by decide) ?_
      refine go_icmp_eq 31 (DX6_readsOrder.at 8 rfl) (by decide) (fun c14 => ?_) (fun c14 => absurd rfl c14)
      refine go_aload_0 (DX6_readsOrder.at 17 rfl) ?_
      refine go_dup (DX6_readsOrder.at 18 rfl) rfl ?_
      refine go_getfield (DX6_readsOrder.at 19 rfl) fX6_185 hM.1 rfl ?_
      rw [hp]
      refine go_iconst (v := nI 1) (DX6_readsOrder.at 20 rfl) (by decide) ?_
      refine go_iadd (DX6_readsOrder.at 21 rfl) ?_
      rw [nI_add]
      refine go_putM6 (kf := 8) (s := 3) (DX6_readsOrder.at 22 rfl) fX6_185 (by decide) hM (fun h38 q38 => ?_)
      refine go_aload_0 (DX6_readsOrder.at 23 rfl) ?_
      refine go_iload_1 (DX6_readsOrder.at 24 rfl) ?_
      refine go_cVi1 (DX6_readsOrder.at 25 rfl) nX6_204 vX6_readsRest (by omega) (m_restX (p := p + 1) (q38 : MdAt G h38 b (upd i 3 (nI (p + 1))) ρ) hT ((pk_un (by decide)).trans hN) pk_us (by omega) (by omega)) q38.1 rfl (Nat.le_of_ble_eq_true rfl) (fun x43 h43 q43 => ?_)
      rw [← ordR_p hl (by omega)] at q43
      obtain ⟨i1, f1, q43, u43, ⟨ht, rfl, g0, g1⟩ | ⟨ht, rfl⟩⟩ := q43
      · exact go_iret (DX6_readsOrder.at 26 rfl) rfl rfl (RI.mk ⟨i1, f1, q43, IU.up.trans u43, Or.inl ⟨ht, rfl, fun e => absurd e (by decide), fun _ => ⟨g0, g1, fun e => absurd e (by decide)⟩⟩⟩)
      · exact go_iret (DX6_readsOrder.at 26 rfl) rfl rfl (RI.mk ⟨i1, f1, q43, IU.up.trans u43, Or.inr ⟨ht, rfl⟩⟩)
      
    · rw [if_pos hl, hy]
      refine go_istore_1 (DX6_readsOrder.at 2 rfl) ?_
      refine go_iload_1 (DX6_readsOrder.at 3 rfl) ?_
      refine go_bipush (v := nI 119) (DX6_readsOrder.at 4 rfl) (by decide) ?_
      refine go_icmp_eq 31 (DX6_readsOrder.at 5 rfl) (by decide) (fun c8 => absurd c8 (by decide)) (fun c8 => ?_)
      refine go_iload_1 (DX6_readsOrder.at 6 rfl) ?_
      refine go_bipush (v := nI 120) (DX6_readsOrder.at 7 rfl) (by decide) ?_
      refine go_icmp_eq 31 (DX6_readsOrder.at 8 rfl) (by decide) (fun c14 => absurd c14 (by decide)) (fun c14 => ?_)
      refine go_iload_1 (DX6_readsOrder.at 9 rfl) ?_
      refine go_bipush (v := nI 110) (DX6_readsOrder.at 10 rfl) (by decide) ?_
      refine go_icmp_eq 31 (DX6_readsOrder.at 11 rfl) (by decide) (fun c20 => ?_) (fun c20 => absurd rfl c20)
      refine go_aload_0 (DX6_readsOrder.at 17 rfl) ?_
      refine go_dup (DX6_readsOrder.at 18 rfl) rfl ?_
      refine go_getfield (DX6_readsOrder.at 19 rfl) fX6_185 hM.1 rfl ?_
      rw [hp]
      refine go_iconst (v := nI 1) (DX6_readsOrder.at 20 rfl) (by decide) ?_
      refine go_iadd (DX6_readsOrder.at 21 rfl) ?_
      rw [nI_add]
      refine go_putM6 (kf := 8) (s := 3) (DX6_readsOrder.at 22 rfl) fX6_185 (by decide) hM (fun h38 q38 => ?_)
      refine go_aload_0 (DX6_readsOrder.at 23 rfl) ?_
      refine go_iload_1 (DX6_readsOrder.at 24 rfl) ?_
      refine go_cVi1 (DX6_readsOrder.at 25 rfl) nX6_204 vX6_readsRest (by omega) (m_restN (p := p + 1) (q38 : MdAt G h38 b (upd i 3 (nI (p + 1))) ρ) hT ((pk_un (by decide)).trans hN) pk_us (by omega) (by omega)) q38.1 rfl (Nat.le_of_ble_eq_true rfl) (fun x43 h43 q43 => ?_)
      obtain ⟨i1, f1, q43, ⟨hdg, rfl, u43, rfl⟩ | ⟨hdg, rfl, u43⟩⟩ := q43
      · have eR : ordR Y N p = (true, nme Y N (p + 1)) := by rw [ordR_n hl hy, if_pos hdg]
        rw [eR]
        exact go_iret (DX6_readsOrder.at 26 rfl) rfl rfl (RI.mk ⟨i1, _, q43, IU.up.trans u43, Or.inl ⟨rfl, rfl, fun _ => pk_us, fun e => absurd rfl e⟩⟩)
      · have eR : ordR Y N p = (false, p + 1) := by rw [ordR_n hl hy, if_neg hdg]
        rw [eR]
        exact go_iret (DX6_readsOrder.at 26 rfl) rfl rfl (RI.mk ⟨i1, f1, q43, IU.up.trans u43, Or.inr ⟨rfl, rfl⟩⟩)
      
    · rw [if_pos hl, hy]
      refine go_istore_1 (DX6_readsOrder.at 2 rfl) ?_
      refine go_iload_1 (DX6_readsOrder.at 3 rfl) ?_
      refine go_bipush (v := nI 119) (DX6_readsOrder.at 4 rfl) (by decide) ?_
      refine go_icmp_eq 31 (DX6_readsOrder.at 5 rfl) (by decide) (fun c8 => absurd c8 (by decide)) (fun c8 => ?_)
      refine go_iload_1 (DX6_readsOrder.at 6 rfl) ?_
      refine go_bipush (v := nI 120) (DX6_readsOrder.at 7 rfl) (by decide) ?_
      refine go_icmp_eq 31 (DX6_readsOrder.at 8 rfl) (by decide) (fun c14 => absurd c14 (by decide)) (fun c14 => ?_)
      refine go_iload_1 (DX6_readsOrder.at 9 rfl) ?_
      refine go_bipush (v := nI 110) (DX6_readsOrder.at 10 rfl) (by decide) ?_
      refine go_icmp_eq 31 (DX6_readsOrder.at 11 rfl) (by decide) (fun c20 => absurd c20 (by decide)) (fun c20 => ?_)
      refine go_iload_1 (DX6_readsOrder.at 12 rfl) ?_
      refine go_bipush (v := nI 109) (DX6_readsOrder.at 13 rfl) (by decide) ?_
      refine go_icmp_eq 31 (DX6_readsOrder.at 14 rfl) (by decide) (fun c26 => ?_) (fun c26 => absurd rfl c26)
      refine go_aload_0 (DX6_readsOrder.at 17 rfl) ?_
      refine go_dup (DX6_readsOrder.at 18 rfl) rfl ?_
      refine go_getfield (DX6_readsOrder.at 19 rfl) fX6_185 hM.1 rfl ?_
      rw [hp]
      refine go_iconst (v := nI 1) (DX6_readsOrder.at 20 rfl) (by decide) ?_
      refine go_iadd (DX6_readsOrder.at 21 rfl) ?_
      rw [nI_add]
      refine go_putM6 (kf := 8) (s := 3) (DX6_readsOrder.at 22 rfl) fX6_185 (by decide) hM (fun h38 q38 => ?_)
      refine go_aload_0 (DX6_readsOrder.at 23 rfl) ?_
      refine go_iload_1 (DX6_readsOrder.at 24 rfl) ?_
      refine go_cVi1 (DX6_readsOrder.at 25 rfl) nX6_204 vX6_readsRest (by omega) (m_restM (p := p + 1) (q38 : MdAt G h38 b (upd i 3 (nI (p + 1))) ρ) hT ((pk_un (by decide)).trans hN) pk_us (by omega) (by omega)) q38.1 rfl (Nat.le_of_ble_eq_true rfl) (fun x43 h43 q43 => ?_)
      rw [← ordR_p hl (by omega)] at q43
      obtain ⟨i1, f1, q43, u43, ⟨ht, rfl, g0, g1⟩ | ⟨ht, rfl⟩⟩ := q43
      · exact go_iret (DX6_readsOrder.at 26 rfl) rfl rfl (RI.mk ⟨i1, f1, q43, IU.up.trans u43, Or.inl ⟨ht, rfl, fun e => absurd e (by decide), fun _ => ⟨g0, g1, fun e => absurd e (by decide)⟩⟩⟩)
      · exact go_iret (DX6_readsOrder.at 26 rfl) rfl rfl (RI.mk ⟨i1, f1, q43, IU.up.trans u43, Or.inr ⟨ht, rfl⟩⟩)
      
  · have eR := ordR_no hk
    rw [eR]
    have hne : ∀ v, (v = 119 ∨ v = 120 ∨ v = 110 ∨ v = 109) → ¬ (if p < N then nI (Y p) else (-1)) = nI v := fun v hv e => by
      by_cases q : p < N
      · rw [if_pos q, nI_eq (by have := (hT.2 p q).2; omega) (by omega)] at e
        exact hk ⟨q, by omega⟩
      · rw [if_neg q] at e
        exact nI_ne1 (by omega) e.symm
    refine go_istore_1 (DX6_readsOrder.at 2 rfl) ?_
    refine go_iload_1 (DX6_readsOrder.at 3 rfl) ?_
    refine go_bipush (v := nI 119) (DX6_readsOrder.at 4 rfl) (by decide) ?_
    refine go_icmp_eq 31 (DX6_readsOrder.at 5 rfl) (by decide) (fun c8 => absurd c8 (hne 119 (by omega))) (fun c8 => ?_)
    refine go_iload_1 (DX6_readsOrder.at 6 rfl) ?_
    refine go_bipush (v := nI 120) (DX6_readsOrder.at 7 rfl) (by decide) ?_
    refine go_icmp_eq 31 (DX6_readsOrder.at 8 rfl) (by decide) (fun c14 => absurd c14 (hne 120 (by omega))) (fun c14 => ?_)
    refine go_iload_1 (DX6_readsOrder.at 9 rfl) ?_
    refine go_bipush (v := nI 110) (DX6_readsOrder.at 10 rfl) (by decide) ?_
    refine go_icmp_eq 31 (DX6_readsOrder.at 11 rfl) (by decide) (fun c20 => absurd c20 (hne 110 (by omega))) (fun c20 => ?_)
    refine go_iload_1 (DX6_readsOrder.at 12 rfl) ?_
    refine go_bipush (v := nI 109) (DX6_readsOrder.at 13 rfl) (by decide) ?_
    refine go_icmp_eq 31 (DX6_readsOrder.at 14 rfl) (by decide) (fun c26 => absurd c26 (hne 109 (by omega))) (fun c26 => ?_)
    refine go_iconst (v := nI 0) (DX6_readsOrder.at 15 rfl) (by decide) ?_
    exact go_iret (DX6_readsOrder.at 16 rfl) rfl rfl (RI.mk ⟨i, ρ 6, by rw [rset_self]; exact hM, IU.rf hp, Or.inr ⟨rfl, rfl⟩⟩)
  

end M6
