/-! THE MODEL: the queue, losing and mending a cell -/
theorem RepM.put {A : Ab} {m : Nat → Int32} {t c x : Nat} (h : RepM A m) (ht : t < aT A) (hc : c < nc (aG A) (aS A)) (hb : ¬ bit (aM A t) c) (hx : x < 16) : RepM (aPut A t c x) (upd m (29 + 20 * t + c) (nI x)) := by
  obtain ⟨hA, ⟨a0, a1, a2, a3⟩, hK, hq, hL, hl, hv, hQ⟩ := h
  have hn := hA.1.nc
  have h8 : aT A ≤ 8 := hA.1.2.2.2.2.2.2.1
  have lo : ∀ k, k < 29 → upd m (29 + 20 * t + c) (nI x) k = m k := fun k hk => pk_un (by omega)
  refine ⟨aPut_ok hA hx, ⟨(lo 0 (by omega)).trans a0, (lo 1 (by omega)).trans a1, (lo 2 (by omega)).trans a2, (lo 3 (by omega)).trans a3⟩, fun k hk => (lo _ (by omega)).trans (hK k hk), (lo 8 (by omega)).trans hq, fun j hj => (lo _ (by omega)).trans (hL j hj), fun t' ht' c' hc' hb' => ?_, fun t' ht' c' hc' hb' => ?_, fun k y hy => (pk_un (by omega)).trans (hQ k y hy)⟩
  · have hc2 : c' < nc (aG A) (aS A) := hc'
    have e : ¬ (t' = t ∧ c' = c) := fun ⟨e1, e2⟩ => hb (by rw [← e1, ← e2]; exact hb')
    rw [pk_un (by omega)]
    exact hl t' ht' c' hc2 hb'
  · have hc2 : c' < nc (aG A) (aS A) := hc'
    show _ = nI (put2 (aV A) t c x t' c')
    unfold put2
    by_cases e : t' = t ∧ c' = c
    · rw [if_pos e, e.1, e.2, pk_us]
    · rw [if_neg e, pk_un (by omega)]
      exact hv t' ht' c' hc2 hb'
theorem RepM.los {A : Ab} {m m' : Nat → Int32} {t c : Nat} (h : RepM A m) (ht : t < aT A) (hc : c < nc (aG A) (aS A)) (hb : ¬ bit (aM A t) c) (c1 : ∀ k, k < 29 → k ≠ 7 → k ≠ 8 → m' k = m k) (c7 : m' 7 = m 7 + 1) (c8 : m' 8 = nI ((aQ A).length + 1))
    (cv : ∀ k, 29 ≤ k → k < 189 → m' k = if k = 29 + 20 * t + c then -1 else m k) (cq : ∀ k, k < (aQ A).length → m' (189 + k) = m (189 + k)) (cl : m' (189 + (aQ A).length) = nI (20 * t + c)) : RepM (aLos A t c) m' := by
  obtain ⟨hA, ⟨a0, a1, a2, a3⟩, hK, hq, hL, hl, hv, hQ⟩ := h
  have hn := hA.1.nc
  have h8 : aT A ≤ 8 := hA.1.2.2.2.2.2.2.1
  refine ⟨aLos_ok hA ht hc hb, ⟨(c1 0 (by omega) (by omega) (by omega)).trans a0, (c1 1 (by omega) (by omega) (by omega)).trans a1, (c1 2 (by omega) (by omega) (by omega)).trans a2, (c1 3 (by omega) (by omega) (by omega)).trans a3⟩, fun k hk => ?_, ?_, fun j hj => (c1 _ (by omega) (by omega) (by omega)).trans (hL j hj), fun t' ht' c' hc' hb' => ?_, fun t' ht' c' hc' hb' => ?_, fun k x hx => ?_⟩
  · show m' (4 + k) = upd (aK A) 3 (aK A 3 + 1) k
    by_cases e : k = 3
    · rw [e, pk_us, ← hK 3 (by decide)]
      exact c7
    · rw [pk_un e, c1 _ (by omega) (by omega) (by omega)]
      exact hK k hk
  · show m' 8 = nI (aQ A ++ [20 * t + c]).length
    rw [c8, List.length_append]
    rfl
  · have ht2 : t' < aT A := ht'
    have hc2 : c' < nc (aG A) (aS A) := hc'
    rw [cv _ (by omega) (by omega)]
    by_cases e : 29 + 20 * t' + c' = 29 + 20 * t + c
    · rw [if_pos e]
    · rw [if_neg e]
      refine hl t' ht2 c' hc2 ?_
      have hb2 : bit (if t' = t then aM A t ||| 2 ^ c else aM A t') c' := hb'
      by_cases e2 : t' = t
      · rw [if_pos e2, bit_or] at hb2
        rw [e2]
        exact hb2.elim id (fun e3 => absurd (show 29 + 20 * t' + c' = 29 + 20 * t + c by omega) e)
      · rw [if_neg e2] at hb2
        exact hb2
  · have ht2 : t' < aT A := ht'
    have hc2 : c' < nc (aG A) (aS A) := hc'
    have hb2 : ¬ bit (if t' = t then aM A t ||| 2 ^ c else aM A t') c' := hb'
    have e : ¬ 29 + 20 * t' + c' = 29 + 20 * t + c := fun e => hb2 (by
      rw [if_pos (by omega), bit_or]
      right
      omega)
    rw [cv _ (by omega) (by omega), if_neg e]
    refine hv t' ht2 c' hc2 (fun q => hb2 ?_)
    by_cases e2 : t' = t
    · rw [if_pos e2, bit_or, ← e2]
      exact Or.inl q
    · rw [if_neg e2]
      exact q
  · have hx2 : (aQ A ++ [20 * t + c])[k]? = some x := hx
    by_cases q : k < (aQ A).length
    · rw [List.getElem?_append_left q] at hx2
      rw [cq k q]
      exact hQ k x hx2
    · rw [List.getElem?_append_right (by omega)] at hx2
      have h1 := (List.getElem?_eq_some_iff.mp hx2).1
      have h2 : k = (aQ A).length := by
        simp only [List.length_cons, List.length_nil] at h1
        omega
      rw [h2, Nat.sub_self, List.getElem?_cons_zero] at hx2
      cases hx2
      rw [h2]
      exact cl
theorem RepM.mnd {A : Ab} {m m' : Nat → Int32} {t c w src X : Nat} (h : RepM A m) (ht : t < aT A) (hc : c < nc (aG A) (aS A)) (hb : bit (aM A t) c) (hX : X < 16) (c0 : ∀ k, k < 4 → m' k = m k) (k4 : m' 4 = rdc (m 4) src (nc (aG A) (aS A))) (k5 : m' 5 = m 5 + 1) (k6 : m' 6 = if w = 1 then m 6 + 1 else m 6) (k7 : m' 7 = m 7) (c8 : m' 8 = nI ((aQ A).length - 1))
    (cL : ∀ j, j < 20 → m' (9 + j) = rdl (fun j => m (9 + j)) src (fun c => (c + t * aH A) % nc (aG A) (aS A)) (nc (aG A) (aS A)) j) (cv : ∀ k, 29 ≤ k → k < 189 → m' k = if k = 29 + 20 * t + c then nI X else m k) (cq : ∀ k x, ((aQ A).erase (20 * t + c))[k]? = some x → m' (189 + k) = nI x) : RepM (aMnd A t c w src X) m' := by
  obtain ⟨hA, ⟨a0, a1, a2, a3⟩, hK, hq, hL, hl, hv, hQ⟩ := h
  have hn := hA.1.nc
  have h8 : aT A ≤ 8 := hA.1.2.2.2.2.2.2.1
  refine ⟨aMnd_ok hA ht hc hX, ⟨(c0 0 (by omega)).trans a0, (c0 1 (by omega)).trans a1, (c0 2 (by omega)).trans a2, (c0 3 (by omega)).trans a3⟩, fun k hk => ?_, ?_, fun j hj => ?_, fun t' ht' c' hc' hb' => ?_, fun t' ht' c' hc' hb' => ?_, cq⟩
  · show m' (4 + k) = upd (upd (upd (aK A) 0 (rdc (aK A 0) src (nc (aG A) (aS A)))) 1 (aK A 1 + 1)) 2 (if w = 1 then aK A 2 + 1 else aK A 2) k
    rcases (show k = 0 ∨ k = 1 ∨ k = 2 ∨ k = 3 by omega) with rfl | rfl | rfl | rfl
    · rw [pk_un (by decide), pk_un (by decide), pk_us, ← hK 0 (by decide)]
      exact k4
    · rw [pk_un (by decide), pk_us, ← hK 1 (by decide)]
      exact k5
    · rw [pk_us, ← hK 2 (by decide)]
      exact k6
    · rw [pk_un (by decide), pk_un (by decide), pk_un (by decide), ← hK 3 (by decide)]
      exact k7
  · show m' 8 = nI ((aQ A).erase (20 * t + c)).length
    rw [c8, List.length_erase_of_mem ((hA.qin ht hc).mpr hb)]
  · rw [cL j hj]
    exact rdl_congr hL (fun c => Nat.lt_of_lt_of_le (Nat.mod_lt _ (by omega)) hn.2) _ j hj
  · have ht2 : t' < aT A := ht'
    have hc2 : c' < nc (aG A) (aS A) := hc'
    have hb2 : bit (if t' = t then clr (aM A t) c else aM A t') c' := hb'
    have e : ¬ 29 + 20 * t' + c' = 29 + 20 * t + c := fun e => by
      rw [if_pos (by omega), bit_clr (by omega)] at hb2
      exact hb2.2 (by omega)
    rw [cv _ (by omega) (by omega), if_neg e]
    refine hl t' ht2 c' hc2 ?_
    by_cases e2 : t' = t
    · rw [if_pos e2, bit_clr (by omega)] at hb2
      rw [e2]
      exact hb2.1
    · rw [if_neg e2] at hb2
      exact hb2
  · have ht2 : t' < aT A := ht'
    have hc2 : c' < nc (aG A) (aS A) := hc'
    have hb2 : ¬ bit (if t' = t then clr (aM A t) c else aM A t') c' := hb'
    rw [cv _ (by omega) (by omega)]
    show _ = nI (put2 (aV A) t c X t' c')
    unfold put2
    by_cases e : 29 + 20 * t' + c' = 29 + 20 * t + c
    · rw [if_pos e, if_pos (by omega)]
    · rw [if_neg e, if_neg (by omega)]
      refine hv t' ht2 c' hc2 (fun q => hb2 ?_)
      by_cases e2 : t' = t
      · rw [if_pos e2, bit_clr (by omega), ← e2]
        exact ⟨q, by omega⟩
      · rw [if_neg e2]
        exact q
theorem RepM.rot {A : Ab} {m m' : Nat → Int32} {x : Nat} {l : List Nat} (h : RepM A m) (hq : aQ A = x :: l) (c0 : ∀ k, k < 189 → m' k = m k) (cq : ∀ k y, (l ++ [x])[k]? = some y → m' (189 + k) = nI y) : RepM (aRot A) m' := by
  obtain ⟨hA, ⟨a0, a1, a2, a3⟩, hK, hql, hL, hl, hv, hQ⟩ := h
  have hn := hA.1.nc
  have h8 : aT A ≤ 8 := hA.1.2.2.2.2.2.2.1
  have er : aQ (aRot A) = l ++ [x] := by show (aQ A).tail ++ [(aQ A).headD 0] = _; rw [hq]; rfl
  refine ⟨aRot_ok hA (by rw [hq]; exact List.cons_ne_nil _ _), ⟨(c0 0 (by omega)).trans a0, (c0 1 (by omega)).trans a1, (c0 2 (by omega)).trans a2, (c0 3 (by omega)).trans a3⟩, fun k hk => (c0 _ (by omega)).trans (hK k hk), ?_, fun j hj => (c0 _ (by omega)).trans (hL j hj), fun t' ht' c' hc' hb' => ?_, fun t' ht' c' hc' hb' => ?_, fun k y hy => cq k y (by rw [← er]; exact hy)⟩
  · rw [c0 8 (by omega), hql, er, hq, List.length_append]
    rfl
  · have ht2 : t' < aT A := ht'
    have hc2 : c' < nc (aG A) (aS A) := hc'
    exact (c0 _ (by omega)).trans (hl t' ht2 c' hc2 hb')
  · have ht2 : t' < aT A := ht'
    have hc2 : c' < nc (aG A) (aS A) := hc'
    exact (c0 _ (by omega)).trans (hv t' ht2 c' hc2 hb')
/-- other loads -/
def aLd (A : Ab) (L : Nat → Int32) : Ab := (A.1, aV A, aM A, aQ A, L, aK A)
theorem aLd_n {A : Ab} {L : Nat → Int32} : nc (aG (aLd A L)) (aS (aLd A L)) = nc (aG A) (aS A) := rfl
theorem aLd_h {A : Ab} {L : Nat → Int32} : aH (aLd A L) = aH A := rfl
theorem RepM.ld {A : Ab} {m m' : Nat → Int32} {L : Nat → Int32} (h : RepM A m) (c0 : ∀ k, (k < 9 ∨ 29 ≤ k) → m' k = m k) (cL : ∀ j, j < 20 → m' (9 + j) = L j) : RepM (aLd A L) m' := by
  obtain ⟨hA, ⟨a0, a1, a2, a3⟩, hK, hql, hL, hl, hv, hQ⟩ := h
  exact ⟨hA, ⟨(c0 0 (by omega)).trans a0, (c0 1 (by omega)).trans a1, (c0 2 (by omega)).trans a2, (c0 3 (by omega)).trans a3⟩, fun k hk => (c0 _ (by omega)).trans (hK k hk), (c0 8 (by omega)).trans hql, cL, fun t' ht' c' hc' hb' => (c0 _ (by omega)).trans (hl t' ht' c' hc' hb'), fun t' ht' c' hc' hb' => (c0 _ (by omega)).trans (hv t' ht' c' hc' hb'), fun k y hy => (c0 _ (by omega)).trans (hQ k y hy)⟩
theorem rdc_pcn {x : Int32} {M : Nat} : ∀ j, rdc x M j = x + nI (pcn M j)
  | 0 => by
    show x = x + nI 0
    rw [nI_0, Int32.add_zero]
  | j + 1 => by
    have ih := rdc_pcn (x := x) (M := M) j
    show (if M / 2 ^ j % 2 = 1 then rdc x M j + 1 else rdc x M j) = x + nI (pcn M j + M / 2 ^ j % 2)
    by_cases q : M / 2 ^ j % 2 = 1
    · rw [if_pos q, q, ih, Int32.add_assoc, nI_1]
    · rw [if_neg q, show M / 2 ^ j % 2 = 0 by omega, ih, Nat.add_zero]
/-- rows 1 and 10 alone have changed -/
def MU (ρ ρ' : Nat → Nat → Int32) : Prop := ∀ a, a ≠ 1 → a ≠ 10 → ρ' a = ρ a
theorem MU.tb {ρ ρ' : Nat → Nat → Int32} (u : MU ρ ρ') (h : MTb ρ) : MTb ρ' := by
  unfold MTb
  rw [u 7 (by decide) (by decide), u 8 (by decide) (by decide), u 9 (by decide) (by decide)]
  exact h
theorem MU.rf {ρ : Nat → Nat → Int32} : MU ρ ρ := fun _ _ _ => rfl
theorem MU.trans {ρ ρ' ρ2 : Nat → Nat → Int32} (u : MU ρ ρ') (v : MU ρ' ρ2) : MU ρ ρ2 := fun a h1 h2 => (v a h1 h2).trans (u a h1 h2)
theorem MU.r1 {ρ : Nat → Nat → Int32} {f : Nat → Int32} : MU ρ (rset ρ 1 f) := fun _ h1 _ => rset_n h1
theorem MU.r10 {ρ : Nat → Nat → Int32} {f : Nat → Int32} : MU ρ (rset ρ 10 f) := fun _ _ h2 => rset_n h2
theorem mX {G : Nat → Option va_E} {h : List va_E} {b : Nat} {i : Nat → Int32} {ρ ρ' : Nat → Nat → Int32} {A A' : Ab} (hX : MX G h b i ρ A) {h' : List va_E} {i' : Nat → Int32} (q : MdAt G h' b i' ρ') (u : MU ρ ρ') (r : RepM A' (ρ' 1)) : MX G h' b i' ρ' A' := ⟨q, u.tb hX.2.1, r⟩
section M6
variable {E : AEnv} {d : Nat} {h h' : List va_E} {b : Nat} {i : Nat → Int32} {ρ : Nat → Nat → Int32} {A : Ab} {G : Nat → Option va_E}
variable {t c p : Nat} {q : List Nat}
theorem m_joinQueue {L : Nat} (hM : MdAt G h b i ρ) (hq : ρ 1 8 = nI L) (hL : L < 160) : Calls E mX6_joinQueue d 0 0 [.ref b, .int (nI t), .int (nI c)] h (RV (fun h' => MdAt G h' b i (rset ρ 1 (upd (upd (ρ 1) (189 + L) (nI (20 * t + c))) 8 (nI (L + 1)))))) := by
  refine Calls.of (ls := [some (.ref b), some (.int (nI t)), some (.int (nI c))]) (by decide +kernel) rfl (Nat.le_of_ble_eq_true rfl) (cat_ok rfl) ?_
  refine go_aload_0 (DX6_joinQueue.at 0 rfl) ?_
  refine go_getfield (DX6_joinQueue.at 1 rfl) fX6_7 hM.1 rfl ?_
  refine go_sipush (v := nI 189) (DX6_joinQueue.at 2 rfl) (by decide) ?_
  refine go_aload_0 (DX6_joinQueue.at 3 rfl) ?_
  refine go_getfield (DX6_joinQueue.at 4 rfl) fX6_7 hM.1 rfl ?_
  refine go_bipush (v := nI 8) (DX6_joinQueue.at 5 rfl) (by decide) ?_
  refine go_ialdM (DX6_joinQueue.at 6 rfl) (hM.2.1 1 (by decide)) (show 8 < 349 by decide) (by decide) ?_
  rw [hq]
  refine go_iadd (DX6_joinQueue.at 7 rfl) ?_
  rw [nI_add]
  refine go_bipush (v := nI 20) (DX6_joinQueue.at 8 rfl) (by decide) ?_
  refine go_iload_1 (DX6_joinQueue.at 9 rfl) ?_
  refine go_imul (DX6_joinQueue.at 10 rfl) ?_
  rw [pk_mul]
  refine go_iload_2 (DX6_joinQueue.at 11 rfl) ?_
  refine go_iadd (DX6_joinQueue.at 12 rfl) ?_
  rw [nI_add]
  refine go_iastM (DX6_joinQueue.at 13 rfl) hM (a := 1) (by decide) (show 189 + L < 349 by omega) (fun h21 q21 => ?_)
  refine go_aload_0 (DX6_joinQueue.at 14 rfl) ?_
  refine go_getfield (DX6_joinQueue.at 15 rfl) fX6_7 q21.1 rfl ?_
  refine go_bipush (v := nI 8) (DX6_joinQueue.at 16 rfl) (by decide) ?_
  refine go_dup2 (DX6_joinQueue.at 17 rfl) rfl rfl ?_
  refine go_ialdM (DX6_joinQueue.at 18 rfl) (q21.2.1 1 (by decide)) (show 8 < 349 by decide) (by decide) ?_
  rw [rset_s, pk_un (by omega), hq]
  refine go_iconst (v := nI 1) (DX6_joinQueue.at 19 rfl) (by decide) ?_
  refine go_iadd (DX6_joinQueue.at 20 rfl) ?_
  rw [nI_add]
  refine go_iastM (DX6_joinQueue.at 21 rfl) q21 (a := 1) (by decide) (show 8 < 349 by decide) (fun h32 q32 => ?_)
  rw [rset_rset, rset_s] at q32
  exact go_return (DX6_joinQueue.at 22 rfl) rfl (RV.mk q32)

theorem m_leaveQueue (hM : MdAt G h b i ρ) (h160 : ∀ x, x ∈ q → x < 160) (hl : q.length ≤ 160) (hq : ρ 1 8 = nI q.length) (hQ : ∀ k x, q[k]? = some x → ρ 1 (189 + k) = nI x) (hp : q[p]? = some (20 * t + c)) (hne : ∀ j : Nat, j < p → q[j]? ≠ some (20 * t + c)) : Calls E mX6_leaveQueue d 0 0 [.ref b, .int (nI t), .int (nI c)] h (RV (fun h' => ∃ f, MdAt G h' b i (rset ρ 1 f) ∧ f 8 = nI (q.length - 1) ∧ (∀ k, k < 189 → k ≠ 8 → f k = ρ 1 k) ∧ ∀ k x, (q.erase (20 * t + c))[k]? = some x → f (189 + k) = nI x)) := by
  refine Calls.of (ls := [some (.ref b), some (.int (nI t)), some (.int (nI c)), none, none]) (by decide +kernel) rfl (Nat.le_of_ble_eq_true rfl) (cat_ok rfl) ?_
  have hpl := (List.getElem?_eq_some_iff.mp hp).1
  have htc := h160 _ (List.mem_of_getElem? hp)
  have loopA : ∀ (m j : Nat), j + m = p → Go E mX6_leaveQueue d 0 0 2 [some (.ref b), some (.int (nI t)), some (.int (nI c)), some (.int (nI j)), none] [] h (RV (fun h' => ∃ f, MdAt G h' b i (rset ρ 1 f) ∧ f 8 = nI (q.length - 1) ∧ (∀ k, k < 189 → k ≠ 8 → f k = ρ 1 k) ∧ ∀ k x, (q.erase (20 * t + c))[k]? = some x → f (189 + k) = nI x)) := by
    intro m
    induction m with
    | zero =>
      intro j hj
      have ej : p = j := by omega
      subst ej
      refine go_aload_0 (DX6_leaveQueue.at 2 rfl) ?_
      refine go_getfield (DX6_leaveQueue.at 3 rfl) fX6_7 hM.1 rfl ?_
      refine go_sipush (v := nI 189) (DX6_leaveQueue.at 4 rfl) (by decide) ?_
      refine go_iload_3 (DX6_leaveQueue.at 5 rfl) ?_
      refine go_iadd (DX6_leaveQueue.at 6 rfl) ?_
      rw [nI_add]
      refine go_ialdM (DX6_leaveQueue.at 7 rfl) (hM.2.1 1 (by decide)) (show 189 + p < 349 by omega) (by decide) ?_
      rw [hQ p _ hp]
      refine go_bipush (v := nI 20) (DX6_leaveQueue.at 8 rfl) (by decide) ?_
      refine go_iload_1 (DX6_leaveQueue.at 9 rfl) ?_
      refine go_imul (DX6_leaveQueue.at 10 rfl) ?_
      rw [pk_mul]
      refine go_iload_2 (DX6_leaveQueue.at 11 rfl) ?_
      refine go_iadd (DX6_leaveQueue.at 12 rfl) ?_
      rw [nI_add]
      refine go_icmp_eq 27 (DX6_leaveQueue.at 13 rfl) (by decide) (fun c18 => ?_) (fun c18 => absurd rfl c18)
      refine go_aload_0 (DX6_leaveQueue.at 16 rfl) ?_
      refine go_getfield (DX6_leaveQueue.at 17 rfl) fX6_7 hM.1 rfl ?_
      refine go_bipush (v := nI 8) (DX6_leaveQueue.at 18 rfl) (by decide) ?_
      refine go_dup2 (DX6_leaveQueue.at 19 rfl) rfl rfl ?_
      refine go_ialdM (DX6_leaveQueue.at 20 rfl) (hM.2.1 1 (by decide)) (show 8 < 349 by decide) (by decide) ?_
      rw [hq]
      refine go_iconst (v := nI 1) (DX6_leaveQueue.at 21 rfl) (by decide) ?_
      refine go_isub (DX6_leaveQueue.at 22 rfl) ?_
      rw [pk_sub (by omega)]
      refine go_iastM (DX6_leaveQueue.at 23 rfl) hM (a := 1) (by decide) (show 8 < 349 by decide) (fun h37 q37 => ?_)
      refine go_iload_3 (DX6_leaveQueue.at 24 rfl) ?_
      refine go_istore_4 (DX6_leaveQueue.at 25 rfl) ?_
      have loopB : ∀ (m j : Nat) (h : List va_E) (f : Nat → Int32), j + m = q.length - 1 → MdAt G h b i (rset ρ 1 f) → p ≤ j → f 8 = nI (q.length - 1) → (∀ k, k < 189 → k ≠ 8 → f k = ρ 1 k) → (∀ k, k < p → f (189 + k) = ρ 1 (189 + k)) → (∀ k, p ≤ k → k < j → f (189 + k) = ρ 1 (189 + k + 1)) → (∀ k, j ≤ k → f (189 + k) = ρ 1 (189 + k)) → Go E mX6_leaveQueue d 0 0 41 [some (.ref b), some (.int (nI t)), some (.int (nI c)), some (.int (nI p)), some (.int (nI j))] [] h (RV (fun h' => ∃ f, MdAt G h' b i (rset ρ 1 f) ∧ f 8 = nI (q.length - 1) ∧ (∀ k, k < 189 → k ≠ 8 → f k = ρ 1 k) ∧ ∀ k x, (q.erase (20 * t + c))[k]? = some x → f (189 + k) = nI x)) := by
        intro m
        induction m with
        | zero =>
          intro j h f hj u hpj f8 fo fa fb fc
          have ej : q.length - 1 = j := by omega
          subst ej
          refine go_iload_4 (DX6_leaveQueue.at 26 rfl) ?_
          refine go_aload_0 (DX6_leaveQueue.at 27 rfl) ?_
          refine go_getfield (DX6_leaveQueue.at 28 rfl) fX6_7 u.1 rfl ?_
          refine go_bipush (v := nI 8) (DX6_leaveQueue.at 29 rfl) (by decide) ?_
          refine go_ialdM (DX6_leaveQueue.at 30 rfl) (u.2.1 1 (by decide)) (show 8 < 349 by decide) (by decide) ?_
          rw [rset_s, f8]
          refine go_icmp_ge 83 (DX6_leaveQueue.at 31 rfl) (by decide) (fun c50 => ?_) (fun c50 => absurd (Int32.le_refl _) c50)
          exact go_return (DX6_leaveQueue.at 48 rfl) rfl (RV.mk ⟨f, u, f8, fo, fun k x hx => by
  rw [erase_at hp hne] at hx
  by_cases e : k < p
  · rw [if_pos e] at hx
    rw [fa k e]
    exact hQ k x hx
  · rw [if_neg e] at hx
    have h1 := (List.getElem?_eq_some_iff.mp hx).1
    rw [fb k (by omega) (by omega)]
    exact hQ (k + 1) x hx⟩)
        | succ m ih =>
          intro j h f hj u hpj f8 fo fa fb fc
          refine go_iload_4 (DX6_leaveQueue.at 26 rfl) ?_
          refine go_aload_0 (DX6_leaveQueue.at 27 rfl) ?_
          refine go_getfield (DX6_leaveQueue.at 28 rfl) fX6_7 u.1 rfl ?_
          refine go_bipush (v := nI 8) (DX6_leaveQueue.at 29 rfl) (by decide) ?_
          refine go_ialdM (DX6_leaveQueue.at 30 rfl) (u.2.1 1 (by decide)) (show 8 < 349 by decide) (by decide) ?_
          rw [rset_s, f8]
          refine go_icmp_ge 83 (DX6_leaveQueue.at 31 rfl) (by decide) (fun c50 => absurd ((nI_leI (by omega) (by omega)).mp c50) (by omega)) (fun c50 => ?_)
          refine go_aload_0 (DX6_leaveQueue.at 32 rfl) ?_
          refine go_getfield (DX6_leaveQueue.at 33 rfl) fX6_7 u.1 rfl ?_
          refine go_sipush (v := nI 189) (DX6_leaveQueue.at 34 rfl) (by decide) ?_
          refine go_iload_4 (DX6_leaveQueue.at 35 rfl) ?_
          refine go_iadd (DX6_leaveQueue.at 36 rfl) ?_
          rw [nI_add]
          refine go_aload_0 (DX6_leaveQueue.at 37 rfl) ?_
          refine go_getfield (DX6_leaveQueue.at 38 rfl) fX6_7 u.1 rfl ?_
          refine go_sipush (v := nI 189) (DX6_leaveQueue.at 39 rfl) (by decide) ?_
          refine go_iload_4 (DX6_leaveQueue.at 40 rfl) ?_
          refine go_iadd (DX6_leaveQueue.at 41 rfl) ?_
          rw [nI_add]
          refine go_iconst (v := nI 1) (DX6_leaveQueue.at 42 rfl) (by decide) ?_
          refine go_iadd (DX6_leaveQueue.at 43 rfl) ?_
          rw [nI_add]
          refine go_ialdM (DX6_leaveQueue.at 44 rfl) (u.2.1 1 (by decide)) (show 189 + j + 1 < 349 by omega) (by decide) ?_
          rw [rset_s, show f (189 + j + 1) = ρ 1 (189 + j + 1) from fc (j + 1) (by omega)]
          refine go_iastM (DX6_leaveQueue.at 45 rfl) u (a := 1) (by decide) (show 189 + j < 349 by omega) (fun h76 q76 => ?_)
          rw [rset_rset, rset_s] at q76
          refine go_iincN_4 (DX6_leaveQueue.at 46 rfl) ?_
          refine go_goto 41 (DX6_leaveQueue.at 47 rfl) (by decide) ?_
          exact ih (j + 1) _ _ (by omega) q76 (by omega) (by rw [pk_un (by omega)]; exact f8) (fun k h1 h2 => by rw [pk_un (by omega)]; exact fo k h1 h2) (fun k h1 => by rw [pk_un (by omega)]; exact fa k h1) (fun k h1 h2 => by
            by_cases e : k = j
            · rw [e, pk_us]
            · rw [pk_un (by omega)]
              exact fb k h1 (by omega)) (fun k h1 => by rw [pk_un (by omega)]; exact fc k (by omega))
      exact loopB (q.length - 1 - p) p h37 _ (by omega) q37 (Nat.le_refl p) pk_us (fun k h1 h2 => pk_un h2) (fun k h1 => pk_un (by omega)) (fun k h1 h2 => absurd h1 (by omega)) (fun k h1 => pk_un (by omega))
    | succ m ih =>
      intro j hj
      have hj1 : q[j]? = some q[j] := List.getElem?_eq_getElem (by omega)
      have hj2 : q[j] ≠ 20 * t + c := fun e => hne j (by omega) (by rw [hj1, e])
      have hj3 := h160 _ (List.mem_of_getElem? hj1)
      refine go_aload_0 (DX6_leaveQueue.at 2 rfl) ?_
      refine go_getfield (DX6_leaveQueue.at 3 rfl) fX6_7 hM.1 rfl ?_
      refine go_sipush (v := nI 189) (DX6_leaveQueue.at 4 rfl) (by decide) ?_
      refine go_iload_3 (DX6_leaveQueue.at 5 rfl) ?_
      refine go_iadd (DX6_leaveQueue.at 6 rfl) ?_
      rw [nI_add]
      refine go_ialdM (DX6_leaveQueue.at 7 rfl) (hM.2.1 1 (by decide)) (show 189 + j < 349 by omega) (by decide) ?_
      rw [hQ j _ hj1]
      refine go_bipush (v := nI 20) (DX6_leaveQueue.at 8 rfl) (by decide) ?_
      refine go_iload_1 (DX6_leaveQueue.at 9 rfl) ?_
      refine go_imul (DX6_leaveQueue.at 10 rfl) ?_
      rw [pk_mul]
      refine go_iload_2 (DX6_leaveQueue.at 11 rfl) ?_
      refine go_iadd (DX6_leaveQueue.at 12 rfl) ?_
      rw [nI_add]
      refine go_icmp_eq 27 (DX6_leaveQueue.at 13 rfl) (by decide) (fun c18 => absurd ((nI_eq (by omega) (by omega)).mp c18) hj2) (fun c18 => ?_)
      refine go_iincN_3 (DX6_leaveQueue.at 14 rfl) ?_
      refine go_goto 2 (DX6_leaveQueue.at 15 rfl) (by decide) ?_
      exact ih (j + 1) (by omega)
  refine go_iconst (v := nI 0) (DX6_leaveQueue.at 0 rfl) (by decide) ?_
  refine go_istore_3 (DX6_leaveQueue.at 1 rfl) ?_
  exact loopA p 0 (Nat.zero_add _)

theorem m_mendCell {x y : Int32} (hX : MX G h b i ρ A) (hd : 7 ≤ d) : Calls E mX6_mendCell d 0 0 [.ref b, .int x, .int y] h (RI (fun r h' => ∃ ρ', MdAt G h' b i ρ' ∧ MU ρ ρ' ∧ r = (mdF A x y).1 ∧ RepM (mdF A x y).2 (ρ' 1))) := by
  refine Calls.of (ls := [some (.ref b), some (.int x), some (.int y), none, none, none, none]) (by decide +kernel) rfl (Nat.le_of_ble_eq_true rfl) (cat_ok rfl) ?_
  have hM := hX.1
  have hTb := hX.2.1
  have hR := hX.2.2
  have hA := hR.1
  have hn := hA.1.nc
  have hT8 : aT A ≤ 8 := hA.1.2.2.2.2.2.2.1
  have hg4 : aG A ≤ 4 := hA.1.2.1
  have hs6 : aS A ≤ 6 := hA.1.2.2.2.1
  have hs2 : 2 ≤ aS A := hA.1.2.2.1
  have hg1 : 1 ≤ aG A := hA.1.1
  have hgs : aG A * aS A ≤ 15 := hA.1.2.2.2.2.1
  have hH5 : aH A ≤ 5 := hA.1.2.2.2.2.2.2.2
  have en : nc (aG A) (aS A) = aG A * aS A + aG A + 2 := rfl
  refine go_aload_0 (DX6_mendCell.at 0 rfl) ?_
  refine go_iload_1 (DX6_mendCell.at 1 rfl) ?_
  refine go_iload_2 (DX6_mendCell.at 2 rfl) ?_
  refine go_cVx2 (DX6_mendCell.at 3 rfl) nX6_126 vX6_isCell (by omega) (m_isCell hX (by omega)) hM.1 rfl (Nat.le_of_ble_eq_true rfl) ?_
  refine go_if_ne 11 (DX6_mendCell.at 4 rfl) (by decide) (fun c6 => ?_) (fun c6 => ?_)
  · rw [bP_eq0, Classical.not_not] at c6
    obtain ⟨⟨t, ht, rfl⟩, ⟨c, hc, rfl⟩⟩ := And.intro (inR_ex (by omega) c6.1) (inR_ex (by omega) c6.2)
    refine go_aload_0 (DX6_mendCell.at 7 rfl) ?_
    refine go_iload_1 (DX6_mendCell.at 8 rfl) ?_
    refine go_iload_2 (DX6_mendCell.at 9 rfl) ?_
    refine go_cVx2 (DX6_mendCell.at 10 rfl) nX6_65 vX6_isLost (by omega) (m_isLost ht hc hX (by omega)) hM.1 rfl (Nat.le_of_ble_eq_true rfl) ?_
    refine go_if_ne 23 (DX6_mendCell.at 11 rfl) (by decide) (fun c17 => ?_) (fun c17 => ?_)
    · rw [bP_eq0, Classical.not_not] at c17
      refine go_aload_0 (DX6_mendCell.at 14 rfl) ?_
      refine go_iload_1 (DX6_mendCell.at 15 rfl) ?_
      refine go_iload_2 (DX6_mendCell.at 16 rfl) ?_
      refine go_cVi2 (DX6_mendCell.at 17 rfl) nX6_129 vX6_wayNow (by omega) (m_wayNow ht hc c17 hX (by omega)) hM.1 rfl (Nat.le_of_ble_eq_true rfl) (fun x26 h26 q26 => ?_)
      obtain ⟨f0, q26, q⟩ := q26
      have hX0 := hX.row10 q26
      rcases q with ⟨w, src, X, hW, rfl⟩ | ⟨hno, rfl⟩
      · have hb := c17
        have hX16 : X < 16 := WyX.lt hA hc hW
        have hw3 := hW.w
        obtain ⟨p, hp1, hp2⟩ := first_at ((hA.qin ht hc).mpr hb)
        have hpl := (List.getElem?_eq_some_iff.mp hp1).1
        have hq160 := hA.q160
        refine go_istore_3 (DX6_mendCell.at 18 rfl) ?_
        refine go_iload_3 (DX6_mendCell.at 19 rfl) ?_
        refine go_if_ne 37 (DX6_mendCell.at 20 rfl) (by decide) (fun c31 => ?_) (fun c31 => absurd ((nI_eq0 (by omega)).mp c31) (by omega))
        refine go_aload_0 (DX6_mendCell.at 23 rfl) ?_
        refine go_iload_1 (DX6_mendCell.at 24 rfl) ?_
        refine go_iload_2 (DX6_mendCell.at 25 rfl) ?_
        refine go_iload_3 (DX6_mendCell.at 26 rfl) ?_
        refine go_cVi3 (DX6_mendCell.at 27 rfl) nX6_132 vX6_mendedValue (by omega) (m_mendedValue ht hc hb hW hX0 (by omega)) q26.1 rfl (Nat.le_of_ble_eq_true rfl) (fun x41 h41 q41 => ?_)
        obtain ⟨f1, q41, rfl⟩ := q41
        have u1 : MU ρ (rset (rset ρ 10 f0) 10 f1) := MU.r10.trans MU.r10
        have hX1 := mX hX q41 u1 hR
        clear hX0 q26
        generalize rset (rset ρ 10 f0) 10 f1 = ρ1 at q41 u1 hX1
        refine go_istore_4 (DX6_mendCell.at 28 rfl) ?_
        refine go_iconst (v := nI 0) (DX6_mendCell.at 29 rfl) (by decide) ?_
        refine go_istore_5 (DX6_mendCell.at 30 rfl) ?_
        refine go_iconst (v := nI 0) (DX6_mendCell.at 31 rfl) (by decide) ?_
        refine go_istore_6 (DX6_mendCell.at 32 rfl) ?_
        have loop : ∀ (m j : Nat) (h : List va_E) (f : Nat → Int32), j + m = nc (aG A) (aS A) → MdAt G h b i (rset ρ1 1 f) → (∀ k, (k < 9 ∨ 29 ≤ k) → f k = ρ1 1 k) → (∀ k, k < 20 → f (9 + k) = rdl (fun j => ρ1 1 (9 + j)) src (fun c => (c + t * aH A) % nc (aG A) (aS A)) j k) → Go E mX6_mendCell d 0 0 52 [some (.ref b), some (.int (nI t)), some (.int (nI c)), some (.int (nI w)), some (.int (nI X)), some (.int (nI (pcn src j))), some (.int (nI j))] [] h (RI (fun r h' => ∃ ρ', MdAt G h' b i ρ' ∧ MU ρ ρ' ∧ r = (mdF A (nI t) (nI c)).1 ∧ RepM (mdF A (nI t) (nI c)).2 (ρ' 1))) := by
          intro m
          induction m with
          | zero =>
            intro j h f hj u fo fl
            have ej : nc (aG A) (aS A) = j := by omega
            subst ej
            rcases hW.w with rfl | rfl | rfl
            · refine go_iload_6 (DX6_mendCell.at 33 rfl) ?_
              refine go_aload_0 (DX6_mendCell.at 34 rfl) ?_
              refine go_cVx0 (DX6_mendCell.at 35 rfl) nX6_59 vX6_cells (by omega) (m_cells (mX hX1 u MU.r1 (hX1.2.2.ld fo fl)) (by omega)) u.1 rfl (Nat.le_of_ble_eq_true rfl) ?_
              rw [aLd_n]
              refine go_icmp_ge 101 (DX6_mendCell.at 36 rfl) (by decide) (fun c58 => ?_) (fun c58 => absurd (Int32.le_refl _) c58)
              refine go_aload_0 (DX6_mendCell.at 60 rfl) ?_
              refine go_getfield (DX6_mendCell.at 61 rfl) fX6_7 u.1 rfl ?_
              refine go_iconst (v := nI 4) (DX6_mendCell.at 62 rfl) (by decide) ?_
              refine go_dup2 (DX6_mendCell.at 63 rfl) rfl rfl ?_
              refine go_ialdM (DX6_mendCell.at 64 rfl) (u.2.1 1 (by decide)) (show 4 < 349 by decide) (by decide) ?_
              rw [rset_s, fo 4 (by omega)]
              refine go_iload_5 (DX6_mendCell.at 65 rfl) ?_
              refine go_iadd (DX6_mendCell.at 66 rfl) ?_
              refine go_iastM (DX6_mendCell.at 67 rfl) u (a := 1) (by decide) (show 4 < 349 by decide) (fun h111 q111 => ?_)
              rw [rset_rset, rset_s] at q111
              refine go_aload_0 (DX6_mendCell.at 68 rfl) ?_
              refine go_getfield (DX6_mendCell.at 69 rfl) fX6_7 q111.1 rfl ?_
              refine go_iconst (v := nI 5) (DX6_mendCell.at 70 rfl) (by decide) ?_
              refine go_dup2 (DX6_mendCell.at 71 rfl) rfl rfl ?_
              refine go_ialdM (DX6_mendCell.at 72 rfl) (q111.2.1 1 (by decide)) (show 5 < 349 by decide) (by decide) ?_
              rw [rset_s, pk_un (by decide), fo 5 (by omega)]
              refine go_iconst (v := nI 1) (DX6_mendCell.at 73 rfl) (by decide) ?_
              refine go_iadd (DX6_mendCell.at 74 rfl) ?_
              refine go_iastM (DX6_mendCell.at 75 rfl) q111 (a := 1) (by decide) (show 5 < 349 by decide) (fun h121 q121 => ?_)
              rw [rset_rset, rset_s] at q121
              refine go_aload_0 (DX6_mendCell.at 76 rfl) ?_
              refine go_getfield (DX6_mendCell.at 77 rfl) fX6_7 q121.1 rfl ?_
              refine go_bipush (v := nI 6) (DX6_mendCell.at 78 rfl) (by decide) ?_
              refine go_dup2 (DX6_mendCell.at 79 rfl) rfl rfl ?_
              refine go_ialdM (DX6_mendCell.at 80 rfl) (q121.2.1 1 (by decide)) (show 6 < 349 by decide) (by decide) ?_
              rw [rset_s, pk_un (by decide), pk_un (by decide), fo 6 (by omega)]
              refine go_iload_3 (DX6_mendCell.at 81 rfl) ?_
              refine go_iconst (v := nI 1) (DX6_mendCell.at 82 rfl) (by decide) ?_
              refine go_icmp_ne 139 (DX6_mendCell.at 83 rfl) (by decide) (fun c132 => absurd rfl c132) (fun c132 => ?_)
              refine go_iconst (v := nI 1) (DX6_mendCell.at 84 rfl) (by decide) ?_
              refine go_goto 140 (DX6_mendCell.at 85 rfl) (by decide) ?_
              refine go_iadd (DX6_mendCell.at 87 rfl) ?_
              refine go_iastM (DX6_mendCell.at 88 rfl) q121 (a := 1) (by decide) (show 6 < 349 by decide) (fun h141 q141 => ?_)
              rw [rset_rset, rset_s] at q141
              refine go_aload_0 (DX6_mendCell.at 89 rfl) ?_
              refine go_iload_1 (DX6_mendCell.at 90 rfl) ?_
              refine go_iload_2 (DX6_mendCell.at 91 rfl) ?_
              refine go_iload_4 (DX6_mendCell.at 92 rfl) ?_
              refine go_cVv3 (DX6_mendCell.at 93 rfl) nX6_138 vX6_setValue (by omega) (m_setValue q141 (show t < 8 by omega) (show c < 20 by omega)) q141.1 rfl (Nat.le_of_ble_eq_true rfl) (fun h147 q147 => ?_)
              rw [rset_rset, rset_s] at q147
              refine go_aload_0 (DX6_mendCell.at 94 rfl) ?_
              refine go_iload_1 (DX6_mendCell.at 95 rfl) ?_
              refine go_iload_2 (DX6_mendCell.at 96 rfl) ?_
              refine go_cVv2 (DX6_mendCell.at 97 rfl) nX6_142 vX6_leaveQueue (by omega) (m_leaveQueue (q := aQ A) (p := p) q147 (fun x hx => hA.lt160 hx) hA.q160 (by rw [rset_s, pk_un (by omega), pk_un (by decide), pk_un (by decide), pk_un (by decide), fo 8 (by omega)]; exact hX1.2.2.2.2.2.1) (fun k x hx => by have h1 := hX1.2.2.1.q160; have h2 := (List.getElem?_eq_some_iff.mp hx).1; rw [rset_s, pk_un (by omega), pk_un (by omega), pk_un (by omega), pk_un (by omega), fo (189 + k) (by omega)]; exact hX1.2.2.2.2.2.2.2.2.2 k x hx) hp1 hp2) q147.1 rfl (Nat.le_of_ble_eq_true rfl) (fun h153 q153 => ?_)
              obtain ⟨f2, q153, g8, go, gq⟩ := q153
              rw [rset_rset] at q153
              refine go_iload_5 (DX6_mendCell.at 98 rfl) ?_
              exact go_iret (DX6_mendCell.at 99 rfl) rfl rfl (RI.mk ⟨_, q153, (u1.trans MU.r1), by rw [mdF_in hA ht hc, cI_t hb, mdA_s hW, pcn_n (src_n hA.1 hW) hn.2], by
                rw [mdF_in hA ht hc, cI_t hb, mdA_s hW, rset_s]
                have hk : ∀ k, k < 189 → k ≠ 8 → k ≠ 29 + 20 * t + c → k ≠ 6 → k ≠ 5 → k ≠ 4 → f2 k = f k := fun k h1 h2 h3 h4 h5 h6 => by
                  rw [go k h1 h2, rset_s, pk_un h3, pk_un h4, pk_un h5, pk_un h6]
                refine RepM.mnd hX1.2.2 ht hc hb hX16 (fun k hk4 => ?_) ?_ ?_ ?_ ?_ g8 (fun j hj => ?_) (fun k h1 h2 => ?_) gq
                · rw [hk k (by omega) (by omega) (by omega) (by omega) (by omega) (by omega), fo k (by omega)]
                · rw [go 4 (by decide) (by decide), rset_s, pk_un (by omega), pk_un (by decide), pk_un (by decide), pk_us, rdc_pcn]
                · rw [go 5 (by decide) (by decide), rset_s, pk_un (by omega), pk_un (by decide), pk_us]
                  rfl
                · rw [go 6 (by decide) (by decide), rset_s, pk_un (by omega), pk_us]
                  rfl
                · rw [hk 7 (by decide) (by decide) (by omega) (by decide) (by decide) (by decide), fo 7 (by omega)]
                · rw [hk (9 + j) (by omega) (by omega) (by omega) (by omega) (by omega) (by omega), fl j hj]
                · by_cases e : k = 29 + 20 * t + c
                  · rw [if_pos e, e, go _ (by omega) (by omega), rset_s, pk_us]
                  · rw [if_neg e, hk k (by omega) (by omega) e (by omega) (by omega) (by omega), fo k (by omega)]⟩)
            · refine go_iload_6 (DX6_mendCell.at 33 rfl) ?_
              refine go_aload_0 (DX6_mendCell.at 34 rfl) ?_
              refine go_cVx0 (DX6_mendCell.at 35 rfl) nX6_59 vX6_cells (by omega) (m_cells (mX hX1 u MU.r1 (hX1.2.2.ld fo fl)) (by omega)) u.1 rfl (Nat.le_of_ble_eq_true rfl) ?_
              rw [aLd_n]
              refine go_icmp_ge 101 (DX6_mendCell.at 36 rfl) (by decide) (fun c58 => ?_) (fun c58 => absurd (Int32.le_refl _) c58)
              refine go_aload_0 (DX6_mendCell.at 60 rfl) ?_
              refine go_getfield (DX6_mendCell.at 61 rfl) fX6_7 u.1 rfl ?_
              refine go_iconst (v := nI 4) (DX6_mendCell.at 62 rfl) (by decide) ?_
              refine go_dup2 (DX6_mendCell.at 63 rfl) rfl rfl ?_
              refine go_ialdM (DX6_mendCell.at 64 rfl) (u.2.1 1 (by decide)) (show 4 < 349 by decide) (by decide) ?_
              rw [rset_s, fo 4 (by omega)]
              refine go_iload_5 (DX6_mendCell.at 65 rfl) ?_
              refine go_iadd (DX6_mendCell.at 66 rfl) ?_
              refine go_iastM (DX6_mendCell.at 67 rfl) u (a := 1) (by decide) (show 4 < 349 by decide) (fun h111 q111 => ?_)
              rw [rset_rset, rset_s] at q111
              refine go_aload_0 (DX6_mendCell.at 68 rfl) ?_
              refine go_getfield (DX6_mendCell.at 69 rfl) fX6_7 q111.1 rfl ?_
              refine go_iconst (v := nI 5) (DX6_mendCell.at 70 rfl) (by decide) ?_
              refine go_dup2 (DX6_mendCell.at 71 rfl) rfl rfl ?_
              refine go_ialdM (DX6_mendCell.at 72 rfl) (q111.2.1 1 (by decide)) (show 5 < 349 by decide) (by decide) ?_
              rw [rset_s, pk_un (by decide), fo 5 (by omega)]
              refine go_iconst (v := nI 1) (DX6_mendCell.at 73 rfl) (by decide) ?_
              refine go_iadd (DX6_mendCell.at 74 rfl) ?_
              refine go_iastM (DX6_mendCell.at 75 rfl) q111 (a := 1) (by decide) (show 5 < 349 by decide) (fun h121 q121 => ?_)
              rw [rset_rset, rset_s] at q121
              refine go_aload_0 (DX6_mendCell.at 76 rfl) ?_
              refine go_getfield (DX6_mendCell.at 77 rfl) fX6_7 q121.1 rfl ?_
              refine go_bipush (v := nI 6) (DX6_mendCell.at 78 rfl) (by decide) ?_
              refine go_dup2 (DX6_mendCell.at 79 rfl) rfl rfl ?_
              refine go_ialdM (DX6_mendCell.at 80 rfl) (q121.2.1 1 (by decide)) (show 6 < 349 by decide) (by decide) ?_
              rw [rset_s, pk_un (by decide), pk_un (by decide), fo 6 (by omega)]
              refine go_iload_3 (DX6_mendCell.at 81 rfl) ?_
              refine go_iconst (v := nI 1) (DX6_mendCell.at 82 rfl) (by decide) ?_
              refine go_icmp_ne 139 (DX6_mendCell.at 83 rfl) (by decide) (fun c132 => ?_) (fun c132 => absurd c132 (by decide))
              refine go_iconst (v := nI 0) (DX6_mendCell.at 86 rfl) (by decide) ?_
              refine go_iadd (DX6_mendCell.at 87 rfl) ?_
              refine go_iastM (DX6_mendCell.at 88 rfl) q121 (a := 1) (by decide) (show 6 < 349 by decide) (fun h141 q141 => ?_)
              rw [rset_rset, rset_s] at q141
              refine go_aload_0 (DX6_mendCell.at 89 rfl) ?_
              refine go_iload_1 (DX6_mendCell.at 90 rfl) ?_
              refine go_iload_2 (DX6_mendCell.at 91 rfl) ?_
              refine go_iload_4 (DX6_mendCell.at 92 rfl) ?_
              refine go_cVv3 (DX6_mendCell.at 93 rfl) nX6_138 vX6_setValue (by omega) (m_setValue q141 (show t < 8 by omega) (show c < 20 by omega)) q141.1 rfl (Nat.le_of_ble_eq_true rfl) (fun h147 q147 => ?_)
              rw [rset_rset, rset_s] at q147
              refine go_aload_0 (DX6_mendCell.at 94 rfl) ?_
              refine go_iload_1 (DX6_mendCell.at 95 rfl) ?_
              refine go_iload_2 (DX6_mendCell.at 96 rfl) ?_
              refine go_cVv2 (DX6_mendCell.at 97 rfl) nX6_142 vX6_leaveQueue (by omega) (m_leaveQueue (q := aQ A) (p := p) q147 (fun x hx => hA.lt160 hx) hA.q160 (by rw [rset_s, pk_un (by omega), pk_un (by decide), pk_un (by decide), pk_un (by decide), fo 8 (by omega)]; exact hX1.2.2.2.2.2.1) (fun k x hx => by have h1 := hX1.2.2.1.q160; have h2 := (List.getElem?_eq_some_iff.mp hx).1; rw [rset_s, pk_un (by omega), pk_un (by omega), pk_un (by omega), pk_un (by omega), fo (189 + k) (by omega)]; exact hX1.2.2.2.2.2.2.2.2.2 k x hx) hp1 hp2) q147.1 rfl (Nat.le_of_ble_eq_true rfl) (fun h153 q153 => ?_)
              obtain ⟨f2, q153, g8, go, gq⟩ := q153
              rw [rset_rset] at q153
              refine go_iload_5 (DX6_mendCell.at 98 rfl) ?_
              exact go_iret (DX6_mendCell.at 99 rfl) rfl rfl (RI.mk ⟨_, q153, (u1.trans MU.r1), by rw [mdF_in hA ht hc, cI_t hb, mdA_s hW, pcn_n (src_n hA.1 hW) hn.2], by
                rw [mdF_in hA ht hc, cI_t hb, mdA_s hW, rset_s]
                have hk : ∀ k, k < 189 → k ≠ 8 → k ≠ 29 + 20 * t + c → k ≠ 6 → k ≠ 5 → k ≠ 4 → f2 k = f k := fun k h1 h2 h3 h4 h5 h6 => by
                  rw [go k h1 h2, rset_s, pk_un h3, pk_un h4, pk_un h5, pk_un h6]
                refine RepM.mnd hX1.2.2 ht hc hb hX16 (fun k hk4 => ?_) ?_ ?_ ?_ ?_ g8 (fun j hj => ?_) (fun k h1 h2 => ?_) gq
                · rw [hk k (by omega) (by omega) (by omega) (by omega) (by omega) (by omega), fo k (by omega)]
                · rw [go 4 (by decide) (by decide), rset_s, pk_un (by omega), pk_un (by decide), pk_un (by decide), pk_us, rdc_pcn]
                · rw [go 5 (by decide) (by decide), rset_s, pk_un (by omega), pk_un (by decide), pk_us]
                  rfl
                · rw [go 6 (by decide) (by decide), rset_s, pk_un (by omega), pk_us]
                  exact Int32.add_zero _
                · rw [hk 7 (by decide) (by decide) (by omega) (by decide) (by decide) (by decide), fo 7 (by omega)]
                · rw [hk (9 + j) (by omega) (by omega) (by omega) (by omega) (by omega) (by omega), fl j hj]
                · by_cases e : k = 29 + 20 * t + c
                  · rw [if_pos e, e, go _ (by omega) (by omega), rset_s, pk_us]
                  · rw [if_neg e, hk k (by omega) (by omega) e (by omega) (by omega) (by omega), fo k (by omega)]⟩)
            · refine go_iload_6 (DX6_mendCell.at 33 rfl) ?_
              refine go_aload_0 (DX6_mendCell.at 34 rfl) ?_
              refine go_cVx0 (DX6_mendCell.at 35 rfl) nX6_59 vX6_cells (by omega) (m_cells (mX hX1 u MU.r1 (hX1.2.2.ld fo fl)) (by omega)) u.1 rfl (Nat.le_of_ble_eq_true rfl) ?_
              rw [aLd_n]
              refine go_icmp_ge 101 (DX6_mendCell.at 36 rfl) (by decide) (fun c58 => ?_) (fun c58 => absurd (Int32.le_refl _) c58)
              refine go_aload_0 (DX6_mendCell.at 60 rfl) ?_
              refine go_getfield (DX6_mendCell.at 61 rfl) fX6_7 u.1 rfl ?_
              refine go_iconst (v := nI 4) (DX6_mendCell.at 62 rfl) (by decide) ?_
              refine go_dup2 (DX6_mendCell.at 63 rfl) rfl rfl ?_
              refine go_ialdM (DX6_mendCell.at 64 rfl) (u.2.1 1 (by decide)) (show 4 < 349 by decide) (by decide) ?_
              rw [rset_s, fo 4 (by omega)]
              refine go_iload_5 (DX6_mendCell.at 65 rfl) ?_
              refine go_iadd (DX6_mendCell.at 66 rfl) ?_
              refine go_iastM (DX6_mendCell.at 67 rfl) u (a := 1) (by decide) (show 4 < 349 by decide) (fun h111 q111 => ?_)
              rw [rset_rset, rset_s] at q111
              refine go_aload_0 (DX6_mendCell.at 68 rfl) ?_
              refine go_getfield (DX6_mendCell.at 69 rfl) fX6_7 q111.1 rfl ?_
              refine go_iconst (v := nI 5) (DX6_mendCell.at 70 rfl) (by decide) ?_
              refine go_dup2 (DX6_mendCell.at 71 rfl) rfl rfl ?_
              refine go_ialdM (DX6_mendCell.at 72 rfl) (q111.2.1 1 (by decide)) (show 5 < 349 by decide) (by decide) ?_
              rw [rset_s, pk_un (by decide), fo 5 (by omega)]
              refine go_iconst (v := nI 1) (DX6_mendCell.at 73 rfl) (by decide) ?_
              refine go_iadd (DX6_mendCell.at 74 rfl) ?_
              refine go_iastM (DX6_mendCell.at 75 rfl) q111 (a := 1) (by decide) (show 5 < 349 by decide) (fun h121 q121 => ?_)
              rw [rset_rset, rset_s] at q121
              refine go_aload_0 (DX6_mendCell.at 76 rfl) ?_
              refine go_getfield (DX6_mendCell.at 77 rfl) fX6_7 q121.1 rfl ?_
              refine go_bipush (v := nI 6) (DX6_mendCell.at 78 rfl) (by decide) ?_
              refine go_dup2 (DX6_mendCell.at 79 rfl) rfl rfl ?_
              refine go_ialdM (DX6_mendCell.at 80 rfl) (q121.2.1 1 (by decide)) (show 6 < 349 by decide) (by decide) ?_
              rw [rset_s, pk_un (by decide), pk_un (by decide), fo 6 (by omega)]
              refine go_iload_3 (DX6_mendCell.at 81 rfl) ?_
              refine go_iconst (v := nI 1) (DX6_mendCell.at 82 rfl) (by decide) ?_
              refine go_icmp_ne 139 (DX6_mendCell.at 83 rfl) (by decide) (fun c132 => ?_) (fun c132 => absurd c132 (by decide))
              refine go_iconst (v := nI 0) (DX6_mendCell.at 86 rfl) (by decide) ?_
              refine go_iadd (DX6_mendCell.at 87 rfl) ?_
              refine go_iastM (DX6_mendCell.at 88 rfl) q121 (a := 1) (by decide) (show 6 < 349 by decide) (fun h141 q141 => ?_)
              rw [rset_rset, rset_s] at q141
              refine go_aload_0 (DX6_mendCell.at 89 rfl) ?_
              refine go_iload_1 (DX6_mendCell.at 90 rfl) ?_
              refine go_iload_2 (DX6_mendCell.at 91 rfl) ?_
              refine go_iload_4 (DX6_mendCell.at 92 rfl) ?_
              refine go_cVv3 (DX6_mendCell.at 93 rfl) nX6_138 vX6_setValue (by omega) (m_setValue q141 (show t < 8 by omega) (show c < 20 by omega)) q141.1 rfl (Nat.le_of_ble_eq_true rfl) (fun h147 q147 => ?_)
              rw [rset_rset, rset_s] at q147
              refine go_aload_0 (DX6_mendCell.at 94 rfl) ?_
              refine go_iload_1 (DX6_mendCell.at 95 rfl) ?_
              refine go_iload_2 (DX6_mendCell.at 96 rfl) ?_
              refine go_cVv2 (DX6_mendCell.at 97 rfl) nX6_142 vX6_leaveQueue (by omega) (m_leaveQueue (q := aQ A) (p := p) q147 (fun x hx => hA.lt160 hx) hA.q160 (by rw [rset_s, pk_un (by omega), pk_un (by decide), pk_un (by decide), pk_un (by decide), fo 8 (by omega)]; exact hX1.2.2.2.2.2.1) (fun k x hx => by have h1 := hX1.2.2.1.q160; have h2 := (List.getElem?_eq_some_iff.mp hx).1; rw [rset_s, pk_un (by omega), pk_un (by omega), pk_un (by omega), pk_un (by omega), fo (189 + k) (by omega)]; exact hX1.2.2.2.2.2.2.2.2.2 k x hx) hp1 hp2) q147.1 rfl (Nat.le_of_ble_eq_true rfl) (fun h153 q153 => ?_)
              obtain ⟨f2, q153, g8, go, gq⟩ := q153
              rw [rset_rset] at q153
              refine go_iload_5 (DX6_mendCell.at 98 rfl) ?_
              exact go_iret (DX6_mendCell.at 99 rfl) rfl rfl (RI.mk ⟨_, q153, (u1.trans MU.r1), by rw [mdF_in hA ht hc, cI_t hb, mdA_s hW, pcn_n (src_n hA.1 hW) hn.2], by
                rw [mdF_in hA ht hc, cI_t hb, mdA_s hW, rset_s]
                have hk : ∀ k, k < 189 → k ≠ 8 → k ≠ 29 + 20 * t + c → k ≠ 6 → k ≠ 5 → k ≠ 4 → f2 k = f k := fun k h1 h2 h3 h4 h5 h6 => by
                  rw [go k h1 h2, rset_s, pk_un h3, pk_un h4, pk_un h5, pk_un h6]
                refine RepM.mnd hX1.2.2 ht hc hb hX16 (fun k hk4 => ?_) ?_ ?_ ?_ ?_ g8 (fun j hj => ?_) (fun k h1 h2 => ?_) gq
                · rw [hk k (by omega) (by omega) (by omega) (by omega) (by omega) (by omega), fo k (by omega)]
                · rw [go 4 (by decide) (by decide), rset_s, pk_un (by omega), pk_un (by decide), pk_un (by decide), pk_us, rdc_pcn]
                · rw [go 5 (by decide) (by decide), rset_s, pk_un (by omega), pk_un (by decide), pk_us]
                  rfl
                · rw [go 6 (by decide) (by decide), rset_s, pk_un (by omega), pk_us]
                  exact Int32.add_zero _
                · rw [hk 7 (by decide) (by decide) (by omega) (by decide) (by decide) (by decide), fo 7 (by omega)]
                · rw [hk (9 + j) (by omega) (by omega) (by omega) (by omega) (by omega) (by omega), fl j hj]
                · by_cases e : k = 29 + 20 * t + c
                  · rw [if_pos e, e, go _ (by omega) (by omega), rset_s, pk_us]
                  · rw [if_neg e, hk k (by omega) (by omega) e (by omega) (by omega) (by omega), fo k (by omega)]⟩)
          | succ m ih =>
            intro j h f hj u fo fl
            refine go_iload_6 (DX6_mendCell.at 33 rfl) ?_
            refine go_aload_0 (DX6_mendCell.at 34 rfl) ?_
            refine go_cVx0 (DX6_mendCell.at 35 rfl) nX6_59 vX6_cells (by omega) (m_cells (mX hX1 u MU.r1 (hX1.2.2.ld fo fl)) (by omega)) u.1 rfl (Nat.le_of_ble_eq_true rfl) ?_
            rw [aLd_n]
            refine go_icmp_ge 101 (DX6_mendCell.at 36 rfl) (by decide) (fun c58 => absurd c58 (nI_ge (by omega) (by omega))) (fun c58 => ?_)
            refine go_aload_0 (DX6_mendCell.at 37 rfl) ?_
            refine go_iload_1 (DX6_mendCell.at 38 rfl) ?_
            refine go_iload_6 (DX6_mendCell.at 39 rfl) ?_
            refine go_iload_2 (DX6_mendCell.at 40 rfl) ?_
            refine go_iload_3 (DX6_mendCell.at 41 rfl) ?_
            refine go_cVx4 (DX6_mendCell.at 42 rfl) nX6_123 vX6_isRead (by omega) (m_isRead (A := aLd A (rdl (fun j => ρ1 1 (9 + j)) src (fun c => (c + t * aH A) % nc (aG A) (aS A)) j)) ht (show j < nc (aG A) (aS A) by omega) hc hW (mX hX1 u MU.r1 (hX1.2.2.ld fo fl)) (by omega)) u.1 rfl (Nat.le_of_ble_eq_true rfl) ?_
            refine go_if_eq 95 (DX6_mendCell.at 43 rfl) (by decide) (fun c70 => ?_) (fun c70 => ?_)
            · rw [bP_eq0] at c70
              have e0 : pcn src (j + 1) = pcn src j := by
                show pcn src j + src / 2 ^ j % 2 = _
                have c70 : ¬ src / 2 ^ j % 2 = 1 := c70
                omega
              have e1 : rdl (fun j => ρ1 1 (9 + j)) src (fun c => (c + t * aH A) % nc (aG A) (aS A)) (j + 1) = rdl (fun j => ρ1 1 (9 + j)) src (fun c => (c + t * aH A) % nc (aG A) (aS A)) j := if_neg c70
              have K := ih (j + 1) h f (by omega) u fo (by rw [e1]; exact fl)
              rw [e0] at K
              refine go_iincN_6 (DX6_mendCell.at 58 rfl) ?_
              refine go_goto 52 (DX6_mendCell.at 59 rfl) (by decide) ?_
              first
                | exact K
                | (have K := ih (j + 1) h91 _ (by omega) q91 (fun k hk => (pk_un (by omega)).trans (fo k hk)) (fun k hk => by
                      rw [e1]
                      by_cases e : k = (j + t * aH A) % nc (aG A) (aS A)
                      · rw [e, pk_us, pk_us]; rfl
                      · rw [pk_un (by omega), pk_un e]
                        exact fl k hk)
                   rw [e0] at K
                   exact K)
            · rw [bP_eq0, Classical.not_not] at c70
              have e0 : pcn src (j + 1) = pcn src j + 1 := by
                show pcn src j + src / 2 ^ j % 2 = _
                have c70 : src / 2 ^ j % 2 = 1 := c70
                omega
              have e1 : rdl (fun j => ρ1 1 (9 + j)) src (fun c => (c + t * aH A) % nc (aG A) (aS A)) (j + 1) = upd (rdl (fun j => ρ1 1 (9 + j)) src (fun c => (c + t * aH A) % nc (aG A) (aS A)) j) ((j + t * aH A) % nc (aG A) (aS A)) (rdl (fun j => ρ1 1 (9 + j)) src (fun c => (c + t * aH A) % nc (aG A) (aS A)) j ((j + t * aH A) % nc (aG A) (aS A)) + 1) := if_pos c70
              refine go_aload_0 (DX6_mendCell.at 44 rfl) ?_
              refine go_getfield (DX6_mendCell.at 45 rfl) fX6_7 u.1 rfl ?_
              refine go_bipush (v := nI 9) (DX6_mendCell.at 46 rfl) (by decide) ?_
              refine go_aload_0 (DX6_mendCell.at 47 rfl) ?_
              refine go_iload_1 (DX6_mendCell.at 48 rfl) ?_
              refine go_iload_6 (DX6_mendCell.at 49 rfl) ?_
              refine go_cVx2 (DX6_mendCell.at 50 rfl) nX6_135 vX6_nodeOf (by omega) (m_nodeOf (A := aLd A (rdl (fun j => ρ1 1 (9 + j)) src (fun c => (c + t * aH A) % nc (aG A) (aS A)) j)) (show t < 8 by omega) (show j < 20 by omega) (mX hX1 u MU.r1 (hX1.2.2.ld fo fl)) (by omega)) u.1 rfl (Nat.le_of_ble_eq_true rfl) ?_
              refine go_iadd (DX6_mendCell.at 51 rfl) ?_
              rw [aLd_h, aLd_n, nI_add]
              refine go_dup2 (DX6_mendCell.at 52 rfl) rfl rfl ?_
              have hnd : (j + t * aH A) % nc (aG A) (aS A) < 20 := Nat.lt_of_lt_of_le (Nat.mod_lt _ (by omega)) hn.2
              refine go_ialdM (j := 9 + (j + t * aH A) % nc (aG A) (aS A)) (DX6_mendCell.at 53 rfl) (u.2.1 1 (by decide)) (show 9 + (j + t * aH A) % nc (aG A) (aS A) < 349 by omega) (by decide) ?_
              rw [rset_s, fl _ hnd]
              refine go_iconst (v := nI 1) (DX6_mendCell.at 54 rfl) (by decide) ?_
              refine go_iadd (DX6_mendCell.at 55 rfl) ?_
              refine go_iastM (j := 9 + (j + t * aH A) % nc (aG A) (aS A)) (DX6_mendCell.at 56 rfl) u (a := 1) (by decide) (show 9 + (j + t * aH A) % nc (aG A) (aS A) < 349 by omega) (fun h91 q91 => ?_)
              rw [rset_rset, rset_s] at q91
              refine go_iincN_5 (DX6_mendCell.at 57 rfl) ?_
              refine go_iincN_6 (DX6_mendCell.at 58 rfl) ?_
              refine go_goto 52 (DX6_mendCell.at 59 rfl) (by decide) ?_
              first
                | exact K
                | (have K := ih (j + 1) h91 _ (by omega) q91 (fun k hk => (pk_un (by omega)).trans (fo k hk)) (fun k hk => by
                      rw [e1]
                      by_cases e : k = (j + t * aH A) % nc (aG A) (aS A)
                      · rw [e, pk_us, pk_us]; rfl
                      · rw [pk_un (by omega), pk_un e]
                        exact fl k hk)
                   rw [e0] at K
                   exact K)
        exact loop (nc (aG A) (aS A)) 0 h41 (ρ1 1) (Nat.zero_add _) (by rw [rset_self]; exact q41) (fun k _ => rfl) (fun k _ => rfl)
      · refine go_istore_3 (DX6_mendCell.at 18 rfl) ?_
        refine go_iload_3 (DX6_mendCell.at 19 rfl) ?_
        refine go_if_ne 37 (DX6_mendCell.at 20 rfl) (by decide) (fun c31 => absurd rfl c31) (fun c31 => ?_)
        refine go_bipush (v := (-4)) (DX6_mendCell.at 21 rfl) (by decide) ?_
        exact go_iret (DX6_mendCell.at 22 rfl) rfl rfl (RI.mk ⟨_, q26, MU.r10, by rw [mdF_in hA ht hc, cI_t c17, mdA_n hno]; exact ⟨rfl, hR⟩⟩)
      
    · rw [bP_eq0] at c17
      have e5 : mdF A (nI t) (nI c) = (-5, A) := by rw [mdF_in hA ht hc, cI_f c17]
      refine go_bipush (v := (-5)) (DX6_mendCell.at 12 rfl) (by decide) ?_
      exact go_iret (DX6_mendCell.at 13 rfl) rfl rfl (RI.mk ⟨ρ, hM, MU.rf, by rw [e5]; exact ⟨rfl, hR⟩⟩)
  · rw [bP_eq0] at c6
    have e1 := mdF_out c6
    refine go_iconst (v := (-1)) (DX6_mendCell.at 5 rfl) (by decide) ?_
    exact go_iret (DX6_mendCell.at 6 rfl) rfl rfl (RI.mk ⟨ρ, hM, MU.rf, by rw [e1]; exact ⟨rfl, hR⟩⟩)

end M6
