/-! A STORE: losing, mending, turning the queue -/
theorem erase_at : ∀ {l : List Nat} {p x : Nat}, l[p]? = some x → (∀ j, j < p → l[j]? ≠ some x) → ∀ i, (l.erase x)[i]? = if i < p then l[i]? else l[i + 1]?
  | [], p, x, hp, _, i => by simp at hp
  | y :: l, 0, x, hp, _, i => by
    rw [List.getElem?_cons_zero] at hp
    cases hp
    rw [List.erase_cons_head, if_neg (Nat.not_lt_zero i), List.getElem?_cons_succ]
  | y :: l, p + 1, x, hp, hne, i => by
    have h0 := hne 0 (by omega)
    rw [List.getElem?_cons_zero] at h0
    have hy : ¬ (y == x) = true := fun q => h0 (by rw [beq_iff_eq.mp q])
    rw [List.getElem?_cons_succ] at hp
    rw [List.erase_cons_tail hy]
    have ih := erase_at hp (fun j hj => by
      have := hne (j + 1) (by omega)
      rwa [List.getElem?_cons_succ] at this)
    cases i with
    | zero => rw [if_pos (by omega), List.getElem?_cons_zero, List.getElem?_cons_zero]
    | succ i =>
      rw [List.getElem?_cons_succ, ih i, List.getElem?_cons_succ, List.getElem?_cons_succ]
      by_cases q : i < p
      · rw [if_pos q, if_pos (by omega)]
      · rw [if_neg q, if_neg (by omega)]
/-- the place of a member that is the first of its kind -/
theorem first_at {l : List Nat} {x : Nat} (h : x ∈ l) : ∃ p : Nat, l[p]? = some x ∧ ∀ j : Nat, j < p → l[j]? ≠ some x :=
  pk_least (fun p => l[p]? = some x) (List.mem_iff_getElem?.mp h)
section AB
variable {A : Ab} {σ σ' : Rows} {t c w src X : Nat}
def aLos (A : Ab) (t c : Nat) : Ab := (A.1, aV A, (fun t' => if t' = t then aM A t ||| 2 ^ c else aM A t'), aQ A ++ [20 * t + c], aL A, upd (aK A) 3 (aK A 3 + 1))
theorem aLos_ok (h : AOK A) (ht : t < aT A) (hc : c < nc (aG A) (aS A)) (hb : ¬ bit (aM A t) c) : AOK (aLos A t c) := by
  have hn := h.1.nc
  refine ⟨h.1, fun t' ht' => ?_, h.2.2.1, ?_, fun x => ?_⟩
  · show (if t' = t then aM A t ||| 2 ^ c else aM A t') < 2 ^ nc (aG A) (aS A)
    split
    · exact Nat.or_lt_two_pow (h.2.1 t ht) (Nat.pow_lt_pow_right (by decide) hc)
    · exact h.2.1 t' ht'
  · refine List.nodup_append.mpr ⟨h.2.2.2.1, List.nodup_cons.mpr ⟨List.not_mem_nil, List.nodup_nil⟩, fun a ha b hb' => ?_⟩
    rcases List.mem_cons.mp hb' with rfl | hb'
    · intro e
      subst e
      exact hb ((h.qin ht hc).mp ha)
    · exact absurd hb' List.not_mem_nil
  · show x ∈ aQ A ++ [20 * t + c] ↔ (x / 20 < aT A ∧ x % 20 < nc (aG A) (aS A) ∧ bit (if x / 20 = t then aM A t ||| 2 ^ c else aM A (x / 20)) (x % 20))
    rw [List.mem_append, List.mem_singleton, h.2.2.2.2]
    by_cases e : x / 20 = t
    · rw [if_pos e, e, bit_or]
      constructor
      · rintro (⟨a, b, q⟩ | rfl)
        · exact ⟨a, b, Or.inl q⟩
        · exact ⟨ht, by omega, Or.inr (by omega)⟩
      · rintro ⟨a, b, q | q⟩
        · exact Or.inl ⟨a, b, q⟩
        · exact Or.inr (by omega)
    · rw [if_neg e]
      constructor
      · rintro (q | rfl)
        · exact q
        · exact absurd (show (20 * t + c) / 20 = t by omega) e
      · exact Or.inl
theorem RepS.los (h : RepS A σ) (ht : t < aT A) (hc : c < nc (aG A) (aS A)) (hb : ¬ bit (aM A t) c) :
    RepS (aLos A t c) (rset (rset (rset σ 3 (upd (σ 3) t (nI (aM A t ||| 2 ^ c)))) 1 (upd (σ 1) (aQ A).length (nI (100 * t + c)))) 0 (upd (upd (σ 0) 8 (nI ((aQ A).length + 1))) 7 (σ 0 7 + 1))) := by
  obtain ⟨hA, hL, hC, hM, hV, hq, hQ, hLd, hK⟩ := h
  have hn := hA.1.nc
  refine ⟨aLos_ok hA ht hc hb, hL.of0 (fun k hk => ?_), hC, fun t' ht' => ?_, fun t' ht' c' hc' hb' => ?_, ?_, fun i x hx => ?_, hLd, fun k hk => ?_⟩
  · rw [rset_s, pk_un (by omega), pk_un (by omega)]
  · rw [rset_n (by decide), rset_n (by decide), rset_s]
    show _ = nI (if t' = t then aM A t ||| 2 ^ c else aM A t')
    by_cases e : t' = t
    · rw [if_pos e, e, pk_us]
    · rw [if_neg e, pk_un e]
      exact hM t' ht'
  · refine hV t' ht' c' hc' (fun q => hb' ?_)
    show bit (if t' = t then aM A t ||| 2 ^ c else aM A t') c'
    by_cases e : t' = t
    · rw [if_pos e, bit_or]
      rw [e] at q
      exact Or.inl q
    · rw [if_neg e]
      exact q
  · rw [rset_s, pk_un (by decide), pk_us]
    show _ = nI (aQ A ++ [20 * t + c]).length
    rw [List.length_append]
    rfl
  · have hx2 : (aQ A ++ [20 * t + c])[i]? = some x := hx
    rw [rset_n (by decide), rset_s]
    by_cases q : i < (aQ A).length
    · rw [List.getElem?_append_left q] at hx2
      rw [pk_un (by omega)]
      exact hQ i x hx2
    · rw [List.getElem?_append_right (by omega)] at hx2
      have h1 := (List.getElem?_eq_some_iff.mp hx2).1
      have h2 : i = (aQ A).length := by
        simp only [List.length_cons, List.length_nil] at h1
        omega
      rw [h2, Nat.sub_self, List.getElem?_cons_zero] at hx2
      cases hx2
      rw [h2, pk_us, show (20 * t + c) / 20 = t by omega, show (20 * t + c) % 20 = c by omega]
  · rw [rset_s]
    show upd (upd (σ 0) 8 (nI ((aQ A).length + 1))) 7 (σ 0 7 + 1) (4 + k) = upd (aK A) 3 (aK A 3 + 1) k
    by_cases e : k = 3
    · subst e
      rw [pk_us, pk_us, ← hK 3 (by decide)]
    · rw [pk_un (by omega), pk_un (by omega), pk_un e]
      exact hK k hk
/-- the loads and counts of a mended cell -/
def aMnd (A : Ab) (t c w src X : Nat) : Ab := (A.1, put2 (aV A) t c X, (fun t' => if t' = t then clr (aM A t) c else aM A t'), (aQ A).erase (20 * t + c),
  rdl (aL A) src (fun c => (c + t * aH A) % nc (aG A) (aS A)) (nc (aG A) (aS A)), upd (upd (upd (aK A) 0 (rdc (aK A 0) src (nc (aG A) (aS A)))) 1 (aK A 1 + 1)) 2 (if w = 1 then aK A 2 + 1 else aK A 2))
theorem aMnd_ok (h : AOK A) (ht : t < aT A) (hc : c < nc (aG A) (aS A)) (hX : X < 16) : AOK (aMnd A t c w src X) := by
  have hn := h.1.nc
  refine ⟨h.1, fun t' ht' => ?_, put2_lt h.2.2.1 hX, h.2.2.2.1.erase _, fun x => ?_⟩
  · show (if t' = t then clr (aM A t) c else aM A t') < 2 ^ nc (aG A) (aS A)
    split
    · exact Nat.lt_of_le_of_lt clr_le (h.2.1 t ht)
    · exact h.2.1 t' ht'
  · show x ∈ (aQ A).erase (20 * t + c) ↔ (x / 20 < aT A ∧ x % 20 < nc (aG A) (aS A) ∧ bit (if x / 20 = t then clr (aM A t) c else aM A (x / 20)) (x % 20))
    rw [h.2.2.2.1.mem_erase_iff, h.2.2.2.2]
    by_cases e : x / 20 = t
    · rw [if_pos e, e, bit_clr (by omega)]
      constructor
      · rintro ⟨a, b, q, r⟩
        exact ⟨b, q, r, by omega⟩
      · rintro ⟨b, q, r, a⟩
        exact ⟨by omega, b, q, r⟩
    · rw [if_neg e]
      constructor
      · rintro ⟨-, q⟩
        exact q
      · intro q
        exact ⟨by omega, q⟩
theorem rdl_congr {f f' : Nat → Int32} {M : Nat} {nd : Nat → Nat} (h : ∀ j, j < 20 → f j = f' j) (hnd : ∀ c, nd c < 20) : ∀ k j, j < 20 → rdl f M nd k j = rdl f' M nd k j
  | 0, j, hj => h j hj
  | k + 1, j, hj => by
    have ih := rdl_congr (M := M) h hnd k
    show (if M / 2 ^ k % 2 = 1 then upd (rdl f M nd k) (nd k) (rdl f M nd k (nd k) + 1) else rdl f M nd k) j = (if M / 2 ^ k % 2 = 1 then upd (rdl f' M nd k) (nd k) (rdl f' M nd k (nd k) + 1) else rdl f' M nd k) j
    by_cases q : M / 2 ^ k % 2 = 1
    · rw [if_pos q, if_pos q]
      by_cases e : j = nd k
      · rw [e, pk_us, pk_us, ih _ (hnd k)]
      · rw [pk_un e, pk_un e, ih j hj]
    · rw [if_neg q, if_neg q, ih j hj]
theorem RepS.mnd {p : Nat} (h : RepS A σ) (ht : t < aT A) (hc : c < nc (aG A) (aS A)) (hX : X < 16) (hp : (aQ A)[p]? = some (20 * t + c)) (hne : ∀ j, j < p → (aQ A)[j]? ≠ some (20 * t + c))
    (e3 : σ' 3 = upd (σ 3) t (nI (clr (aM A t) c))) (e2 : σ' 2 = upd (σ 2) (t * 20 + c) (nI X)) (e1 : σ' 1 = shf (σ 1) p (aQ A).length) (e8 : σ' 0 8 = nI ((aQ A).length - 1)) (e4 : σ' 4 = rdl (σ 4) src (fun c => (c + t * aH A) % nc (aG A) (aS A)) (nc (aG A) (aS A))) (e5 : σ' 5 = σ 5)
    (e0 : ∀ k, k < 4 → σ' 0 k = σ 0 k) (k4 : σ' 0 4 = rdc (σ 0 4) src (nc (aG A) (aS A))) (k5 : σ' 0 5 = σ 0 5 + 1) (k6 : σ' 0 6 = if w = 1 then σ 0 6 + 1 else σ 0 6) (k7 : σ' 0 7 = σ 0 7) : RepS (aMnd A t c w src X) σ' := by
  obtain ⟨hA, hL, hC, hM, hV, hq, hQ, hLd, hK⟩ := h
  have hn := hA.1.nc
  have hpl := (List.getElem?_eq_some_iff.mp hp).1
  refine ⟨aMnd_ok hA ht hc hX, hL.of0 e0, fun c' hc' => ?_, fun t' ht' => ?_, fun t' ht' c' hc' hb' => ?_, ?_, fun i x hx => ?_, fun j hj => ?_, fun k hk => ?_⟩
  · rw [e5]
    exact hC c' hc'
  · rw [e3]
    show _ = nI (if t' = t then clr (aM A t) c else aM A t')
    by_cases e : t' = t
    · rw [if_pos e, e, pk_us]
    · rw [if_neg e, pk_un e]
      exact hM t' ht'
  · have hc2 : c' < nc (aG A) (aS A) := hc'
    rw [e2]
    show _ = nI (put2 (aV A) t c X t' c')
    unfold put2
    by_cases e : t' = t ∧ c' = c
    · rw [if_pos e, e.1, e.2, pk_us]
    · rw [if_neg e, pk_un (fun q => e (at20 (by omega) (by omega) q))]
      refine hV t' ht' c' hc' (fun q => hb' ?_)
      show bit (if t' = t then clr (aM A t) c else aM A t') c'
      by_cases e2 : t' = t
      · rw [if_pos e2, bit_clr (by omega), ← e2]
        exact ⟨q, fun e3 => e ⟨e2, e3⟩⟩
      · rw [if_neg e2]
        exact q
  · rw [e8]
    show _ = nI ((aQ A).erase (20 * t + c)).length
    rw [List.length_erase_of_mem (List.mem_of_getElem? hp)]
  · have hx2 : ((aQ A).erase (20 * t + c))[i]? = some x := hx
    rw [erase_at hp hne] at hx2
    rw [e1]
    by_cases q : i < p
    · rw [if_pos q] at hx2
      rw [shf_lo q]
      exact hQ i x hx2
    · rw [if_neg q] at hx2
      have h1 := (List.getElem?_eq_some_iff.mp hx2).1
      rw [shf_hi (by omega) h1]
      exact hQ (i + 1) x hx2
  · rw [e4]
    exact rdl_congr hLd (fun c => Nat.lt_of_lt_of_le (Nat.mod_lt _ (by omega)) hn.2) _ j hj
  · show σ' 0 (4 + k) = upd (upd (upd (aK A) 0 (rdc (aK A 0) src (nc (aG A) (aS A)))) 1 (aK A 1 + 1)) 2 (if w = 1 then aK A 2 + 1 else aK A 2) k
    rcases (show k = 0 ∨ k = 1 ∨ k = 2 ∨ k = 3 by omega) with rfl | rfl | rfl | rfl
    · rw [pk_un (by decide), pk_un (by decide), pk_us, ← hK 0 (by decide)]
      exact k4
    · rw [pk_un (by decide), pk_us, ← hK 1 (by decide)]
      exact k5
    · rw [pk_us, ← hK 2 (by decide)]
      exact k6
    · rw [pk_un (by decide), pk_un (by decide), pk_un (by decide), ← hK 3 (by decide)]
      exact k7
/-- the first of the queue goes to its end -/
def aRot (A : Ab) : Ab := (A.1, aV A, aM A, (aQ A).tail ++ [(aQ A).headD 0], aL A, aK A)
theorem aRot_ok (h : AOK A) (hne : aQ A ≠ []) : AOK (aRot A) := by
  obtain ⟨h1, h2, h3, h4, h5⟩ := h
  refine ⟨h1, h2, h3, ?_, fun x => ?_⟩
  · show ((aQ A).tail ++ [(aQ A).headD 0]).Nodup
    cases hq : aQ A with
    | nil => exact absurd hq hne
    | cons y l =>
      rw [hq] at h4
      have h6 := List.nodup_cons.mp h4
      refine List.nodup_append.mpr ⟨h6.2, List.nodup_cons.mpr ⟨List.not_mem_nil, List.nodup_nil⟩, fun a ha b hb' => ?_⟩
      rcases List.mem_cons.mp hb' with rfl | hb'
      · intro e
        subst e
        exact h6.1 ha
      · exact absurd hb' List.not_mem_nil
  · show x ∈ (aQ A).tail ++ [(aQ A).headD 0] ↔ _
    refine Iff.trans ?_ (h5 x)
    cases hq : aQ A with
    | nil => exact absurd hq hne
    | cons y l =>
      show x ∈ l ++ [y] ↔ x ∈ y :: l
      rw [List.mem_append, List.mem_singleton, List.mem_cons]
      exact Or.comm
theorem RepS.rot {x : Nat} {l : List Nat} (h : RepS A σ) (hq : aQ A = x :: l) (e1 : σ' 1 = upd (shf (σ 1) 0 (l.length + 1)) l.length (nI (100 * (x / 20) + x % 20))) (en : ∀ a, 2 ≤ a → σ' a = σ a) (e0 : ∀ k, k < 9 → σ' 0 k = σ 0 k) : RepS (aRot A) σ' := by
  obtain ⟨hA, hL, hC, hM, hV, hql, hQ, hLd, hK⟩ := h
  have hne : aQ A ≠ [] := by rw [hq]; exact List.cons_ne_nil _ _
  have er : aQ (aRot A) = l ++ [x] := by show (aQ A).tail ++ [(aQ A).headD 0] = _; rw [hq]; rfl
  refine ⟨aRot_ok hA hne, hL.of0 (fun k hk => e0 k (by omega)), fun c' hc' => ?_, fun t' ht' => ?_, fun t' ht' c' hc' hb' => ?_, ?_, fun i y hy => ?_, fun j hj => ?_, fun k hk => ?_⟩
  · rw [en 5 (by decide)]
    exact hC c' hc'
  · rw [en 3 (by decide)]
    exact hM t' ht'
  · rw [en 2 (by decide)]
    exact hV t' ht' c' hc' hb'
  · rw [e0 8 (by decide), hql, er, hq, List.length_append]
    rfl
  · rw [er] at hy
    rw [e1]
    by_cases q : i < l.length
    · rw [List.getElem?_append_left q] at hy
      rw [pk_un (by omega), shf_hi (by omega) (by omega)]
      exact hQ (i + 1) y (by rw [hq, List.getElem?_cons_succ]; exact hy)
    · rw [List.getElem?_append_right (by omega)] at hy
      have h1 := (List.getElem?_eq_some_iff.mp hy).1
      have h2 : i = l.length := by
        simp only [List.length_cons, List.length_nil] at h1
        omega
      rw [h2, Nat.sub_self, List.getElem?_cons_zero] at hy
      cases hy
      rw [h2, pk_us]
  · rw [en 4 (by decide)]
    exact hLd j hj
  · rw [e0 (4 + k) (by omega)]
    exact hK k hk
end AB
/-! the way that is taken, as a function -/
theorem WayX.uniq {C : Nat → Nat → Nat} {V : Nat → Nat} {g s M c w src X w' src' X' : Nat} (h1 : WayX C V g s M c w src X) (h2 : WayX C V g s M c w' src' X') : w = w' ∧ src = src' ∧ X = X' := by
  rcases h1 with ⟨a1, a2, a3, a4⟩ | ⟨a1, a2, a3, a4, a5, a6⟩
  · rcases h2 with ⟨b1, b2, b3, b4⟩ | ⟨b1, -⟩
    · exact ⟨a2.trans b2.symm, a3.trans b3.symm, a4.trans b4.symm⟩
    · exact absurd a1 b1
  · rcases h2 with ⟨b1, -⟩ | ⟨b1, b2, b3, b4, b5, b6⟩
    · exact absurd b1 a1
    · obtain ⟨l, hl⟩ := a2.1
      exact ⟨a3.trans b3.symm, a4.trans b4.symm, (a6 l hl).symm.trans (b6 l hl)⟩
theorem WayX.no {C : Nat → Nat → Nat} {V : Nat → Nat} {g s M c w src X : Nat} (h1 : WayX C V g s M c w src X) (h2 : NoWay C V g s M c) : False := by
  rcases h1 with ⟨a1, -⟩ | ⟨-, a2, -⟩
  · exact h2.1 a1
  · exact h2.2 a2
abbrev WyX (A : Ab) (t c w src X : Nat) : Prop := WayX (colv (aG A) (aS A)) (aV A t) (aG A) (aS A) (aM A t) c w src X
abbrev NoX (A : Ab) (t c : Nat) : Prop := NoWay (colv (aG A) (aS A)) (aV A t) (aG A) (aS A) (aM A t) c
noncomputable def wyF (A : Ab) (t c : Nat) : Option (Nat × Nat × Nat) := @dite _ (∃ p : Nat × Nat × Nat, WyX A t c p.1 p.2.1 p.2.2) (Classical.propDecidable _) (fun h => some (Classical.choose h)) (fun _ => none)
theorem wyF_s {A : Ab} {t c w src X : Nat} (h : WyX A t c w src X) : wyF A t c = some (w, src, X) := by
  have hx : ∃ p : Nat × Nat × Nat, WyX A t c p.1 p.2.1 p.2.2 := ⟨(w, src, X), h⟩
  unfold wyF
  rw [dif_pos hx]
  have h2 := Classical.choose_spec hx
  obtain ⟨e1, e2, e3⟩ := h.uniq h2
  generalize Classical.choose hx = p at e1 e2 e3 ⊢
  obtain ⟨a, b, c⟩ := p
  rw [e1, e2, e3]
theorem wyF_n {A : Ab} {t c : Nat} (h : NoX A t c) : wyF A t c = none := by
  unfold wyF
  exact dif_neg (fun ⟨p, q⟩ => q.no h)
theorem WyX.lt {A : Ab} {t c w src X : Nat} (hA : AOK A) (hc : c < nc (aG A) (aS A)) (h : WyX A t c w src X) : X < 16 := by
  rcases h with ⟨-, -, -, e⟩ | ⟨-, -, -, -, e, -⟩
  · rw [e]
    exact vsum_lt (fun c _ i _ => colv_lt i) (fun c _ _ => hA.2.2.1 t c) _ (Nat.le_refl _) _ (by have h1 := hcv_lt hA.1 hc; have h2 : aG A ≤ 4 := hA.1.2.1; omega)
  · exact e
/-- mending: what it answers, what the store becomes -/
noncomputable def mdA (A : Ab) (t c : Nat) : Int32 × Ab := match wyF A t c with
  | none => (-4, A)
  | some p => (nI (pcn p.2.1 20), aMnd A t c p.1 p.2.1 p.2.2)
noncomputable def mdF (A : Ab) (x y : Int32) : Int32 × Ab := cI (inR x (aT A) ∧ inR y (nc (aG A) (aS A))) (cI (bit (aM A x.toNatClampNeg) y.toNatClampNeg) (mdA A x.toNatClampNeg y.toNatClampNeg) (-5, A)) (-1, A)
theorem mdA_s {A : Ab} {t c w src X : Nat} (h : WyX A t c w src X) : mdA A t c = (nI (pcn src 20), aMnd A t c w src X) := by
  unfold mdA
  rw [wyF_s h]
theorem mdA_n {A : Ab} {t c : Nat} (h : NoX A t c) : mdA A t c = (-4, A) := by
  unfold mdA
  rw [wyF_n h]
theorem mdF_out {A : Ab} {x y : Int32} (h : ¬ (inR x (aT A) ∧ inR y (nc (aG A) (aS A)))) : mdF A x y = (-1, A) := cI_f h
theorem cell_in {A : Ab} {t c : Nat} (hA : AOK A) (ht : t < aT A) (hc : c < nc (aG A) (aS A)) : inR (nI t) (aT A) ∧ inR (nI c) (nc (aG A) (aS A)) := by
  have hn := hA.1.nc
  have h8 : aT A ≤ 8 := hA.1.2.2.2.2.2.2.1
  exact ⟨(inR_nI (by omega) (by omega)).mpr ht, (inR_nI (by omega) (by omega)).mpr hc⟩
theorem mdF_in {A : Ab} {t c : Nat} (hA : AOK A) (ht : t < aT A) (hc : c < nc (aG A) (aS A)) : mdF A (nI t) (nI c) = cI (bit (aM A t) c) (mdA A t c) (-5, A) := by
  have hn := hA.1.nc
  have h8 : aT A ≤ 8 := hA.1.2.2.2.2.2.2.1
  unfold mdF
  rw [cI_t (cell_in hA ht hc), nI_cl (by omega), nI_cl (by omega)]
