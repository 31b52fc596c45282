/-! STRIPES WHOSE CHECKS ALL HOLD: what is mended is what was there -/
def CwS (g s : Nat) (V : Nat → Nat) : Prop := ∀ i, i < 6 → vsum (colv g s) V (2 ^ nc g s - 1) (nc g s) i = 0
def Cw (A : Ab) : Prop := ∀ t, t < aT A → CwS (aG A) (aS A) (aV A t)
theorem vsum_z {C : Nat → Nat → Nat} {M i : Nat} (hC : ∀ c, C c i < 16) : ∀ n, vsum C (fun _ => 0) M n i = 0
  | 0 => rfl
  | n + 1 => by
    show vsum C (fun _ => 0) M n i ^^^ (if M / 2 ^ n % 2 = 1 then gm (C n i) 0 else 0) = 0
    rw [vsum_z hC n, gm_0 (hC n), ite_self, Nat.xor_self]
theorem CwS.zero {g s : Nat} : CwS g s (fun _ => 0) := fun i _ => vsum_z (fun c => colv_lt i) _
theorem vsum_part {C : Nat → Nat → Nat} {V : Nat → Nat} {n M i : Nat} (hn : n ≤ 32) : ∀ j, j ≤ n → vsum C V (2 ^ n - 1) j i = vsum C V M j i ^^^ vsum C V (Src3 n M) j i
  | 0, _ => (Nat.xor_self 0).symm
  | j + 1, hj => by
    have ih := vsum_part (C := C) (V := V) (M := M) (i := i) hn j (by omega)
    show vsum C V (2 ^ n - 1) j i ^^^ (if (2 ^ n - 1) / 2 ^ j % 2 = 1 then gm (C j i) (V j) else 0) = (vsum C V M j i ^^^ (if M / 2 ^ j % 2 = 1 then gm (C j i) (V j) else 0)) ^^^ (vsum C V (Src3 n M) j i ^^^ (if Src3 n M / 2 ^ j % 2 = 1 then gm (C j i) (V j) else 0))
    have h1 : (2 ^ n - 1) / 2 ^ j % 2 = 1 := bit_m1.mpr (by omega)
    rw [if_pos h1, ih, xor4 (vsum C V M j i)]
    congr 1
    by_cases q : M / 2 ^ j % 2 = 1
    · rw [if_pos q, if_neg (fun w => ((src_bit (by omega)).mp w).2 q), Nat.xor_zero]
    · rw [if_neg q, if_pos (show Src3 n M / 2 ^ j % 2 = 1 from (src_bit (by omega)).mpr ⟨by omega, q⟩), Nat.zero_xor]
theorem CwS.src {g s M : Nat} {V : Nat → Nat} (hn : nc g s ≤ 20) (h : CwS g s V) : ∀ i, i < 6 → vsum (colv g s) V (Src3 (nc g s) M) (nc g s) i = vsum (colv g s) V M (nc g s) i := fun i hi => by
  have e := h i hi
  rw [vsum_part (M := M) (by omega) _ (Nat.le_refl _)] at e
  exact (xor_eq0 e).symm
theorem xsum_pick {F : Nat → Nat} {M c n : Nat} (hb : bit M c) (h0 : ∀ c', c' < n → bit M c' → c' ≠ c → F c' = 0) : ∀ j, j ≤ n → xsum F M j = if c < j then F c else 0
  | 0, _ => (if_neg (Nat.not_lt_zero c)).symm
  | j + 1, hj => by
    have ih := xsum_pick hb h0 j (by omega)
    show xsum F M j ^^^ (if M / 2 ^ j % 2 = 1 then F j else 0) = _
    rw [ih]
    by_cases e : j = c
    · subst e
      have hb2 : M / 2 ^ j % 2 = 1 := hb
      rw [if_neg (Nat.lt_irrefl j), if_pos hb2, if_pos (Nat.lt_succ_self j), Nat.zero_xor]
    · have hz : (if M / 2 ^ j % 2 = 1 then F j else 0) = 0 := by
        by_cases q : M / 2 ^ j % 2 = 1
        · rw [if_pos q]
          exact h0 j (by omega) q e
        · exact if_neg q
      rw [hz, Nat.xor_zero]
      by_cases q : c < j
      · rw [if_pos q, if_pos (by omega)]
      · rw [if_neg q, if_neg (by omega)]
theorem xsum_0 {F : Nat → Nat} {M n : Nat} (h0 : ∀ c', c' < n → bit M c' → F c' = 0) : ∀ j, j ≤ n → xsum F M j = 0
  | 0, _ => rfl
  | j + 1, hj => by
    have ih := xsum_0 h0 j (by omega)
    show xsum F M j ^^^ (if M / 2 ^ j % 2 = 1 then F j else 0) = 0
    rw [ih, Nat.zero_xor]
    by_cases q : M / 2 ^ j % 2 = 1
    · rw [if_pos q]
      exact h0 j (by omega) q
    · exact if_neg q
theorem CwS.dual {g s M c : Nat} {V l : Nat → Nat} (hn : nc g s ≤ 20) (h : CwS g s V) (hV : ∀ c, V c < 16) (hc : c < nc g s) (hb : bit M c) (hl : Dual (colv g s) M (nc g s) c l) : ev l (vsum (colv g s) V (Src3 (nc g s) M) (nc g s)) = V c := by
  have hC : ∀ c, c < nc g s → B6 (colv g s c) := fun c _ i _ => colv_lt i
  have e : xsum (fun c' => gm (ev l (colv g s c')) (V c')) M (nc g s) = V c := by
    rw [xsum_pick (F := fun c' => gm (ev l (colv g s c')) (V c')) (n := nc g s) hb (fun c' h1 h2 h3 => by
      show gm (ev l (colv g s c')) (V c') = 0
      rw [hl.2.2 c' h1 h2 h3, gm_0l (hV c')]) _ (Nat.le_refl _), if_pos hc]
    show gm (ev l (colv g s c)) (V c) = V c
    rw [hl.2.1, gm_1l (hV c)]
  rw [ev_congr (l' := l) (fun _ _ => rfl) (h.src (M := M) hn), ev_vsum hl.1 hC (fun c _ _ => hV c) _ (Nat.le_refl _)]
  exact e
theorem CwS.van {g s M : Nat} {V l : Nat → Nat} (hn : nc g s ≤ 20) (h : CwS g s V) (hV : ∀ c, V c < 16) (hl : Van (colv g s) M (nc g s) l) : ev l (vsum (colv g s) V (Src3 (nc g s) M) (nc g s)) = 0 := by
  have hC : ∀ c, c < nc g s → B6 (colv g s c) := fun c _ i _ => colv_lt i
  rw [ev_congr (l' := l) (fun _ _ => rfl) (h.src (M := M) hn), ev_vsum hl.1 hC (fun c _ _ => hV c) _ (Nat.le_refl _)]
  exact xsum_0 (n := nc g s) (fun c' h1 h2 => by
    show gm (ev l (colv g s c')) (V c') = 0
    rw [hl.2 c' h1 h2, gm_0l (hV c')]) _ (Nat.le_refl _)
theorem pmv_key {g s T sh c : Nat} (hL : LayOK g s T sh) (hc : c < nc g s) : (∀ x, x < nc g s → x ≠ c → bit (pmv g s c) x ∨ colv g s x (hcv g s c) = 0) ∧ ¬ bit (pmv g s c) c := by
  have hn := hL.nc
  have hs : 0 < s := by have := hL.2.2.1; omega
  refine ⟨fun x hx hne => ?_, ?_⟩
  · by_cases hh : hcv g s c < g
    · by_cases e : hcv g s x = hcv g s c
      · exact Or.inl ((pmv_bit hs hh (by omega)).mpr ⟨e, hne⟩)
      · refine Or.inr ?_
        by_cases q : x < g * s
        · have ex : hcv g s x = x / s := if_pos q
          rw [colv_dk q hh, if_neg (fun w => e (ex.trans w.symm))]
        · have ex : hcv g s x = x - g * s := if_neg q
          rw [colv_pk q, if_neg (fun w => e (ex.trans w.symm))]
    · rw [pmv_d hh, bit_m1]
      have hcg : ¬ c < g * s := fun q => hh (hcv_ltg q)
      by_cases q : x < g * s
      · exact Or.inl q
      · refine Or.inr ?_
        have eh : hcv g s c = c - g * s := if_neg hcg
        rw [colv_pk q, eh, if_neg (by omega)]
  · by_cases hh : hcv g s c < g
    · exact fun q => ((pmv_bit hs hh (by omega)).mp q).2 rfl
    · rw [pmv_d hh, bit_m1]
      exact fun q => hh (hcv_ltg q)
theorem CwS.near {g s T sh c : Nat} {V : Nat → Nat} (hL : LayOK g s T sh) (h : CwS g s V) (hV : ∀ c, V c < 16) (hc : c < nc g s) : vsum (colv g s) V (pmv g s c) (nc g s) (hcv g s c) = V c := by
  have hn := hL.nc
  obtain ⟨key, keyc⟩ := pmv_key hL hc
  have go : ∀ j, j ≤ nc g s → vsum (colv g s) V (2 ^ nc g s - 1) j (hcv g s c) = vsum (colv g s) V (pmv g s c) j (hcv g s c) ^^^ (if c < j then V c else 0) := by
    intro j
    induction j with
    | zero => intro _; exact (Nat.xor_self 0).symm
    | succ j ih =>
      intro hj
      have ih := ih (by omega)
      show vsum (colv g s) V (2 ^ nc g s - 1) j (hcv g s c) ^^^ (if (2 ^ nc g s - 1) / 2 ^ j % 2 = 1 then gm (colv g s j (hcv g s c)) (V j) else 0) = (vsum (colv g s) V (pmv g s c) j (hcv g s c) ^^^ (if pmv g s c / 2 ^ j % 2 = 1 then gm (colv g s j (hcv g s c)) (V j) else 0)) ^^^ (if c < j + 1 then V c else 0)
      rw [if_pos (show (2 ^ nc g s - 1) / 2 ^ j % 2 = 1 from bit_m1.mpr (by omega)), ih]
      by_cases e : j = c
      · rw [e, if_neg (Nat.lt_irrefl c), if_neg keyc, colv_home hL hc, gm_1l (hV c), if_pos (Nat.lt_succ_self c), Nat.xor_zero]
      · have e2 : (if c < j + 1 then V c else 0) = (if c < j then V c else 0) := by
          by_cases q : c < j
          · rw [if_pos q, if_pos (by omega)]
          · rw [if_neg q, if_neg (by omega)]
        have e3 : (if pmv g s c / 2 ^ j % 2 = 1 then gm (colv g s j (hcv g s c)) (V j) else 0) = gm (colv g s j (hcv g s c)) (V j) := by
          rcases key j (by omega) e with q | q
          · exact if_pos q
          · rw [q, gm_0l (hV j), ite_self]
        rw [e2, e3, Nat.xor_assoc, Nat.xor_assoc, Nat.xor_comm (if c < j then V c else 0)]
  have e := h (hcv g s c) (by have h1 := hcv_lt hL hc; have h2 : g ≤ 4 := hL.2.1; omega)
  rw [go _ (Nat.le_refl _), if_pos hc] at e
  exact xor_eq0 e
section WW
variable {A : Ab} {t c w src X : Nat}
theorem WyX.val (hA : AOK A) (hK : Cw A) (ht : t < aT A) (hc : c < nc (aG A) (aS A)) (hb : bit (aM A t) c) (h : WyX A t c w src X) : X = aV A t c := by
  rcases h with ⟨-, -, -, e⟩ | ⟨-, ⟨⟨l, hl⟩, -⟩, -, -, -, e⟩
  · rw [e]
    exact (hK t ht).near hA.1 (hA.2.2.1 t) hc
  · rw [← e l hl]
    exact (hK t ht).dual hA.1.nc.2 (hA.2.2.1 t) hc hb hl
theorem way_of (hA : AOK A) (hK : Cw A) (ht : t < aT A) (hc : c < nc (aG A) (aS A)) (hb : bit (aM A t) c) (hd : ∃ l, Dual (colv (aG A) (aS A)) (aM A t) (nc (aG A) (aS A)) c l) : ∃ w src, WyX A t c w src (aV A t c) := by
  by_cases q : pmv (aG A) (aS A) c &&& aM A t = 0
  · exact ⟨_, _, Or.inl ⟨q, rfl, rfl, ((hK t ht).near hA.1 (hA.2.2.1 t) hc).symm⟩⟩
  · exact ⟨_, _, Or.inr ⟨q, ⟨hd, fun l hl => (hK t ht).van hA.1.nc.2 (hA.2.2.1 t) hl⟩, rfl, rfl, hA.2.2.1 t c, fun l hl => (hK t ht).dual hA.1.nc.2 (hA.2.2.1 t) hc hb hl⟩⟩
theorem WyX.has (hA : AOK A) (ht : t < aT A) (hc : c < nc (aG A) (aS A)) (hb : bit (aM A t) c) (h : WyX A t c w src X) : ∃ l, Dual (colv (aG A) (aS A)) (aM A t) (nc (aG A) (aS A)) c l := by
  rcases h with ⟨q, -⟩ | ⟨-, a, -⟩
  · exact dual12 hA.1 (hA.m20 ht) hc hb q
  · exact a.1
theorem put2_same {V : Nat → Nat → Nat} : put2 V t c (V t c) = V := by
  funext t' c'
  unfold put2
  by_cases e : t' = t ∧ c' = c
  · rw [if_pos e, e.1, e.2]
  · rw [if_neg e]
/-- a set of lost cells, one of them mended -/
theorem IndP.cleared {C : Nat → Nat → Nat} {M n : Nat} (hn : n ≤ 20) (hC : ∀ c, c < n → B6 (C c)) (hc : c < n) (hb : bit M c) {l : Nat → Nat} (hl : Dual C M n c l) : IndP C (clr M c) n ↔ IndP C M n := by
  have e : ∀ x, x < n → (bit (clr M c) x ↔ bit (M ^^^ 1 * 2 ^ c) x) := fun x hx => by rw [bit_clr (by omega), bit_xc hb]
  exact ⟨fun h => (IndP.step hC hc hb hl).mp (h.congr e), fun h => ((IndP.step hC hc hb hl).mpr h).congr (fun x hx => (e x hx).symm)⟩
/-- what the queue's work leaves as it was -/
def Wk (A A' : Ab) : Prop := A'.1 = A.1 ∧ aV A' = aV A ∧ ∀ t, t < aT A → (IndP (colv (aG A) (aS A)) (aM A' t) (nc (aG A) (aS A)) ↔ IndP (colv (aG A) (aS A)) (aM A t) (nc (aG A) (aS A)))
theorem Wk.rf : Wk A A := ⟨rfl, rfl, fun _ _ => Iff.rfl⟩
theorem Wk.g {A' : Ab} (h : Wk A A') : aG A' = aG A ∧ aS A' = aS A ∧ aT A' = aT A ∧ aH A' = aH A := by
  have e := h.1
  unfold aG aS aT aH
  rw [e]
  exact ⟨rfl, rfl, rfl, rfl⟩
theorem Wk.trans {A' A2 : Ab} (h : Wk A A') (h2 : Wk A' A2) : Wk A A2 := by
  obtain ⟨g1, g2, g3, g4⟩ := h.g
  refine ⟨h2.1.trans h.1, h2.2.1.trans h.2.1, fun t ht => ?_⟩
  have q := h2.2.2 t (by rw [g3]; exact ht)
  rw [g1, g2] at q
  exact q.trans (h.2.2 t ht)
theorem Wk.cw {A' : Ab} (h : Wk A A') (hK : Cw A) : Cw A' := by
  obtain ⟨g1, g2, g3, g4⟩ := h.g
  intro t ht
  rw [g3] at ht
  rw [g1, g2, h.2.1]
  exact hK t ht
theorem wk_mnd (hA : AOK A) (hK : Cw A) (ht : t < aT A) (hc : c < nc (aG A) (aS A)) (hb : bit (aM A t) c) (h : WyX A t c w src X) : Wk A (aMnd A t c w src X) := by
  obtain ⟨l, hl⟩ := h.has hA ht hc hb
  have eX := h.val hA hK ht hc hb
  refine ⟨rfl, ?_, fun t' ht' => ?_⟩
  · show put2 (aV A) t c X = aV A
    rw [eX]
    exact put2_same
  · show IndP _ (if t' = t then clr (aM A t) c else aM A t') _ ↔ _
    by_cases e : t' = t
    · subst e
      rw [if_pos rfl]
      exact IndP.cleared hA.1.nc.2 (fun c _ i _ => colv_lt i) hc hb hl
    · rw [if_neg e]
theorem wk_rot : Wk A (aRot A) := ⟨rfl, rfl, fun _ _ => Iff.rfl⟩
end WW
/-- after as many tries as the queue was long, what still waits belongs to stripes that don't survive -/
theorem work_all : ∀ (m : Nat) (A : Ab) (pre post : List Nat), AOK A → Cw A → aQ A = pre ++ post → (∀ x, x ∈ post → ¬ IndP (colv (aG A) (aS A)) (aM A (x / 20)) (nc (aG A) (aS A))) → pre.length ≤ m →
    AOK (wkG m A).2 ∧ Wk A (wkG m A).2 ∧ ∀ x, x ∈ aQ (wkG m A).2 → ¬ IndP (colv (aG A) (aS A)) (aM A (x / 20)) (nc (aG A) (aS A))
  | 0, A, pre, post, hA, hK, hq, hp, hl => by
    have e0 : pre = [] := List.length_eq_zero_iff.mp (by omega)
    refine ⟨hA, Wk.rf, fun x hx => hp x ?_⟩
    have hx : x ∈ aQ A := hx
    rw [hq, e0] at hx
    exact hx
  | m + 1, A, pre, post, hA, hK, hq, hp, hl => by
    cases hQ : aQ A with
    | nil =>
      rw [wkG_e hQ]
      refine ⟨hA, Wk.rf, fun x hx => ?_⟩
      have hx : x ∈ aQ A := hx
      rw [hQ] at hx
      cases hx
    | cons y l =>
      have hy := (hA.2.2.2.2 y).mp (by rw [hQ]; exact List.mem_cons_self)
      have hnd : (y :: l).Nodup := hQ ▸ hA.2.2.2.1
      have hyl := List.nodup_cons.mp hnd
      rcases way_cases A (y / 20) (y % 20) with ⟨w, src, X, hw⟩ | hw
      · rw [wkG_s hQ hw]
        have hX := hw.lt hA hy.2.1
        have h1 := wk_mnd hA hK hy.1 hy.2.1 hy.2.2 hw
        have hA1 : AOK (aMnd A (y / 20) (y % 20) w src X) := aMnd_ok hA hy.1 hy.2.1 hX
        obtain ⟨g1, g2, g3, g4⟩ := h1.g
        have e1 : aQ (aMnd A (y / 20) (y % 20) w src X) = l := by
          show (aQ A).erase (20 * (y / 20) + y % 20) = l
          rw [show 20 * (y / 20) + y % 20 = y by omega, hQ, List.erase_cons_head]
        have hin : ∀ x, x ∈ l → (IndP (colv (aG A) (aS A)) (aM (aMnd A (y / 20) (y % 20) w src X) (x / 20)) (nc (aG A) (aS A)) ↔ IndP (colv (aG A) (aS A)) (aM A (x / 20)) (nc (aG A) (aS A))) := fun x hx => h1.2.2 _ ((hA.2.2.2.2 x).mp (by rw [hQ]; exact List.mem_cons_of_mem _ hx)).1
        have fin : ∀ pre' post' : List Nat, l = pre' ++ post' → (∀ x, x ∈ post' → ¬ IndP (colv (aG A) (aS A)) (aM A (x / 20)) (nc (aG A) (aS A))) → pre'.length ≤ m → AOK (wkG m (aMnd A (y / 20) (y % 20) w src X)).2 ∧ Wk A (wkG m (aMnd A (y / 20) (y % 20) w src X)).2 ∧ ∀ x, x ∈ aQ (wkG m (aMnd A (y / 20) (y % 20) w src X)).2 → ¬ IndP (colv (aG A) (aS A)) (aM A (x / 20)) (nc (aG A) (aS A)) := by
          intro pre' post' f1 f2 f3
          obtain ⟨i1, i2, i3⟩ := work_all m _ pre' post' hA1 (h1.cw hK) (e1.trans f1) (fun x hx => by
            rw [g1, g2]
            exact fun q => f2 x hx ((hin x (by rw [f1]; exact List.mem_append_right _ hx)).mp q)) f3
          refine ⟨i1, h1.trans i2, fun x hx q => i3 x hx ?_⟩
          rw [g1, g2]
          have hx1 := (i1.2.2.2.2 x).mp hx
          have gt := i2.g.2.2.1
          rw [gt, g3] at hx1
          exact (h1.2.2 _ hx1.1).mpr q
        cases pre with
        | nil =>
          have hq2 : y :: l = post := hQ.symm.trans hq
          exact fin [] l rfl (fun x hx => hp x (by rw [← hq2]; exact List.mem_cons_of_mem _ hx)) (Nat.zero_le _)
        | cons z pre =>
          have hq2 : y :: l = z :: (pre ++ post) := hQ.symm.trans hq
          have e3 : l = pre ++ post := (List.cons.inj hq2).2
          exact fin pre post e3 hp (by have : (z :: pre).length = pre.length + 1 := rfl; omega)
      · rw [wkG_n hQ hw]
        have hA1 : AOK (aRot A) := aRot_ok hA (by rw [hQ]; exact List.cons_ne_nil _ _)
        have e1 : aQ (aRot A) = l ++ [y] := by
          show (aQ A).tail ++ [(aQ A).headD 0] = _
          rw [hQ]
          rfl
        have hno : ¬ IndP (colv (aG A) (aS A)) (aM A (y / 20)) (nc (aG A) (aS A)) := fun q => by
          obtain ⟨w, src, hw2⟩ := way_of hA hK hy.1 hy.2.1 hy.2.2 (q _ hy.2.1 hy.2.2)
          rw [wyF_s hw2] at hw
          cases hw
        have fin : ∀ pre' post' : List Nat, l ++ [y] = pre' ++ post' → (∀ x, x ∈ post' → ¬ IndP (colv (aG A) (aS A)) (aM A (x / 20)) (nc (aG A) (aS A))) → pre'.length ≤ m → AOK (wkG m (aRot A)).2 ∧ Wk A (wkG m (aRot A)).2 ∧ ∀ x, x ∈ aQ (wkG m (aRot A)).2 → ¬ IndP (colv (aG A) (aS A)) (aM A (x / 20)) (nc (aG A) (aS A)) := by
          intro pre' post' f1 f2 f3
          obtain ⟨i1, i2, i3⟩ := work_all m (aRot A) pre' post' hA1 (wk_rot.cw hK) (e1.trans f1) f2 f3
          exact ⟨i1, wk_rot.trans i2, i3⟩
        cases pre with
        | nil =>
          have hq2 : y :: l = post := hQ.symm.trans hq
          refine fin [] (l ++ [y]) rfl (fun x hx => ?_) (Nat.zero_le _)
          rcases List.mem_append.mp hx with hx | hx
          · exact hp x (by rw [← hq2]; exact List.mem_cons_of_mem _ hx)
          · rw [List.mem_singleton.mp hx]
            exact hno
        | cons z pre =>
          have hq2 : y :: l = z :: (pre ++ post) := hQ.symm.trans hq
          have e3 : l = pre ++ post := (List.cons.inj hq2).2
          refine fin pre (post ++ [y]) (by rw [e3, List.append_assoc]) (fun x hx => ?_) (by have : (z :: pre).length = pre.length + 1 := rfl; omega)
          rcases List.mem_append.mp hx with hx | hx
          · exact hp x hx
          · rw [List.mem_singleton.mp hx]
            exact hno
