/-! THE LAW'S OWN STORE: losing, mending, writing; the way by the rules -/
theorem AOK.q60 {A : Ab} (h : AOK A) (h3 : aT A ≤ 3) : (aQ A).length ≤ 60 := php 60 _ h.2.2.2.1 (fun x hx => by
  have h1 := ((h.2.2.2.2 x).mp hx).1
  omega)
theorem AOK.q60r {A : Ab} {t c : Nat} (h : AOK A) (h3 : aT A ≤ 3) (ht : t < aT A) (hc : c < nc (aG A) (aS A)) (hb : ¬ bit (aM A t) c) : (aQ A).length < 60 := by
  have hn := h.1.nc
  have e : ((20 * t + c) :: aQ A).Nodup := List.nodup_cons.mpr ⟨fun q => hb ((h.qin ht hc).mp q), h.2.2.2.1⟩
  exact php 60 _ e (fun x hx => by
    rcases List.mem_cons.mp hx with rfl | hx
    · omega
    · have h1 := ((h.2.2.2.2 x).mp hx).1
      omega)
/-- only the law's rows have changed: they hold A' now -/
def LU (A' : Ab) (ρ : Nat → Nat → Int32) (h h' : List va_E) : Prop := Only 52 59 h h' ∧ ∃ ρ', LA h' ρ' ∧ LR A' ρ' ∧ ρ' 5 = ρ 5 ∧ ρ' 6 = ρ 6
theorem LR.los {A : Ab} {ρ ρ' : Nat → Nat → Int32} {t c : Nat} (hR : LR A ρ) (ht : t < aT A) (hc : c < nc (aG A) (aS A)) (hb : ¬ bit (aM A t) c) (e2 : ρ' 2 = upd (ρ 2) t (nI (aM A t ||| 2 ^ c))) (e3 : ρ' 3 = upd (ρ 3) (aQ A).length (nI (20 * t + c)))
    (e0 : ρ' 0 = upd (upd (ρ 0) 4 (nI ((aQ A).length + 1))) 8 (ρ 0 8 + 1)) (e1 : ρ' 1 = ρ 1) (e4 : ρ' 4 = ρ 4) : LR (aLos A t c) ρ' := by
  obtain ⟨hA, hY, hq, hK, hV, hM, hQ, hD⟩ := hR
  refine ⟨aLos_ok hA ht hc hb, hY.up (fun k hk => by rw [e0, pk_un (by omega), pk_un (by omega)]), ?_, fun k hk => ?_, fun t' ht' c' hc' => ?_, fun t' ht' => ?_, fun i x hx => ?_, fun j hj => ?_⟩
  · rw [e0, pk_un (by decide), pk_us]
    show _ = nI (aQ A ++ [20 * t + c]).length
    rw [List.length_append]
    rfl
  · rw [e0]
    show upd (upd (ρ 0) 4 (nI ((aQ A).length + 1))) 8 (ρ 0 8 + 1) (5 + k) = upd (aK A) 3 (aK A 3 + 1) k
    by_cases e : k = 3
    · subst e
      rw [pk_us, pk_us, ← hK 3 (by decide)]
    · rw [pk_un (by omega), pk_un (by omega), pk_un e]
      exact hK k hk
  · rw [e1]
    exact hV t' ht' c' hc'
  · rw [e2]
    show _ = nI (if t' = t then aM A t ||| 2 ^ c else aM A t')
    by_cases e : t' = t
    · rw [if_pos e, e, pk_us]
    · rw [if_neg e, pk_un e]
      exact hM t' ht'
  · have hx2 : (aQ A ++ [20 * t + c])[i]? = some x := hx
    rw [e3]
    by_cases q : i < (aQ A).length
    · rw [List.getElem?_append_left q] at hx2
      rw [pk_un (by omega)]
      exact hQ i x hx2
    · rw [List.getElem?_append_right (by omega)] at hx2
      have h1 := (List.getElem?_eq_some_iff.mp hx2).1
      have h2 : i = (aQ A).length := by
        simp only [List.length_cons, List.length_nil] at h1
        omega
      rw [h2, Nat.sub_self, List.getElem?_cons_zero] at hx2
      cases hx2
      rw [h2, pk_us]
  · rw [e4]
    exact hD j hj
theorem LR.mnd {A : Ab} {ρ ρ' : Nat → Nat → Int32} {t c w src : Nat} (hR : LR A ρ) (ht : t < aT A) (hc : c < nc (aG A) (aS A)) (e2 : ρ' 2 = upd (ρ 2) t (nI (clr (aM A t) c))) (e3 : ∀ i x, ((aQ A).erase (20 * t + c))[i]? = some x → ρ' 3 i = nI x) (hm : 20 * t + c ∈ aQ A)
    (e4 : ρ' 4 = rdl (ρ 4) src (fun c => (c + t * aH A) % nc (aG A) (aS A)) (nc (aG A) (aS A))) (e1 : ρ' 1 = ρ 1) (k0 : ∀ k, k < 4 → ρ' 0 k = ρ 0 k) (kq : ρ' 0 4 = nI ((aQ A).length - 1)) (k5 : ρ' 0 5 = rdc (ρ 0 5) src (nc (aG A) (aS A))) (k6 : ρ' 0 6 = ρ 0 6 + 1) (k7 : ρ' 0 7 = if w = 1 then ρ 0 7 + 1 else ρ 0 7) (k8 : ρ' 0 8 = ρ 0 8) : LR (aMnd A t c w src (aV A t c)) ρ' := by
  obtain ⟨hA, hY, hq, hK, hV, hM, hQ, hD⟩ := hR
  have hn := hA.1.nc
  refine ⟨aMnd_ok hA ht hc (hA.2.2.1 t c), hY.up k0, ?_, fun k hk => ?_, fun t' ht' c' hc' => ?_, fun t' ht' => ?_, e3, fun j hj => ?_⟩
  · rw [kq]
    show _ = nI ((aQ A).erase (20 * t + c)).length
    rw [List.length_erase_of_mem hm]
  · show ρ' 0 (5 + k) = upd (upd (upd (aK A) 0 (rdc (aK A 0) src (nc (aG A) (aS A)))) 1 (aK A 1 + 1)) 2 (if w = 1 then aK A 2 + 1 else aK A 2) k
    rcases (show k = 0 ∨ k = 1 ∨ k = 2 ∨ k = 3 by omega) with rfl | rfl | rfl | rfl
    · rw [pk_un (by decide), pk_un (by decide), pk_us, ← hK 0 (by decide)]
      exact k5
    · rw [pk_un (by decide), pk_us, ← hK 1 (by decide)]
      exact k6
    · rw [pk_us, ← hK 2 (by decide)]
      exact k7
    · rw [pk_un (by decide), pk_un (by decide), pk_un (by decide), ← hK 3 (by decide)]
      exact k8
  · rw [e1]
    show _ = nI (put2 (aV A) t c (aV A t c) t' c')
    rw [put2_same]
    exact hV t' ht' c' hc'
  · rw [e2]
    show _ = nI (if t' = t then clr (aM A t) c else aM A t')
    by_cases e : t' = t
    · rw [if_pos e, e, pk_us]
    · rw [if_neg e, pk_un e]
      exact hM t' ht'
  · rw [e4]
    exact rdl_congr hD (fun c => Nat.lt_of_lt_of_le (Nat.mod_lt _ (by omega)) hn.2) _ j hj
theorem LR.wrt {A : Ab} {ρ ρ' : Nat → Nat → Int32} {t c v : Nat} (hR : LR A ρ) (ht : t < aT A) (hc : c < aG A * aS A) (hv : v < 16) (e0 : ρ' 0 = ρ 0) (e2 : ρ' 2 = ρ 2) (e3 : ρ' 3 = ρ 3) (e4 : ρ' 4 = ρ 4)
    (c1 : ρ' 1 (20 * t + c) = nI v) (c2 : ρ' 1 (20 * t + (aG A * aS A + hcv (aG A) (aS A) c)) = nI (aV A t (aG A * aS A + hcv (aG A) (aS A) c) ^^^ (aV A t c ^^^ v)))
    (c3 : ρ' 1 (20 * t + (aG A * aS A + aG A)) = nI (aV A t (aG A * aS A + aG A) ^^^ gm (aV A t c ^^^ v) (pw c))) (c4 : ρ' 1 (20 * t + (aG A * aS A + aG A + 1)) = nI (aV A t (aG A * aS A + aG A + 1) ^^^ gm (aV A t c ^^^ v) (pw (2 * c))))
    (c5 : ∀ k, k ≠ 20 * t + c → k ≠ 20 * t + (aG A * aS A + hcv (aG A) (aS A) c) → k ≠ 20 * t + (aG A * aS A + aG A) → k ≠ 20 * t + (aG A * aS A + aG A + 1) → ρ' 1 k = ρ 1 k) : LR (aWrt A t c v) ρ' := by
  obtain ⟨hA, hY, hq, hK, hV, hM, hQ, hD⟩ := hR
  have hn := hA.1.nc
  have en : nc (aG A) (aS A) = aG A * aS A + aG A + 2 := rfl
  have hh := hcv_ltg hc
  have eh : hcv (aG A) (aS A) c = c / aS A := if_pos hc
  have hd : aV A t c ^^^ v < 16 := xor_lt (hA.2.2.1 t c) hv
  refine ⟨aWrt_ok hA hv, hY.up (fun k hk => by rw [e0]), by rw [e0]; exact hq, fun k hk => by rw [e0]; exact hK k hk, fun t' ht' c' hc' => ?_, fun t' ht' => by rw [e2]; exact hM t' ht', fun i x hx => by rw [e3]; exact hQ i x hx, fun j hj => by rw [e4]; exact hD j hj⟩
  have ht2 : t' < aT A := ht'
  have hc2 : c' < nc (aG A) (aS A) := hc'
  have hv' := hV t' ht2 c' hc2
  show _ = nI (if t' = t then (if c' = c then v else if c' < aG A * aS A then aV A t c' else aV A t c' ^^^ gm (colv (aG A) (aS A) c (c' - aG A * aS A)) (aV A t c ^^^ v)) else aV A t' c')
  by_cases e : t' = t
  · subst e
    rw [if_pos rfl]
    by_cases e2 : c' = c
    · rw [if_pos e2, e2]
      exact c1
    · rw [if_neg e2]
      by_cases e3 : c' < aG A * aS A
      · rw [if_pos e3, c5 _ (by omega) (by omega) (by omega) (by omega)]
        exact hv'
      · rw [if_neg e3]
        by_cases e4 : c' = aG A * aS A + hcv (aG A) (aS A) c
        · rw [e4, c2, show aG A * aS A + hcv (aG A) (aS A) c - aG A * aS A = hcv (aG A) (aS A) c by omega, colv_dk hc hh, if_pos eh, gm_1l hd]
        · by_cases e5 : c' = aG A * aS A + aG A
          · rw [e5, c3, show aG A * aS A + aG A - aG A * aS A = aG A by omega, colv_dg hc, gm_comm hd (pw_lt _)]
          · by_cases e6 : c' = aG A * aS A + aG A + 1
            · rw [e6, c4, show aG A * aS A + aG A + 1 - aG A * aS A = aG A + 1 by omega, colv_dg1 hc, gm_comm hd (pw_lt _)]
            · rw [c5 _ (by omega) (by omega) (by omega) (by omega), hv', colv_dk hc (by omega), if_neg (by omega), gm_0l hd, Nat.xor_zero]
  · rw [if_neg e, c5 _ (by omega) (by omega) (by omega) (by omega)]
    exact hv'
/-! near ways -/
def NrP (A : Ab) (t c j : Nat) : Prop := ∀ e, e < j → ¬ (bit (pmv (aG A) (aS A) c) e ∧ bit (aM A t) e)
theorem NrP.succ {A : Ab} {t c j : Nat} (h : NrP A t c j) (hn : ¬ (bit (pmv (aG A) (aS A) c) j ∧ bit (aM A t) j)) : NrP A t c (j + 1) := fun e he => by
  rcases lt_s1 he with q | rfl
  · exact h e q
  · exact hn
theorem NrP.down {A : Ab} {t c j : Nat} (h : NrP A t c (j + 1)) : NrP A t c j := fun e he => h e (by omega)
theorem NrP.iff {A : Ab} {t c : Nat} (hA : AOK A) (ht : t < aT A) : NrP A t c (nc (aG A) (aS A)) ↔ pmv (aG A) (aS A) c &&& aM A t = 0 := by
  constructor
  · intro h
    refine eq_bits (fun x => ⟨fun q => ?_, fun q => absurd q (nbit0 x)⟩)
    rw [bit_and] at q
    exact absurd q (h x (bit_big (hA.2.1 t ht) q.2))
  · exact fun h e _ q => and_bit h q.1 q.2
noncomputable def nrN (A : Ab) (t c : Nat) : Nat := if pmv (aG A) (aS A) c &&& aM A t = 0 then (if hcv (aG A) (aS A) c < aG A then 1 else 2) else 3
theorem WyX.nr {A : Ab} {t c w src X : Nat} (h : WyX A t c w src X) : nrN A t c = w := by
  unfold nrN
  rcases h with ⟨q, e, -⟩ | ⟨q, -, e, -⟩
  · rw [if_pos q, e]
  · rw [if_neg q, e]
theorem nrN_0 {A : Ab} {t c : Nat} (hA : AOK A) (hK : Cw A) (ht : t < aT A) (hc : c < nc (aG A) (aS A)) (h : wyF A t c = none) : nrN A t c = 3 := by
  unfold nrN
  rw [if_neg]
  intro q
  have hw : WyX A t c _ _ (aV A t c) := Or.inl ⟨q, rfl, rfl, ((hK t ht).near hA.1 (hA.2.2.1 t) hc).symm⟩
  rw [wyF_s hw] at h
  cases h
def NdP (A : Ab) (c j : Nat) : Prop := if grf (aG A) (aS A) c < 9 then grf (aG A) (aS A) j = grf (aG A) (aS A) c else j < aG A * aS A
theorem NdP.iff {A : Ab} {c j : Nat} (hL : LayOK (aG A) (aS A) (aT A) (aH A)) (hj : j < nc (aG A) (aS A)) (hne : j ≠ c) : NdP A c j ↔ bit (pmv (aG A) (aS A) c) j := by
  have hn := hL.nc
  have hs : 0 < aS A := by have h2 : 2 ≤ aS A := hL.2.2.1; omega
  unfold NdP
  by_cases q : hcv (aG A) (aS A) c < aG A
  · rw [if_pos ((grf_9 hL.2.1).mpr q), grf_eq hL.2.1 q, pmv_bit hs q (by omega)]
    exact ⟨fun e => ⟨e, hne⟩, fun e => e.1⟩
  · rw [if_neg (fun w => q ((grf_9 hL.2.1).mp w)), pmv_d q, bit_m1]
/-- what is asked of a lost cell, and of one that isn't -/
theorem asF_s {A : Ab} {t c w src X : Nat} {f : Nat → Nat → Nat → Int32} {z : Int32} (hA : AOK A) (ht : t < aT A) (hc : c < nc (aG A) (aS A)) (hb : bit (aM A t) c) (h : WyX A t c w src X) : asF A (nI t) (nI c) f z = f w src X := by
  unfold asF
  rw [ceQ_in hA ht hc, cI_t hb, wyF_s h]
theorem asF_0 {A : Ab} {t c : Nat} {f : Nat → Nat → Nat → Int32} {z : Int32} (hA : AOK A) (ht : t < aT A) (hc : c < nc (aG A) (aS A)) (hb : bit (aM A t) c) (h : wyF A t c = none) : asF A (nI t) (nI c) f z = z := by
  unfold asF
  rw [ceQ_in hA ht hc, cI_t hb, h]
theorem asF_n {A : Ab} {t c : Nat} {f : Nat → Nat → Nat → Int32} {z : Int32} (hA : AOK A) (ht : t < aT A) (hc : c < nc (aG A) (aS A)) (hb : ¬ bit (aM A t) c) : asF A (nI t) (nI c) f z = -5 := by
  unfold asF
  rw [ceQ_in hA ht hc, cI_f hb]
def shW (f : Nat → Int32) (p e : Nat) : Nat → Int32 := fun i => if p ≤ i ∧ i < e then f (i + 1) else f i
theorem shW_0 {f : Nat → Int32} {p : Nat} : shW f p p = f := by
  funext i
  exact if_neg (by omega)
theorem shW_s {f : Nat → Int32} {p e : Nat} (h : p ≤ e) : upd (shW f p e) e (shW f p e (e + 1)) = shW f p (e + 1) := by
  funext i
  by_cases q : i = e
  · subst q
    rw [pk_us]
    unfold shW
    rw [if_neg (by omega), if_pos (by omega)]
  · rw [pk_un q]
    unfold shW
    by_cases q2 : p ≤ i ∧ i < e
    · rw [if_pos q2, if_pos (by omega)]
    · rw [if_neg q2, if_neg (by omega)]
theorem rset_sw {ρ : Nat → Nat → Int32} {a b : Nat} {f g : Nat → Int32} (h : a ≠ b) : rset (rset ρ a f) b g = rset (rset ρ b g) a f := by
  funext i
  by_cases q : i = a
  · subst q
    rw [rset_n h, rset_s, rset_s]
  · by_cases q2 : i = b
    · subst q2
      rw [rset_s, rset_n q, rset_s]
    · rw [rset_n q2, rset_n q, rset_n q, rset_n q2]
theorem add_n0 (x : Int32) : x + nI 0 = x := by
  show x + 0 = x
  exact Int32.add_zero x
/-- while the cells are read -/
def MdI (A : Ab) (t src : Nat) (ρ ρ' : Nat → Nat → Int32) (j : Nat) : Prop := ρ' 4 = rdl (ρ 4) src (fun c => (c + t * aH A) % nc (aG A) (aS A)) j ∧ ρ' 0 = upd (ρ 0) 5 (rdc (ρ 0 5) src j) ∧ ∀ a, a ≠ 0 → a ≠ 4 → ρ' a = ρ a
theorem MdI.yes {A : Ab} {t src j : Nat} {ρ ρ' : Nat → Nat → Int32} (h : MdI A t src ρ ρ' j) (hb : bit src j) : MdI A t src ρ (rset (rset ρ' 4 (upd (ρ' 4) ((j + t * aH A) % nc (aG A) (aS A)) (ρ' 4 ((j + t * aH A) % nc (aG A) (aS A)) + nI 1))) 0 (upd (ρ' 0) 5 (ρ' 0 5 + nI 1))) (j + 1) := by
  obtain ⟨e4, e0, eo⟩ := h
  have hb2 : src / 2 ^ j % 2 = 1 := hb
  refine ⟨?_, ?_, fun a h0 h4 => ?_⟩
  · rw [rset_n (by decide), rset_s, e4]
    show _ = (if src / 2 ^ j % 2 = 1 then upd (rdl (ρ 4) src (fun c => (c + t * aH A) % nc (aG A) (aS A)) j) ((j + t * aH A) % nc (aG A) (aS A)) (rdl (ρ 4) src (fun c => (c + t * aH A) % nc (aG A) (aS A)) j ((j + t * aH A) % nc (aG A) (aS A)) + 1) else rdl (ρ 4) src (fun c => (c + t * aH A) % nc (aG A) (aS A)) j)
    rw [if_pos hb2]
    rfl
  · rw [rset_s, e0, pk_us, upd_upd]
    show _ = upd (ρ 0) 5 (if src / 2 ^ j % 2 = 1 then rdc (ρ 0 5) src j + 1 else rdc (ρ 0 5) src j)
    rw [if_pos hb2]
    rfl
  · rw [rset_n h0, rset_n h4]
    exact eo a h0 h4
theorem MdI.no {A : Ab} {t src j : Nat} {ρ ρ' : Nat → Nat → Int32} (h : MdI A t src ρ ρ' j) (hb : ¬ bit src j) : MdI A t src ρ (rset (rset ρ' 4 (upd (ρ' 4) ((j + t * aH A) % nc (aG A) (aS A)) (ρ' 4 ((j + t * aH A) % nc (aG A) (aS A)) + nI 0))) 0 (upd (ρ' 0) 5 (ρ' 0 5 + nI 0))) (j + 1) := by
  obtain ⟨e4, e0, eo⟩ := h
  have hb2 : ¬ src / 2 ^ j % 2 = 1 := hb
  rw [add_n0, add_n0, upd_self, upd_self]
  refine ⟨?_, ?_, fun a h0 h4 => ?_⟩
  · rw [rset_n (by decide), rset_s, e4]
    show _ = (if src / 2 ^ j % 2 = 1 then upd (rdl (ρ 4) src (fun c => (c + t * aH A) % nc (aG A) (aS A)) j) ((j + t * aH A) % nc (aG A) (aS A)) (rdl (ρ 4) src (fun c => (c + t * aH A) % nc (aG A) (aS A)) j ((j + t * aH A) % nc (aG A) (aS A)) + 1) else rdl (ρ 4) src (fun c => (c + t * aH A) % nc (aG A) (aS A)) j)
    rw [if_neg hb2]
  · rw [rset_s, e0]
    show _ = upd (ρ 0) 5 (if src / 2 ^ j % 2 = 1 then rdc (ρ 0 5) src j + 1 else rdc (ρ 0 5) src j)
    rw [if_neg hb2]
  · rw [rset_n h0, rset_n h4]
    exact eo a h0 h4
section LM
end LM
