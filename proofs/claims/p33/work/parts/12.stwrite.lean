/-! WRITING A STATE: what stays, and each change by its rows -/
/-- nothing outside lo .. hi has changed -/
def Only (lo hi : Nat) (h h' : List va_E) : Prop := h'.length = h.length ∧ ∀ i, (i < lo ∨ hi ≤ i) → h'[i]? = h[i]?
theorem Only.rf {lo hi : Nat} {h : List va_E} : Only lo hi h h := ⟨rfl, fun _ _ => rfl⟩
theorem Only.trans {lo hi : Nat} {h h1 h2 : List va_E} (a : Only lo hi h h1) (b : Only lo hi h1 h2) : Only lo hi h h2 := ⟨b.1.trans a.1, fun i hi => (b.2 i hi).trans (a.2 i hi)⟩
theorem Only.mono {lo hi lo' hi' : Nat} {h h1 : List va_E} (a : Only lo hi h h1) (h1' : lo' ≤ lo) (h2 : hi ≤ hi') : Only lo' hi' h h1 := ⟨a.1, fun i hi => a.2 i (by omega)⟩
theorem Only.set {lo hi a : Nat} {h : List va_E} {e : va_E} (h1 : lo ≤ a) (h2 : a < hi) : Only lo hi h (h.set a e) := ⟨List.length_set, fun i hi => by rw [List.getElem?_set_ne (by omega)]⟩
theorem Only.at {lo hi i : Nat} {h h1 : List va_E} {e : va_E} (a : Only lo hi h h1) (hi : i < lo ∨ hi ≤ i) (he : h[i]? = some e) : h1[i]? = some e := (a.2 i hi).trans he
def rset (σ : Rows) (a : Nat) (f : Nat → Int32) : Rows := fun i => if i = a then f else σ i
theorem rset_s {σ : Rows} {a : Nat} {f : Nat → Int32} : rset σ a f a = f := if_pos rfl
theorem rset_n {σ : Rows} {a i : Nat} {f : Nat → Int32} (h : i ≠ a) : rset σ a f i = σ i := if_neg h
theorem rset_rset {σ : Rows} {a : Nat} {f g : Nat → Int32} : rset (rset σ a f) a g = rset σ a g := by
  funext i
  unfold rset
  split <;> rfl
def nA (a : Nat) : Nat := if a ≤ 2 then 160 else if a = 3 then 8 else 20
/-- the State at b has become σ', nothing else has changed -/
def StU (h : List va_E) (b : Nat) (σ' : Rows) (h' : List va_E) : Prop := StAt h' b σ' ∧ Only b (b + 6) h h'
theorem get_set {h : List va_E} {a : Nat} {e e0 : va_E} (hg : h[a]? = some e0) : (h.set a e)[a]? = some e := by
  rw [List.getElem?_set_self (List.getElem?_eq_some_iff.mp hg).1]
theorem StAt.obj {h : List va_E} {b : Nat} {σ : Rows} (hS : StAt h b σ) (i : Nat → Int32) : StU h b (rset σ 0 i) (h.set b (stO b i)) := by
  obtain ⟨h0, h1, h2, h3, h4, h5⟩ := hS
  refine ⟨⟨get_set h0, ?_, ?_, ?_, ?_, ?_⟩, Only.set (by omega) (by omega)⟩ <;> rw [List.getElem?_set_ne (by omega), rset_n (by decide)] <;> assumption
theorem StAt.row {h : List va_E} {b : Nat} {σ : Rows} (hS : StAt h b σ) {a : Nat} (ha : 1 ≤ a ∧ a ≤ 5) (f : Nat → Int32) : StU h b (rset σ a f) (h.set (b + a) (ar (nA a) f)) := by
  obtain ⟨h0, h1, h2, h3, h4, h5⟩ := hS
  obtain ⟨a1, a2⟩ := ha
  rcases (show a = 1 ∨ a = 2 ∨ a = 3 ∨ a = 4 ∨ a = 5 by omega) with rfl | rfl | rfl | rfl | rfl
  · exact ⟨⟨by rw [List.getElem?_set_ne (by omega), rset_n (by decide)]; exact h0, get_set h1, by rw [List.getElem?_set_ne (by omega), rset_n (by decide)]; exact h2, by rw [List.getElem?_set_ne (by omega), rset_n (by decide)]; exact h3, by rw [List.getElem?_set_ne (by omega), rset_n (by decide)]; exact h4, by rw [List.getElem?_set_ne (by omega), rset_n (by decide)]; exact h5⟩, Only.set (by omega) (by omega)⟩
  · exact ⟨⟨by rw [List.getElem?_set_ne (by omega), rset_n (by decide)]; exact h0, by rw [List.getElem?_set_ne (by omega), rset_n (by decide)]; exact h1, get_set h2, by rw [List.getElem?_set_ne (by omega), rset_n (by decide)]; exact h3, by rw [List.getElem?_set_ne (by omega), rset_n (by decide)]; exact h4, by rw [List.getElem?_set_ne (by omega), rset_n (by decide)]; exact h5⟩, Only.set (by omega) (by omega)⟩
  · exact ⟨⟨by rw [List.getElem?_set_ne (by omega), rset_n (by decide)]; exact h0, by rw [List.getElem?_set_ne (by omega), rset_n (by decide)]; exact h1, by rw [List.getElem?_set_ne (by omega), rset_n (by decide)]; exact h2, get_set h3, by rw [List.getElem?_set_ne (by omega), rset_n (by decide)]; exact h4, by rw [List.getElem?_set_ne (by omega), rset_n (by decide)]; exact h5⟩, Only.set (by omega) (by omega)⟩
  · exact ⟨⟨by rw [List.getElem?_set_ne (by omega), rset_n (by decide)]; exact h0, by rw [List.getElem?_set_ne (by omega), rset_n (by decide)]; exact h1, by rw [List.getElem?_set_ne (by omega), rset_n (by decide)]; exact h2, by rw [List.getElem?_set_ne (by omega), rset_n (by decide)]; exact h3, get_set h4, by rw [List.getElem?_set_ne (by omega), rset_n (by decide)]; exact h5⟩, Only.set (by omega) (by omega)⟩
  · exact ⟨⟨by rw [List.getElem?_set_ne (by omega), rset_n (by decide)]; exact h0, by rw [List.getElem?_set_ne (by omega), rset_n (by decide)]; exact h1, by rw [List.getElem?_set_ne (by omega), rset_n (by decide)]; exact h2, by rw [List.getElem?_set_ne (by omega), rset_n (by decide)]; exact h3, by rw [List.getElem?_set_ne (by omega), rset_n (by decide)]; exact h4, get_set h5⟩, Only.set (by omega) (by omega)⟩
theorem StU.then {h h1 h2 : List va_E} {b : Nat} {σ1 σ2 : Rows} (u1 : StU h b σ1 h1) (u2 : StU h1 b σ2 h2) : StU h b σ2 h2 := ⟨u2.1, u1.2.trans u2.2⟩
theorem StAt.get {h : List va_E} {b : Nat} {σ : Rows} (hS : StAt h b σ) {a : Nat} (ha : 1 ≤ a ∧ a ≤ 5) : h[b + a]? = some (ar (nA a) (σ a)) := by
  obtain ⟨h0, h1, h2, h3, h4, h5⟩ := hS
  obtain ⟨a1, a2⟩ := ha
  rcases (show a = 1 ∨ a = 2 ∨ a = 3 ∨ a = 4 ∨ a = 5 by omega) with rfl | rfl | rfl | rfl | rfl <;> assumption
/-- a State elsewhere stays -/
theorem StAt.keep {h h1 : List va_E} {b lo hi : Nat} {σ : Rows} (hS : StAt h b σ) (hO : Only lo hi h h1) (hd : b + 6 ≤ lo ∨ hi ≤ b) : StAt h1 b σ := by
  obtain ⟨g0, g1, g2, g3, g4, g5⟩ := hS
  exact ⟨hO.at (by omega) g0, hO.at (by omega) g1, hO.at (by omega) g2, hO.at (by omega) g3, hO.at (by omega) g4, hO.at (by omega) g5⟩
section SW
variable {E : AEnv} {Y : MI} {d k n pc pc' idx : Nat} {ls : List (Option Value)} {st : List Value} {h : List va_E} {b : Nat} {σ : Rows} {g s T sh : Nat} {Ψ : Pst}
theorem go_putSt {kf : Nat} {x : Int32} (hd : Dc Y pc (.putfield idx) pc') (hF : FLk Y.1.cls idx 4 kf) (hk : kf < 9) (hS : StAt h b σ) (K : ∀ h1, StU h b (rset σ 0 (upd (σ 0) kf x)) h1 → Go E Y d k n pc' ls st h1 Ψ) : Go E Y d k n pc ls (.int x :: .ref b :: st) h Ψ := by
  have K' := K _ (hS.obj (upd (σ 0) kf x))
  rcases (show kf = 0 ∨ kf = 1 ∨ kf = 2 ∨ kf = 3 ∨ kf = 4 ∨ kf = 5 ∨ kf = 6 ∨ kf = 7 ∨ kf = 8 by omega) with rfl | rfl | rfl | rfl | rfl | rfl | rfl | rfl | rfl <;>
    exact go_putfield hd hF rfl rfl hS.1 (Nat.le_of_ble_eq_true rfl) (fun w hw => by subst hw; exact ⟨rfl, rfl⟩) K'
theorem c_putSt {a kk : Nat} {x : Int32} (hS : StAt h b σ) (ha : 1 ≤ a ∧ a ≤ 5) (hk : kk < nA a) : Calls E mX5_put d 0 0 [.ref (b + a), .int (nI kk), .int x] h (RV (StU h b (rset σ a (upd (σ a) kk x)))) := by
  refine (c_put (hS.get ha) hk (by unfold nA; split <;> (try split) <;> decide)).weaken ?_
  rintro r h' ⟨rfl, rfl⟩
  exact ⟨rfl, hS.row ha _⟩
theorem c_setValue (hS : StAt h b σ) {t c : Nat} {x : Int32} (ht : t < 8) (hc : c < 20) (hd : 1 ≤ d) : Calls E mX4_setValue d 0 0 [.ref b, .int (nI t), .int (nI c), .int x] h (RV (StU h b (rset σ 2 (upd (σ 2) (t * 20 + c) x)))) := by
  refine Calls.of (ls := [some (.ref b), some (.int (nI t)), some (.int (nI c)), some (.int x)]) (by decide +kernel) rfl (Nat.le_of_ble_eq_true rfl) (cat_ok rfl) ?_
  refine go_aload_0 (DX4_setValue.at 0 rfl) ?_
  refine go_getfield (DX4_setValue.at 1 rfl) fX4_43 hS.1 rfl ?_
  refine go_iload_1 (DX4_setValue.at 2 rfl) ?_
  refine go_bipush (v := nI 20) (DX4_setValue.at 3 rfl) (by decide) ?_
  refine go_imul (DX4_setValue.at 4 rfl) ?_
  refine go_iload_2 (DX4_setValue.at 5 rfl) ?_
  refine go_iadd (DX4_setValue.at 6 rfl) ?_
  rw [pk_mul, nI_add]
  refine go_iload_3 (DX4_setValue.at 7 rfl) ?_
  refine go_cSv3 (DX4_setValue.at 8 rfl) nX4_77 vX5_put (by omega) (c_putSt hS (a := 2) (by decide) (show t * 20 + c < 160 by omega)) (Nat.le_of_ble_eq_true rfl) (fun h11 q11 => ?_)
  exact go_return (DX4_setValue.at 9 rfl) rfl (RV.mk q11)

theorem c_joinQueue (hS : StAt h b σ) {q : Nat} {x : Int32} (hq : σ 0 8 = nI q) (hq2 : q < 160) (hd : 1 ≤ d) : Calls E mX4_joinQueue d 0 0 [.ref b, .int x] h (RV (StU h b (rset (rset σ 1 (upd (σ 1) q x)) 0 (upd (σ 0) 8 (nI (q + 1)))))) := by
  refine Calls.of (ls := [some (.ref b), some (.int x)]) (by decide +kernel) rfl (Nat.le_of_ble_eq_true rfl) (cat_ok rfl) ?_
  refine go_aload_0 (DX4_joinQueue.at 0 rfl) ?_
  refine go_getfield (DX4_joinQueue.at 1 rfl) fX4_36 hS.1 rfl ?_
  rw [hq]
  refine go_aload_0 (DX4_joinQueue.at 2 rfl) ?_
  refine go_getfield (DX4_joinQueue.at 3 rfl) fX4_39 hS.1 rfl ?_
  refine go_alen (DX4_joinQueue.at 4 rfl) (Or.inl hS.2.1) rfl ?_
  refine go_icmp_ge 34 (DX4_joinQueue.at 5 rfl) (by decide) (fun c9 => absurd c9 (nI_ge hq2 (by decide))) (fun c9 => ?_)
  refine go_aload_0 (DX4_joinQueue.at 6 rfl) ?_
  refine go_getfield (DX4_joinQueue.at 7 rfl) fX4_39 hS.1 rfl ?_
  refine go_aload_0 (DX4_joinQueue.at 8 rfl) ?_
  refine go_getfield (DX4_joinQueue.at 9 rfl) fX4_36 hS.1 rfl ?_
  rw [hq]
  refine go_iload_1 (DX4_joinQueue.at 10 rfl) ?_
  refine go_cSv3 (DX4_joinQueue.at 11 rfl) nX4_77 vX5_put (by omega) (c_putSt hS (a := 1) (by decide) (show q < 160 from hq2)) (Nat.le_of_ble_eq_true rfl) (fun h21 q21 => ?_)
  refine go_aload_0 (DX4_joinQueue.at 12 rfl) ?_
  refine go_dup (DX4_joinQueue.at 13 rfl) rfl ?_
  refine go_getfield (DX4_joinQueue.at 14 rfl) fX4_36 q21.1.1 rfl ?_
  rw [show rset σ 1 (upd (σ 1) q x) 0 8 = nI q from hq]
  refine go_iconst (v := nI 1) (DX4_joinQueue.at 15 rfl) (by decide) ?_
  refine go_iadd (DX4_joinQueue.at 16 rfl) ?_
  rw [nI_add]
  refine go_putSt (DX4_joinQueue.at 17 rfl) fX4_36 (by decide) q21.1 (fun h31 q31 => ?_)
  exact go_return (DX4_joinQueue.at 18 rfl) rfl (RV.mk (q21.then q31))

/-- the row behind p moves one place down -/
def shf (f : Nat → Int32) (p q : Nat) : Nat → Int32 := va_cpy f f (p + 1) p (q - p - 1)
theorem shf_lo {f : Nat → Int32} {p q j : Nat} (h : j < p) : shf f p q j = f j := pk_cpy_out (Or.inl h)
theorem shf_hi {f : Nat → Int32} {p q j : Nat} (h : p ≤ j) (h2 : j + 1 < q) : shf f p q j = f (j + 1) := by
  unfold shf
  rw [pk_cpy_in h (by omega)]
  congr 1
  omega
theorem c_leaveQueue (hS : StAt h b σ) {p q : Nat} {x : Int32} (hq : σ 0 8 = nI q) (hq2 : q ≤ 160) (hp : p < q) (he : σ 1 p = x) (hne : ∀ j, j < p → ¬ σ 1 j = x) (hd : 1 ≤ d) : Calls E mX4_leaveQueue d 0 0 [.ref b, .int x] h (RV (StU h b (rset (rset σ 1 (shf (σ 1) p q)) 0 (upd (σ 0) 8 (nI (q - 1)))))) := by
  refine Calls.of (ls := [some (.ref b), some (.int x), none, none]) (by decide +kernel) rfl (Nat.le_of_ble_eq_true rfl) (cat_ok rfl) ?_
  have loop : ∀ (m j : Nat), j + m = p → Go E mX4_leaveQueue d 0 0 2 [some (.ref b), some (.int x), some (.int (nI j)), none] [] h (RV (StU h b (rset (rset σ 1 (shf (σ 1) p q)) 0 (upd (σ 0) 8 (nI (q - 1)))))) := by
    intro m
    induction m with
    | zero =>
      intro j hj
      have ej : j = p := by omega
      rw [ej]
      refine go_iload_2 (DX4_leaveQueue.at 2 rfl) ?_
      refine go_aload_0 (DX4_leaveQueue.at 3 rfl) ?_
      refine go_getfield (DX4_leaveQueue.at 4 rfl) fX4_36 hS.1 rfl ?_
      refine go_icmp_ge 28 (DX4_leaveQueue.at 5 rfl) (by decide) (fun c7 => absurd (by rw [hq] at c7; exact c7) (nI_ge (a := p) (b := q) hp (by omega))) (fun c7 => ?_)
      refine go_aload_0 (DX4_leaveQueue.at 6 rfl) ?_
      refine go_getfield (DX4_leaveQueue.at 7 rfl) fX4_39 hS.1 rfl ?_
      refine go_iload_2 (DX4_leaveQueue.at 8 rfl) ?_
      refine go_cSx2 (DX4_leaveQueue.at 9 rfl) nX4_87 vX5_at (by omega) (c_at (Or.inl hS.2.1) (show p < 160 by omega) (by decide)) (Nat.le_of_ble_eq_true rfl) ?_
      refine go_iload_1 (DX4_leaveQueue.at 10 rfl) ?_
      refine go_icmp_eq 28 (DX4_leaveQueue.at 11 rfl) (by decide) (fun c19 => ?_) (fun c19 => absurd he c19)
      refine go_aload_0 (DX4_leaveQueue.at 14 rfl) ?_
      refine go_getfield (DX4_leaveQueue.at 15 rfl) fX4_36 hS.1 rfl ?_
      refine go_iload_2 (DX4_leaveQueue.at 16 rfl) ?_
      refine go_isub (DX4_leaveQueue.at 17 rfl) ?_
      rw [hq, pk_sub (by omega)]
      refine go_iconst (v := nI 1) (DX4_leaveQueue.at 18 rfl) (by decide) ?_
      refine go_isub (DX4_leaveQueue.at 19 rfl) ?_
      rw [show nI (q - p) - nI 1 = nI (q - p - 1) from pk_sub (by omega)]
      refine go_istore_3 (DX4_leaveQueue.at 20 rfl) ?_
      refine go_iload_3 (DX4_leaveQueue.at 21 rfl) ?_
      refine go_if_lt 79 (DX4_leaveQueue.at 22 rfl) (by decide) (fun c38 => absurd c38 (nI_pos (by omega))) (fun c38 => ?_)
      refine go_aload_0 (DX4_leaveQueue.at 23 rfl) ?_
      refine go_getfield (DX4_leaveQueue.at 24 rfl) fX4_36 hS.1 rfl ?_
      refine go_aload_0 (DX4_leaveQueue.at 25 rfl) ?_
      refine go_getfield (DX4_leaveQueue.at 26 rfl) fX4_39 hS.1 rfl ?_
      refine go_alen (DX4_leaveQueue.at 27 rfl) (Or.inl hS.2.1) rfl ?_
      refine go_icmp_gt 79 (DX4_leaveQueue.at 28 rfl) (by decide) (fun c50 => absurd (by rw [hq] at c50; exact c50) (nI_nlt (a := 160) (b := q) (by omega) (by omega))) (fun c50 => ?_)
      refine go_aload_0 (DX4_leaveQueue.at 29 rfl) ?_
      refine go_getfield (DX4_leaveQueue.at 30 rfl) fX4_39 hS.1 rfl ?_
      refine go_iload_2 (DX4_leaveQueue.at 31 rfl) ?_
      refine go_iconst (v := nI 1) (DX4_leaveQueue.at 32 rfl) (by decide) ?_
      refine go_iadd (DX4_leaveQueue.at 33 rfl) ?_
      rw [nI_add]
      refine go_aload_0 (DX4_leaveQueue.at 34 rfl) ?_
      refine go_getfield (DX4_leaveQueue.at 35 rfl) fX4_39 hS.1 rfl ?_
      refine go_iload_2 (DX4_leaveQueue.at 36 rfl) ?_
      refine go_iload_3 (DX4_leaveQueue.at 37 rfl) ?_
      refine go_arraycopy (DX4_leaveQueue.at 38 rfl) ac_lk4 ac_nat ac_sta ac_ini hS.2.1 hS.2.1 (nI_pos (by omega)) (nI_pos (by omega)) (nI_pos (by omega)) (by rw [nI_cl (by omega), nI_cl (by omega)]; omega) (by rw [nI_cl (by omega), nI_cl (by omega)]; omega) (by omega) (Nat.le_of_ble_eq_true rfl) ?_
      rw [nI_cl (show p + 1 < 2 ^ 31 by omega), nI_cl (show p < 2 ^ 31 by omega), nI_cl (show q - p - 1 < 2 ^ 31 by omega)]
      have q66 : StU h b (rset σ 1 (shf (σ 1) p q)) (h.set (b + 1) (ar 160 (va_cpy (σ 1) (σ 1) (p + 1) p (q - p - 1)))) := hS.row (a := 1) (by decide) _
      generalize (h.set (b + 1) (ar 160 (va_cpy (σ 1) (σ 1) (p + 1) p (q - p - 1)))) = h66 at q66 ⊢
      refine go_aload_0 (DX4_leaveQueue.at 39 rfl) ?_
      refine go_dup (DX4_leaveQueue.at 40 rfl) rfl ?_
      refine go_getfield (DX4_leaveQueue.at 41 rfl) fX4_36 q66.1.1 rfl ?_
      rw [show (rset σ 1 (shf (σ 1) p q)) 0 8 = nI q from hq]
      refine go_iconst (v := nI 1) (DX4_leaveQueue.at 42 rfl) (by decide) ?_
      refine go_isub (DX4_leaveQueue.at 43 rfl) ?_
      rw [show nI q - nI 1 = nI (q - 1) from pk_sub (by omega)]
      refine go_putSt (DX4_leaveQueue.at 44 rfl) fX4_36 (by decide) q66.1 (fun h76 q76 => ?_)
      exact go_return (DX4_leaveQueue.at 45 rfl) rfl (RV.mk (q66.then q76))
    | succ m ih =>
      intro j hj
      refine go_iload_2 (DX4_leaveQueue.at 2 rfl) ?_
      refine go_aload_0 (DX4_leaveQueue.at 3 rfl) ?_
      refine go_getfield (DX4_leaveQueue.at 4 rfl) fX4_36 hS.1 rfl ?_
      refine go_icmp_ge 28 (DX4_leaveQueue.at 5 rfl) (by decide) (fun c7 => absurd (by rw [hq] at c7; exact c7) (nI_ge (a := j) (b := q) (by omega) (by omega))) (fun c7 => ?_)
      refine go_aload_0 (DX4_leaveQueue.at 6 rfl) ?_
      refine go_getfield (DX4_leaveQueue.at 7 rfl) fX4_39 hS.1 rfl ?_
      refine go_iload_2 (DX4_leaveQueue.at 8 rfl) ?_
      refine go_cSx2 (DX4_leaveQueue.at 9 rfl) nX4_87 vX5_at (by omega) (c_at (Or.inl hS.2.1) (show j < 160 by omega) (by decide)) (Nat.le_of_ble_eq_true rfl) ?_
      refine go_iload_1 (DX4_leaveQueue.at 10 rfl) ?_
      refine go_icmp_eq 28 (DX4_leaveQueue.at 11 rfl) (by decide) (fun c19 => absurd c19 (hne j (by omega))) (fun c19 => ?_)
      refine go_iincN_2 (DX4_leaveQueue.at 12 rfl) ?_
      refine go_goto 2 (DX4_leaveQueue.at 13 rfl) (by decide) ?_
      exact ih (j + 1) (by omega)
  refine go_iconst (v := nI 0) (DX4_leaveQueue.at 0 rfl) (by decide) ?_
  refine go_istore_2 (DX4_leaveQueue.at 1 rfl) ?_
  exact loop p 0 (by omega)

end SW
