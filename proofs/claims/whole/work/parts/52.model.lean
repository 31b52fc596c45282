/-! THE MODEL: its object, its rows, the store that they hold -/
abbrev mdO (b : Nat) (i : Nat → Int32) : va_E := .inr (6, [.ref (b + 1), .ref (b + 2), .ref (b + 3), .int (i 0), .ref (b + 4), .int (i 1), .ref (b + 5), .int (i 2), .int (i 3), .ref (b + 6), .ref (b + 7), .ref (b + 8), .ref (b + 9), .ref (b + 10), .int (i 4)])
def mA (a : Nat) : Nat := if a ≤ 2 then 349 else if a = 3 then 1396 else if a = 4 then 349 else if a = 5 then 60 else if a = 6 then 3 else if a = 7 then 256 else if a ≤ 9 then 15 else 4
/-- i: how many states, whether there is a snapshot, length, at, goodValue; ρ 1 .. ρ 10: state, before, history, snapshot, text, numbers, products, the factors, localFactor -/
def MdAt (G : Nat → Option va_E) (h : List va_E) (b : Nat) (i : Nat → Int32) (ρ : Nat → Nat → Int32) : Prop := h[b]? = some (mdO b i) ∧ (∀ a, 1 ≤ a ∧ a ≤ 10 → h[b + a]? = some (ar (mA a) (ρ a))) ∧ ∀ j, (j < b ∨ b + 11 ≤ j) → h[j]? = G j
def RepM (A : Ab) (m : Nat → Int32) : Prop := AOK A ∧ (m 0 = nI (aG A) ∧ m 1 = nI (aS A) ∧ m 2 = nI (aT A) ∧ m 3 = nI (aH A)) ∧ (∀ k, k < 4 → m (4 + k) = aK A k) ∧ m 8 = nI (aQ A).length ∧ (∀ j, j < 20 → m (9 + j) = aL A j) ∧
  (∀ t, t < aT A → ∀ c, c < nc (aG A) (aS A) → bit (aM A t) c → m (29 + 20 * t + c) = -1) ∧ (∀ t, t < aT A → ∀ c, c < nc (aG A) (aS A) → ¬ bit (aM A t) c → m (29 + 20 * t + c) = nI (aV A t c)) ∧ ∀ k x, (aQ A)[k]? = some x → m (189 + k) = nI x
def MTb (ρ : Nat → Nat → Int32) : Prop := (∀ a c, a < 16 → c < 16 → ρ 7 (16 * a + c) = nI (gm a c)) ∧ (∀ c, c < 15 → ρ 8 c = nI (pw c)) ∧ ∀ c, c < 15 → ρ 9 c = nI (pw (2 * c))
def MX (G : Nat → Option va_E) (h : List va_E) (b : Nat) (i : Nat → Int32) (ρ : Nat → Nat → Int32) (A : Ab) : Prop := MdAt G h b i ρ ∧ MTb ρ ∧ RepM A (ρ 1)
theorem RepM.congr {A : Ab} {m m' : Nat → Int32} (h : RepM A m) (e : ∀ k, k < 349 → m' k = m k) : RepM A m' := by
  obtain ⟨hA, ⟨a0, a1, a2, a3⟩, hK, hq, hL, hl, hv, hQ⟩ := h
  have hn := hA.1.nc
  have h8 : aT A ≤ 8 := hA.1.2.2.2.2.2.2.1
  have h160 := hA.q160
  exact ⟨hA, ⟨(e 0 (by decide)).trans a0, (e 1 (by decide)).trans a1, (e 2 (by decide)).trans a2, (e 3 (by decide)).trans a3⟩, fun k hk => (e _ (by omega)).trans (hK k hk), (e 8 (by decide)).trans hq, fun j hj => (e _ (by omega)).trans (hL j hj), fun t ht c hc hb => (e _ (by omega)).trans (hl t ht c hc hb), fun t ht c hc hb => (e _ (by omega)).trans (hv t ht c hc hb), fun k x hx => (e _ (by have := (List.getElem?_eq_some_iff.mp hx).1; omega)).trans (hQ k x hx)⟩
theorem MdAt.row {G : Nat → Option va_E} {h : List va_E} {b : Nat} {i : Nat → Int32} {ρ : Nat → Nat → Int32} (q : MdAt G h b i ρ) {a : Nat} (ha : 1 ≤ a ∧ a ≤ 10) (f : Nat → Int32) : MdAt G (h.set (b + a) (ar (mA a) f)) b i (rset ρ a f) := by
  obtain ⟨q0, q1, q2⟩ := q
  refine ⟨by rw [List.getElem?_set_ne (by omega)]; exact q0, fun a' ha' => ?_, fun j hj => by rw [List.getElem?_set_ne (by omega)]; exact q2 j hj⟩
  by_cases e : a' = a
  · subst e
    rw [rset_s]
    exact get_set (q1 _ ha)
  · rw [List.getElem?_set_ne (by omega), rset_n e]
    exact q1 a' ha'
theorem MdAt.obj {G : Nat → Option va_E} {h : List va_E} {b : Nat} {i : Nat → Int32} {ρ : Nat → Nat → Int32} (q : MdAt G h b i ρ) (i' : Nat → Int32) : MdAt G (h.set b (mdO b i')) b i' ρ := by
  obtain ⟨q0, q1, q2⟩ := q
  exact ⟨get_set q0, fun a ha => by rw [List.getElem?_set_ne (by omega)]; exact q1 a ha, fun j hj => by rw [List.getElem?_set_ne (by omega)]; exact q2 j hj⟩
section MG
variable {E : AEnv} {Y : MI} {d k n pc pc' idx : Nat} {ls : List (Option Value)} {st : List Value} {h : List va_E} {Ψ : Pst} {b : Nat} {i : Nat → Int32} {ρ : Nat → Nat → Int32} {G : Nat → Option va_E}
theorem go_ialdM {a N j : Nat} {f : Nat → Int32} (hd : Dc Y pc .iaload pc') (hg : h[a]? = some (ar N f)) (hk : j < N) (hN : N < 2 ^ 31) (K : Go E Y d k n pc' ls (.int (f j) :: st) h Ψ) : Go E Y d k n pc ls (.int (nI j) :: .ref a :: st) h Ψ := by
  refine go_iaload hd (Or.inl hg) (vp_in_nI hk hN) ?_
  rw [nI_cl (by omega)]
  exact K
theorem go_iastM {a j : Nat} {x : Int32} (hd : Dc Y pc .iastore pc') (hM : MdAt G h b i ρ) (ha : 1 ≤ a ∧ a ≤ 10) (hk : j < mA a) (K : ∀ h1, MdAt G h1 b i (rset ρ a (upd (ρ a) j x)) → Go E Y d k n pc' ls st h1 Ψ) : Go E Y d k n pc ls (.int x :: .int (nI j) :: .ref (b + a) :: st) h Ψ := by
  have hN : mA a < 2 ^ 31 := by
    unfold mA
    repeat' split
    all_goals decide
  refine go_iastore hd (hM.2.1 a ha) (vp_in_nI hk hN) ?_
  rw [nI_cl (by omega)]
  exact K _ (hM.row ha _)
/-- an int field of the model's object -/
theorem go_putM6 {kf s : Nat} {x : Int32} (hd : Dc Y pc (.putfield idx) pc') (hF : FLk Y.1.cls idx 6 kf) (hs : (kf = 3 ∧ s = 0) ∨ (kf = 7 ∧ s = 2) ∨ (kf = 8 ∧ s = 3) ∨ (kf = 14 ∧ s = 4)) (hM : MdAt G h b i ρ) (K : ∀ h1, MdAt G h1 b (upd i s x) ρ → Go E Y d k n pc' ls st h1 Ψ) : Go E Y d k n pc ls (.int x :: .ref b :: st) h Ψ := by
  rcases hs with ⟨rfl, rfl⟩ | ⟨rfl, rfl⟩ | ⟨rfl, rfl⟩ | ⟨rfl, rfl⟩
  · exact go_putfield hd hF rfl rfl hM.1 (Nat.le_of_ble_eq_true rfl) (fun w hw => by subst hw; exact ⟨rfl, rfl⟩) (K _ (hM.obj (upd i 0 x)))
  · exact go_putfield hd hF rfl rfl hM.1 (Nat.le_of_ble_eq_true rfl) (fun w hw => by subst hw; exact ⟨rfl, rfl⟩) (K _ (hM.obj (upd i 2 x)))
  · exact go_putfield hd hF rfl rfl hM.1 (Nat.le_of_ble_eq_true rfl) (fun w hw => by subst hw; exact ⟨rfl, rfl⟩) (K _ (hM.obj (upd i 3 x)))
  · exact go_putfield hd hF rfl rfl hM.1 (Nat.le_of_ble_eq_true rfl) (fun w hw => by subst hw; exact ⟨rfl, rfl⟩) (K _ (hM.obj (upd i 4 x)))
end MG
theorem bP_wi {x : Int32} {n : Nat} (h1 : 1 ≤ n) (h2 : n < 2 ^ 31) : bI (nI 0 ≤ x ∧ x ≤ nI (n - 1)) = bP (inR x n) := by
  have e : (nI 0 ≤ x ∧ x ≤ nI (n - 1)) ↔ inR x n := by
    have q := wi_in (z := x) (k := n - 1) (by omega)
    rw [show n - 1 + 1 = n by omega] at q
    exact q
  by_cases q : inR x n
  · rw [bP_t q, bI_t (e.mpr q)]
  · rw [bP_f q, bI_f (fun w => q (e.mp w))]
/-- the group of a cell, NONE for a global parity -/
def grI (g s c : Nat) : Int32 := if hcv g s c < g then nI (hcv g s c) else -5
theorem con_tab : (List.range 36).all (fun z => (List.range 21).all (fun n => decide (0 < n → ((-nI z) - (-nI z) / nI n * nI n + nI n) - ((-nI z) - (-nI z) / nI n * nI n + nI n) / nI n * nI n = nI ((40 * n - z) % n)))) = true := by decide +kernel
theorem sub_tab : (List.range 20).all (fun a => (List.range 36).all (fun z => decide (a < z → nI a - nI z = -nI (z - a)))) = true := by decide +kernel
theorem con_eq {a z n : Nat} (ha : a < 20) (hz : z < 36) (h0 : 0 < n) (hn : n < 21) : ((nI a - nI z) - (nI a - nI z) / nI n * nI n + nI n) - ((nI a - nI z) - (nI a - nI z) / nI n * nI n + nI n) / nI n * nI n = nI (con n a z) := by
  unfold con
  by_cases q : a < z
  · have e := of_decide_eq_true (List.all_eq_true.mp (List.all_eq_true.mp sub_tab a (List.mem_range.mpr ha)) z (List.mem_range.mpr hz)) q
    rw [e, of_decide_eq_true (List.all_eq_true.mp (List.all_eq_true.mp con_tab (z - a) (List.mem_range.mpr (by omega))) n (List.mem_range.mpr hn)) h0, show a + 40 * n - z = 40 * n - (z - a) by omega]
  · have hm : (a - z) % n < n := Nat.mod_lt _ h0
    rw [pk_sub (by omega), pk_rem (by omega) h0 (by omega), nI_add, pk_rem (by omega) h0 (by omega), Nat.add_mod_right, Nat.mod_mod, show a + 40 * n - z = a - z + n * 40 by omega, Nat.add_mul_mod_self_left]
theorem mod_or (M j : Nat) : M % 2 ^ (j + 1) = (if bit M j then M % 2 ^ j ||| 1 * 2 ^ j else M % 2 ^ j ||| 0) := by
  have q : bit M j ↔ M.testBit j = true := bit_tb
  by_cases e : bit M j
  · rw [if_pos e]
    apply Nat.eq_of_testBit_eq
    intro k
    rw [Nat.one_mul, Nat.testBit_or, Nat.testBit_mod_two_pow, Nat.testBit_mod_two_pow, Nat.testBit_two_pow]
    by_cases e1 : k = j
    · subst e1
      rw [q.mp e]
      simp
    · by_cases e2 : k < j
      · simp [e2, show k < j + 1 by omega, show ¬ j = k by omega]
      · simp [e2, show ¬ k < j + 1 by omega, show ¬ j = k by omega]
  · rw [if_neg e, Nat.or_zero]
    apply Nat.eq_of_testBit_eq
    intro k
    rw [Nat.testBit_mod_two_pow, Nat.testBit_mod_two_pow]
    have e0 : M.testBit j = false := by
      cases hq : M.testBit j with
      | true => exact absurd (q.mpr hq) e
      | false => rfl
    by_cases e1 : k = j
    · subst e1
      rw [e0]
      simp
    · by_cases e2 : k < j
      · simp [e2, show k < j + 1 by omega]
      · simp [e2, show ¬ k < j + 1 by omega]
section M6
variable {E : AEnv} {d : Nat} {h h' : List va_E} {b : Nat} {i : Nat → Int32} {ρ : Nat → Nat → Int32} {A : Ab} {G : Nat → Option va_E}
theorem m_product {x y : Nat} (hx : x < 16) (hy : y < 16) (hX : MX G h b i ρ A) : Calls E mX6_product d 0 0 [.ref b, .int (nI x), .int (nI y)] h (RX (nI (gm x y)) h) := by
  refine Calls.of (ls := [some (.ref b), some (.int (nI x)), some (.int (nI y))]) (by decide +kernel) rfl (Nat.le_of_ble_eq_true rfl) (cat_ok rfl) ?_
  have hM := hX.1
  have hTb := hX.2.1
  have hR := hX.2.2
  have hA := hR.1
  have hn := hA.1.nc
  have hT8 : aT A ≤ 8 := hA.1.2.2.2.2.2.2.1
  have hg4 : aG A ≤ 4 := hA.1.2.1
  have hs6 : aS A ≤ 6 := hA.1.2.2.2.1
  have hs2 : 2 ≤ aS A := hA.1.2.2.1
  have hg1 : 1 ≤ aG A := hA.1.1
  have hgs : aG A * aS A ≤ 15 := hA.1.2.2.2.2.1
  have hH5 : aH A ≤ 5 := hA.1.2.2.2.2.2.2.2
  have en : nc (aG A) (aS A) = aG A * aS A + aG A + 2 := rfl
  refine go_aload_0 (DX6_product.at 0 rfl) ?_
  refine go_getfield (DX6_product.at 1 rfl) fX6_28 hM.1 rfl ?_
  refine go_bipush (v := nI 16) (DX6_product.at 2 rfl) (by decide) ?_
  refine go_iload_1 (DX6_product.at 3 rfl) ?_
  refine go_imul (DX6_product.at 4 rfl) ?_
  rw [pk_mul]
  refine go_iload_2 (DX6_product.at 5 rfl) ?_
  refine go_iadd (DX6_product.at 6 rfl) ?_
  rw [nI_add]
  refine go_ialdM (DX6_product.at 7 rfl) (hM.2.1 7 (by decide)) (show 16 * x + y < 256 by omega) (by decide) ?_
  rw [hTb.1 x y hx hy]
  exact go_iret (DX6_product.at 8 rfl) rfl rfl (RX.mk rfl rfl)

theorem m_dataCells (hX : MX G h b i ρ A) : Calls E mX6_dataCells d 0 0 [.ref b] h (RX (nI (aG A * aS A)) h) := by
  refine Calls.of (ls := [some (.ref b)]) (by decide +kernel) rfl (Nat.le_of_ble_eq_true rfl) (cat_ok rfl) ?_
  have hM := hX.1
  have hTb := hX.2.1
  have hR := hX.2.2
  have hA := hR.1
  have hn := hA.1.nc
  have hT8 : aT A ≤ 8 := hA.1.2.2.2.2.2.2.1
  have hg4 : aG A ≤ 4 := hA.1.2.1
  have hs6 : aS A ≤ 6 := hA.1.2.2.2.1
  have hs2 : 2 ≤ aS A := hA.1.2.2.1
  have hg1 : 1 ≤ aG A := hA.1.1
  have hgs : aG A * aS A ≤ 15 := hA.1.2.2.2.2.1
  have hH5 : aH A ≤ 5 := hA.1.2.2.2.2.2.2.2
  have en : nc (aG A) (aS A) = aG A * aS A + aG A + 2 := rfl
  refine go_aload_0 (DX6_dataCells.at 0 rfl) ?_
  refine go_getfield (DX6_dataCells.at 1 rfl) fX6_7 hM.1 rfl ?_
  refine go_iconst (v := nI 0) (DX6_dataCells.at 2 rfl) (by decide) ?_
  refine go_ialdM (DX6_dataCells.at 3 rfl) (hM.2.1 1 (by decide)) (show 0 < 349 by decide) (by decide) ?_
  rw [show ρ 1 0 = nI (aG A) from hR.2.1.1]
  refine go_aload_0 (DX6_dataCells.at 4 rfl) ?_
  refine go_getfield (DX6_dataCells.at 5 rfl) fX6_7 hM.1 rfl ?_
  refine go_iconst (v := nI 1) (DX6_dataCells.at 6 rfl) (by decide) ?_
  refine go_ialdM (DX6_dataCells.at 7 rfl) (hM.2.1 1 (by decide)) (show 1 < 349 by decide) (by decide) ?_
  rw [show ρ 1 1 = nI (aS A) from hR.2.1.2.1]
  refine go_imul (DX6_dataCells.at 8 rfl) ?_
  rw [pk_mul]
  exact go_iret (DX6_dataCells.at 9 rfl) rfl rfl (RX.mk rfl rfl)

theorem m_cells (hX : MX G h b i ρ A) (hd : 1 ≤ d) : Calls E mX6_cells d 0 0 [.ref b] h (RX (nI (nc (aG A) (aS A))) h) := by
  refine Calls.of (ls := [some (.ref b)]) (by decide +kernel) rfl (Nat.le_of_ble_eq_true rfl) (cat_ok rfl) ?_
  have hM := hX.1
  have hTb := hX.2.1
  have hR := hX.2.2
  have hA := hR.1
  have hn := hA.1.nc
  have hT8 : aT A ≤ 8 := hA.1.2.2.2.2.2.2.1
  have hg4 : aG A ≤ 4 := hA.1.2.1
  have hs6 : aS A ≤ 6 := hA.1.2.2.2.1
  have hs2 : 2 ≤ aS A := hA.1.2.2.1
  have hg1 : 1 ≤ aG A := hA.1.1
  have hgs : aG A * aS A ≤ 15 := hA.1.2.2.2.2.1
  have hH5 : aH A ≤ 5 := hA.1.2.2.2.2.2.2.2
  have en : nc (aG A) (aS A) = aG A * aS A + aG A + 2 := rfl
  refine go_aload_0 (DX6_cells.at 0 rfl) ?_
  refine go_cVx0 (DX6_cells.at 1 rfl) nX6_47 vX6_dataCells (by omega) (m_dataCells hX) hM.1 rfl (Nat.le_of_ble_eq_true rfl) ?_
  refine go_aload_0 (DX6_cells.at 2 rfl) ?_
  refine go_getfield (DX6_cells.at 3 rfl) fX6_7 hM.1 rfl ?_
  refine go_iconst (v := nI 0) (DX6_cells.at 4 rfl) (by decide) ?_
  refine go_ialdM (DX6_cells.at 5 rfl) (hM.2.1 1 (by decide)) (show 0 < 349 by decide) (by decide) ?_
  rw [show ρ 1 0 = nI (aG A) from hR.2.1.1]
  refine go_iadd (DX6_cells.at 6 rfl) ?_
  rw [nI_add]
  refine go_iconst (v := nI 2) (DX6_cells.at 7 rfl) (by decide) ?_
  refine go_iadd (DX6_cells.at 8 rfl) ?_
  rw [nI_add]
  exact go_iret (DX6_cells.at 9 rfl) rfl rfl (RX.mk rfl rfl)

theorem m_isStripe {x : Int32} (hX : MX G h b i ρ A) (hd : 1 ≤ d) : Calls E mX6_isStripe d 0 0 [.ref b, .int x] h (RX (bP (inR x (aT A))) h) := by
  refine Calls.of (ls := [some (.ref b), some (.int x)]) (by decide +kernel) rfl (Nat.le_of_ble_eq_true rfl) (cat_ok rfl) ?_
  have hM := hX.1
  have hTb := hX.2.1
  have hR := hX.2.2
  have hA := hR.1
  have hn := hA.1.nc
  have hT8 : aT A ≤ 8 := hA.1.2.2.2.2.2.2.1
  have hg4 : aG A ≤ 4 := hA.1.2.1
  have hs6 : aS A ≤ 6 := hA.1.2.2.2.1
  have hs2 : 2 ≤ aS A := hA.1.2.2.1
  have hg1 : 1 ≤ aG A := hA.1.1
  have hgs : aG A * aS A ≤ 15 := hA.1.2.2.2.2.1
  have hH5 : aH A ≤ 5 := hA.1.2.2.2.2.2.2.2
  have en : nc (aG A) (aS A) = aG A * aS A + aG A + 2 := rfl
  refine go_iload_1 (DX6_isStripe.at 0 rfl) ?_
  refine go_iconst (v := nI 0) (DX6_isStripe.at 1 rfl) (by decide) ?_
  refine go_aload_0 (DX6_isStripe.at 2 rfl) ?_
  refine go_getfield (DX6_isStripe.at 3 rfl) fX6_7 hM.1 rfl ?_
  refine go_iconst (v := nI 2) (DX6_isStripe.at 4 rfl) (by decide) ?_
  refine go_ialdM (DX6_isStripe.at 5 rfl) (hM.2.1 1 (by decide)) (show 2 < 349 by decide) (by decide) ?_
  rw [show ρ 1 2 = nI (aT A) from hR.2.1.2.2.1]
  refine go_iconst (v := nI 1) (DX6_isStripe.at 6 rfl) (by decide) ?_
  refine go_isub (DX6_isStripe.at 7 rfl) ?_
  rw [pk_sub (by have := hA.1.2.2.2.2.2.1; omega)]
  refine go_cSx3 (DX6_isStripe.at 8 rfl) nX6_51 vX6_within (by omega) c_within (Nat.le_of_ble_eq_true rfl) ?_
  rw [bP_wi (by have := hA.1.2.2.2.2.2.1; omega) (by omega)]
  exact go_iret (DX6_isStripe.at 9 rfl) rfl bP_nar (RX.mk rfl rfl)

theorem m_isNode {x : Int32} (hX : MX G h b i ρ A) (hd : 2 ≤ d) : Calls E mX6_isNode d 0 0 [.ref b, .int x] h (RX (bP (inR x (nc (aG A) (aS A)))) h) := by
  refine Calls.of (ls := [some (.ref b), some (.int x)]) (by decide +kernel) rfl (Nat.le_of_ble_eq_true rfl) (cat_ok rfl) ?_
  have hM := hX.1
  have hTb := hX.2.1
  have hR := hX.2.2
  have hA := hR.1
  have hn := hA.1.nc
  have hT8 : aT A ≤ 8 := hA.1.2.2.2.2.2.2.1
  have hg4 : aG A ≤ 4 := hA.1.2.1
  have hs6 : aS A ≤ 6 := hA.1.2.2.2.1
  have hs2 : 2 ≤ aS A := hA.1.2.2.1
  have hg1 : 1 ≤ aG A := hA.1.1
  have hgs : aG A * aS A ≤ 15 := hA.1.2.2.2.2.1
  have hH5 : aH A ≤ 5 := hA.1.2.2.2.2.2.2.2
  have en : nc (aG A) (aS A) = aG A * aS A + aG A + 2 := rfl
  refine go_iload_1 (DX6_isNode.at 0 rfl) ?_
  refine go_iconst (v := nI 0) (DX6_isNode.at 1 rfl) (by decide) ?_
  refine go_aload_0 (DX6_isNode.at 2 rfl) ?_
  refine go_cVx0 (DX6_isNode.at 3 rfl) nX6_59 vX6_cells (by omega) (m_cells hX (by omega)) hM.1 rfl (Nat.le_of_ble_eq_true rfl) ?_
  refine go_iconst (v := nI 1) (DX6_isNode.at 4 rfl) (by decide) ?_
  refine go_isub (DX6_isNode.at 5 rfl) ?_
  rw [pk_sub (by omega)]
  refine go_cSx3 (DX6_isNode.at 6 rfl) nX6_51 vX6_within (by omega) c_within (Nat.le_of_ble_eq_true rfl) ?_
  rw [bP_wi (by omega) (by omega)]
  exact go_iret (DX6_isNode.at 7 rfl) rfl bP_nar (RX.mk rfl rfl)

theorem m_isCell {x y : Int32} (hX : MX G h b i ρ A) (hd : 2 ≤ d) : Calls E mX6_isCell d 0 0 [.ref b, .int x, .int y] h (RX (bP (inR x (aT A) ∧ inR y (nc (aG A) (aS A)))) h) := by
  refine Calls.of (ls := [some (.ref b), some (.int x), some (.int y)]) (by decide +kernel) rfl (Nat.le_of_ble_eq_true rfl) (cat_ok rfl) ?_
  have hM := hX.1
  have hTb := hX.2.1
  have hR := hX.2.2
  have hA := hR.1
  have hn := hA.1.nc
  have hT8 : aT A ≤ 8 := hA.1.2.2.2.2.2.2.1
  have hg4 : aG A ≤ 4 := hA.1.2.1
  have hs6 : aS A ≤ 6 := hA.1.2.2.2.1
  have hs2 : 2 ≤ aS A := hA.1.2.2.1
  have hg1 : 1 ≤ aG A := hA.1.1
  have hgs : aG A * aS A ≤ 15 := hA.1.2.2.2.2.1
  have hH5 : aH A ≤ 5 := hA.1.2.2.2.2.2.2.2
  have en : nc (aG A) (aS A) = aG A * aS A + aG A + 2 := rfl
  refine go_aload_0 (DX6_isCell.at 0 rfl) ?_
  refine go_iload_1 (DX6_isCell.at 1 rfl) ?_
  refine go_cVx1 (DX6_isCell.at 2 rfl) nX6_55 vX6_isStripe (by omega) (m_isStripe hX (by omega)) hM.1 rfl (Nat.le_of_ble_eq_true rfl) ?_
  refine go_if_eq 26 (DX6_isCell.at 3 rfl) (by decide) (fun c5 => ?_) (fun c5 => ?_)
  · rw [bP_eq0] at c5
    have e0 : bP (inR x (aT A) ∧ inR y (nc (aG A) (aS A))) = nI 0 := bP_f (fun q => c5 q.1)
    refine go_iconst (v := nI 0) (DX6_isCell.at 14 rfl) (by decide) ?_
    exact go_iret (DX6_isCell.at 15 rfl) rfl rfl (RX.mk e0.symm rfl)
  · rw [bP_eq0, Classical.not_not] at c5
    refine go_iload_2 (DX6_isCell.at 4 rfl) ?_
    refine go_iconst (v := nI 0) (DX6_isCell.at 5 rfl) (by decide) ?_
    refine go_aload_0 (DX6_isCell.at 6 rfl) ?_
    refine go_cVx0 (DX6_isCell.at 7 rfl) nX6_59 vX6_cells (by omega) (m_cells hX (by omega)) hM.1 rfl (Nat.le_of_ble_eq_true rfl) ?_
    refine go_iconst (v := nI 1) (DX6_isCell.at 8 rfl) (by decide) ?_
    refine go_isub (DX6_isCell.at 9 rfl) ?_
    rw [pk_sub (by omega)]
    refine go_cSx3 (DX6_isCell.at 10 rfl) nX6_51 vX6_within (by omega) c_within (Nat.le_of_ble_eq_true rfl) ?_
    rw [bP_wi (by omega) (by omega)]
    refine go_if_eq 26 (DX6_isCell.at 11 rfl) (by decide) (fun c19 => ?_) (fun c19 => ?_)
    · rw [bP_eq0] at c19
      have e0 : bP (inR x (aT A) ∧ inR y (nc (aG A) (aS A))) = nI 0 := bP_f (fun q => c19 q.2)
      refine go_iconst (v := nI 0) (DX6_isCell.at 14 rfl) (by decide) ?_
      exact go_iret (DX6_isCell.at 15 rfl) rfl rfl (RX.mk e0.symm rfl)
    · rw [bP_eq0, Classical.not_not] at c19
      have e0 : bP (inR x (aT A) ∧ inR y (nc (aG A) (aS A))) = nI 1 := bP_t ⟨c5, c19⟩
      refine go_iconst (v := nI 1) (DX6_isCell.at 12 rfl) (by decide) ?_
      refine go_goto 27 (DX6_isCell.at 13 rfl) (by decide) ?_
      exact go_iret (DX6_isCell.at 15 rfl) rfl rfl (RX.mk e0.symm rfl)

theorem m_groupOf {c : Nat} (hc : c < nc (aG A) (aS A)) (hX : MX G h b i ρ A) (hd : 1 ≤ d) : Calls E mX6_groupOf d 0 0 [.ref b, .int (nI c)] h (RX (grI (aG A) (aS A) c) h) := by
  refine Calls.of (ls := [some (.ref b), some (.int (nI c)), none]) (by decide +kernel) rfl (Nat.le_of_ble_eq_true rfl) (cat_ok rfl) ?_
  have hM := hX.1
  have hTb := hX.2.1
  have hR := hX.2.2
  have hA := hR.1
  have hn := hA.1.nc
  have hT8 : aT A ≤ 8 := hA.1.2.2.2.2.2.2.1
  have hg4 : aG A ≤ 4 := hA.1.2.1
  have hs6 : aS A ≤ 6 := hA.1.2.2.2.1
  have hs2 : 2 ≤ aS A := hA.1.2.2.1
  have hg1 : 1 ≤ aG A := hA.1.1
  have hgs : aG A * aS A ≤ 15 := hA.1.2.2.2.2.1
  have hH5 : aH A ≤ 5 := hA.1.2.2.2.2.2.2.2
  have en : nc (aG A) (aS A) = aG A * aS A + aG A + 2 := rfl
  refine go_aload_0 (DX6_groupOf.at 0 rfl) ?_
  refine go_cVx0 (DX6_groupOf.at 1 rfl) nX6_47 vX6_dataCells (by omega) (m_dataCells hX) hM.1 rfl (Nat.le_of_ble_eq_true rfl) ?_
  refine go_istore_2 (DX6_groupOf.at 2 rfl) ?_
  refine go_iload_1 (DX6_groupOf.at 3 rfl) ?_
  refine go_iload_2 (DX6_groupOf.at 4 rfl) ?_
  refine go_icmp_ge 21 (DX6_groupOf.at 5 rfl) (by decide) (fun c7 => ?_) (fun c7 => ?_)
  · rw [nI_leI (by omega) (by omega)] at c7
    have eh : hcv (aG A) (aS A) c = c - aG A * aS A := if_neg (by omega)
    refine go_iload_1 (DX6_groupOf.at 13 rfl) ?_
    refine go_iload_2 (DX6_groupOf.at 14 rfl) ?_
    refine go_aload_0 (DX6_groupOf.at 15 rfl) ?_
    refine go_getfield (DX6_groupOf.at 16 rfl) fX6_7 hM.1 rfl ?_
    refine go_iconst (v := nI 0) (DX6_groupOf.at 17 rfl) (by decide) ?_
    refine go_ialdM (DX6_groupOf.at 18 rfl) (hM.2.1 1 (by decide)) (show 0 < 349 by decide) (by decide) ?_
    rw [show ρ 1 0 = nI (aG A) from hR.2.1.1]
    refine go_iadd (DX6_groupOf.at 19 rfl) ?_
    rw [nI_add]
    refine go_icmp_ge 39 (DX6_groupOf.at 20 rfl) (by decide) (fun c30 => ?_) (fun c30 => ?_)
    · rw [nI_leI (by omega) (by omega)] at c30
      have e0 : grI (aG A) (aS A) c = -5 := by
        unfold grI
        rw [if_neg (by omega)]
      refine go_bipush (v := (-5)) (DX6_groupOf.at 25 rfl) (by decide) ?_
      exact go_iret (DX6_groupOf.at 26 rfl) rfl rfl (RX.mk e0.symm rfl)
    · rw [nI_leI (by omega) (by omega)] at c30
      have e0 : grI (aG A) (aS A) c = nI (c - aG A * aS A) := by
        unfold grI
        rw [if_pos (by omega), eh]
      refine go_iload_1 (DX6_groupOf.at 21 rfl) ?_
      refine go_iload_2 (DX6_groupOf.at 22 rfl) ?_
      refine go_isub (DX6_groupOf.at 23 rfl) ?_
      rw [pk_sub (by omega)]
      refine go_goto 41 (DX6_groupOf.at 24 rfl) (by decide) ?_
      exact go_iret (DX6_groupOf.at 26 rfl) rfl rfl (RX.mk e0.symm rfl)
  · rw [nI_leI (by omega) (by omega)] at c7
    have eh : hcv (aG A) (aS A) c = c / aS A := if_pos (by omega)
    have hl := hcv_ltg (g := aG A) (s := aS A) (c := c) (by omega)
    have e0 : grI (aG A) (aS A) c = nI (c / aS A) := by
      unfold grI
      rw [if_pos hl, eh]
    refine go_iload_1 (DX6_groupOf.at 6 rfl) ?_
    refine go_aload_0 (DX6_groupOf.at 7 rfl) ?_
    refine go_getfield (DX6_groupOf.at 8 rfl) fX6_7 hM.1 rfl ?_
    refine go_iconst (v := nI 1) (DX6_groupOf.at 9 rfl) (by decide) ?_
    refine go_ialdM (DX6_groupOf.at 10 rfl) (hM.2.1 1 (by decide)) (show 1 < 349 by decide) (by decide) ?_
    rw [show ρ 1 1 = nI (aS A) from hR.2.1.2.1]
    refine go_idiv (DX6_groupOf.at 11 rfl) (nI_ne0 (by omega) (by omega)) ?_
    rw [pk_div (by omega) (by omega) (by omega)]
    refine go_goto 41 (DX6_groupOf.at 12 rfl) (by decide) ?_
    exact go_iret (DX6_groupOf.at 26 rfl) rfl rfl (RX.mk e0.symm rfl)

theorem m_nodeOf {t c : Nat} (ht : t < 8) (hc : c < 20) (hX : MX G h b i ρ A) (hd : 2 ≤ d) : Calls E mX6_nodeOf d 0 0 [.ref b, .int (nI t), .int (nI c)] h (RX (nI ((c + t * aH A) % nc (aG A) (aS A))) h) := by
  refine Calls.of (ls := [some (.ref b), some (.int (nI t)), some (.int (nI c))]) (by decide +kernel) rfl (Nat.le_of_ble_eq_true rfl) (cat_ok rfl) ?_
  have hM := hX.1
  have hTb := hX.2.1
  have hR := hX.2.2
  have hA := hR.1
  have hn := hA.1.nc
  have hT8 : aT A ≤ 8 := hA.1.2.2.2.2.2.2.1
  have hg4 : aG A ≤ 4 := hA.1.2.1
  have hs6 : aS A ≤ 6 := hA.1.2.2.2.1
  have hs2 : 2 ≤ aS A := hA.1.2.2.1
  have hg1 : 1 ≤ aG A := hA.1.1
  have hgs : aG A * aS A ≤ 15 := hA.1.2.2.2.2.1
  have hH5 : aH A ≤ 5 := hA.1.2.2.2.2.2.2.2
  have en : nc (aG A) (aS A) = aG A * aS A + aG A + 2 := rfl
  refine go_iload_2 (DX6_nodeOf.at 0 rfl) ?_
  refine go_iload_1 (DX6_nodeOf.at 1 rfl) ?_
  refine go_aload_0 (DX6_nodeOf.at 2 rfl) ?_
  refine go_getfield (DX6_nodeOf.at 3 rfl) fX6_7 hM.1 rfl ?_
  refine go_iconst (v := nI 3) (DX6_nodeOf.at 4 rfl) (by decide) ?_
  refine go_ialdM (DX6_nodeOf.at 5 rfl) (hM.2.1 1 (by decide)) (show 3 < 349 by decide) (by decide) ?_
  rw [show ρ 1 3 = nI (aH A) from hR.2.1.2.2.2]
  refine go_imul (DX6_nodeOf.at 6 rfl) ?_
  rw [pk_mul]
  refine go_iadd (DX6_nodeOf.at 7 rfl) ?_
  rw [nI_add]
  refine go_aload_0 (DX6_nodeOf.at 8 rfl) ?_
  refine go_cVx0 (DX6_nodeOf.at 9 rfl) nX6_59 vX6_cells (by omega) (m_cells hX (by omega)) hM.1 rfl (Nat.le_of_ble_eq_true rfl) ?_
  refine go_irem (DX6_nodeOf.at 10 rfl) (nI_ne0 (by omega) (by omega)) ?_
  rw [pk_rem (by have := Nat.mul_le_mul (show t ≤ 7 by omega) hH5; omega) (by omega) (by omega)]
  exact go_iret (DX6_nodeOf.at 11 rfl) rfl rfl (RX.mk rfl rfl)

theorem m_cellOn {t nd : Nat} (ht : t < 8) (hc : nd < 20) (hX : MX G h b i ρ A) (hd : 2 ≤ d) : Calls E mX6_cellOn d 0 0 [.ref b, .int (nI nd), .int (nI t)] h (RX (nI (con (nc (aG A) (aS A)) nd (t * aH A))) h) := by
  refine Calls.of (ls := [some (.ref b), some (.int (nI nd)), some (.int (nI t)), none]) (by decide +kernel) rfl (Nat.le_of_ble_eq_true rfl) (cat_ok rfl) ?_
  have hM := hX.1
  have hTb := hX.2.1
  have hR := hX.2.2
  have hA := hR.1
  have hn := hA.1.nc
  have hT8 : aT A ≤ 8 := hA.1.2.2.2.2.2.2.1
  have hg4 : aG A ≤ 4 := hA.1.2.1
  have hs6 : aS A ≤ 6 := hA.1.2.2.2.1
  have hs2 : 2 ≤ aS A := hA.1.2.2.1
  have hg1 : 1 ≤ aG A := hA.1.1
  have hgs : aG A * aS A ≤ 15 := hA.1.2.2.2.2.1
  have hH5 : aH A ≤ 5 := hA.1.2.2.2.2.2.2.2
  have en : nc (aG A) (aS A) = aG A * aS A + aG A + 2 := rfl
  refine go_aload_0 (DX6_cellOn.at 0 rfl) ?_
  refine go_cVx0 (DX6_cellOn.at 1 rfl) nX6_59 vX6_cells (by omega) (m_cells hX (by omega)) hM.1 rfl (Nat.le_of_ble_eq_true rfl) ?_
  refine go_istore_3 (DX6_cellOn.at 2 rfl) ?_
  refine go_iload_1 (DX6_cellOn.at 3 rfl) ?_
  refine go_iload_2 (DX6_cellOn.at 4 rfl) ?_
  refine go_aload_0 (DX6_cellOn.at 5 rfl) ?_
  refine go_getfield (DX6_cellOn.at 6 rfl) fX6_7 hM.1 rfl ?_
  refine go_iconst (v := nI 3) (DX6_cellOn.at 7 rfl) (by decide) ?_
  refine go_ialdM (DX6_cellOn.at 8 rfl) (hM.2.1 1 (by decide)) (show 3 < 349 by decide) (by decide) ?_
  rw [show ρ 1 3 = nI (aH A) from hR.2.1.2.2.2]
  refine go_imul (DX6_cellOn.at 9 rfl) ?_
  rw [pk_mul]
  refine go_isub (DX6_cellOn.at 10 rfl) ?_
  refine go_iload_3 (DX6_cellOn.at 11 rfl) ?_
  refine go_irem (DX6_cellOn.at 12 rfl) (nI_ne0 (by omega) (by omega)) ?_
  refine go_iload_3 (DX6_cellOn.at 13 rfl) ?_
  refine go_iadd (DX6_cellOn.at 14 rfl) ?_
  refine go_iload_3 (DX6_cellOn.at 15 rfl) ?_
  refine go_irem (DX6_cellOn.at 16 rfl) (nI_ne0 (by omega) (by omega)) ?_
  rw [con_eq hc (by have := Nat.mul_le_mul (show t ≤ 7 by omega) hH5; omega) (by omega) (by omega)]
  exact go_iret (DX6_cellOn.at 17 rfl) rfl rfl (RX.mk rfl rfl)

theorem m_cellValue {t c : Nat} (hM : MdAt G h b i ρ) (ht : t < 8) (hc : c < 20) : Calls E mX6_cellValue d 0 0 [.ref b, .int (nI t), .int (nI c)] h (RX (ρ 1 (29 + 20 * t + c)) h) := by
  refine Calls.of (ls := [some (.ref b), some (.int (nI t)), some (.int (nI c))]) (by decide +kernel) rfl (Nat.le_of_ble_eq_true rfl) (cat_ok rfl) ?_
  refine go_aload_0 (DX6_cellValue.at 0 rfl) ?_
  refine go_getfield (DX6_cellValue.at 1 rfl) fX6_7 hM.1 rfl ?_
  refine go_bipush (v := nI 29) (DX6_cellValue.at 2 rfl) (by decide) ?_
  refine go_bipush (v := nI 20) (DX6_cellValue.at 3 rfl) (by decide) ?_
  refine go_iload_1 (DX6_cellValue.at 4 rfl) ?_
  refine go_imul (DX6_cellValue.at 5 rfl) ?_
  rw [pk_mul]
  refine go_iadd (DX6_cellValue.at 6 rfl) ?_
  rw [nI_add]
  refine go_iload_2 (DX6_cellValue.at 7 rfl) ?_
  refine go_iadd (DX6_cellValue.at 8 rfl) ?_
  rw [nI_add]
  refine go_ialdM (DX6_cellValue.at 9 rfl) (hM.2.1 1 (by decide)) (show 29 + 20 * t + c < 349 by omega) (by decide) ?_
  exact go_iret (DX6_cellValue.at 10 rfl) rfl rfl (RX.mk rfl rfl)
theorem m_setValue {t c : Nat} {x : Int32} (hM : MdAt G h b i ρ) (ht : t < 8) (hc : c < 20) : Calls E mX6_setValue d 0 0 [.ref b, .int (nI t), .int (nI c), .int x] h (RV (fun h' => MdAt G h' b i (rset ρ 1 (upd (ρ 1) (29 + 20 * t + c) x)))) := by
  refine Calls.of (ls := [some (.ref b), some (.int (nI t)), some (.int (nI c)), some (.int x)]) (by decide +kernel) rfl (Nat.le_of_ble_eq_true rfl) (cat_ok rfl) ?_
  refine go_aload_0 (DX6_setValue.at 0 rfl) ?_
  refine go_getfield (DX6_setValue.at 1 rfl) fX6_7 hM.1 rfl ?_
  refine go_bipush (v := nI 29) (DX6_setValue.at 2 rfl) (by decide) ?_
  refine go_bipush (v := nI 20) (DX6_setValue.at 3 rfl) (by decide) ?_
  refine go_iload_1 (DX6_setValue.at 4 rfl) ?_
  refine go_imul (DX6_setValue.at 5 rfl) ?_
  rw [pk_mul]
  refine go_iadd (DX6_setValue.at 6 rfl) ?_
  rw [nI_add]
  refine go_iload_2 (DX6_setValue.at 7 rfl) ?_
  refine go_iadd (DX6_setValue.at 8 rfl) ?_
  rw [nI_add]
  refine go_iload_3 (DX6_setValue.at 9 rfl) ?_
  refine go_iastM (DX6_setValue.at 10 rfl) hM (a := 1) (by decide) (show 29 + 20 * t + c < 349 by omega) (fun h14 q14 => ?_)
  exact go_return (DX6_setValue.at 11 rfl) rfl (RV.mk q14)
theorem m_isLost {t c : Nat} (ht : t < aT A) (hc : c < nc (aG A) (aS A)) (hX : MX G h b i ρ A) (hd : 1 ≤ d) : Calls E mX6_isLost d 0 0 [.ref b, .int (nI t), .int (nI c)] h (RX (bP (bit (aM A t) c)) h) := by
  refine Calls.of (ls := [some (.ref b), some (.int (nI t)), some (.int (nI c))]) (by decide +kernel) rfl (Nat.le_of_ble_eq_true rfl) (cat_ok rfl) ?_
  have hM := hX.1
  have hTb := hX.2.1
  have hR := hX.2.2
  have hA := hR.1
  have hn := hA.1.nc
  have hT8 : aT A ≤ 8 := hA.1.2.2.2.2.2.2.1
  have hg4 : aG A ≤ 4 := hA.1.2.1
  have hs6 : aS A ≤ 6 := hA.1.2.2.2.1
  have hs2 : 2 ≤ aS A := hA.1.2.2.1
  have hg1 : 1 ≤ aG A := hA.1.1
  have hgs : aG A * aS A ≤ 15 := hA.1.2.2.2.2.1
  have hH5 : aH A ≤ 5 := hA.1.2.2.2.2.2.2.2
  have en : nc (aG A) (aS A) = aG A * aS A + aG A + 2 := rfl
  refine go_aload_0 (DX6_isLost.at 0 rfl) ?_
  refine go_iload_1 (DX6_isLost.at 1 rfl) ?_
  refine go_iload_2 (DX6_isLost.at 2 rfl) ?_
  refine go_cVx2 (DX6_isLost.at 3 rfl) nX6_62 vX6_cellValue (by omega) (m_cellValue hM (by omega) (by omega)) hM.1 rfl (Nat.le_of_ble_eq_true rfl) ?_
  refine go_iconst (v := (-1)) (DX6_isLost.at 4 rfl) (by decide) ?_
  refine go_icmp_ne 14 (DX6_isLost.at 5 rfl) (by decide) (fun c7 => ?_) (fun c7 => ?_)
  · have e0 : bP (bit (aM A t) c) = nI 0 := bP_f (fun q => c7 (hR.2.2.2.2.2.1 t ht c hc q))
    refine go_iconst (v := nI 0) (DX6_isLost.at 8 rfl) (by decide) ?_
    exact go_iret (DX6_isLost.at 9 rfl) rfl rfl (RX.mk e0.symm rfl)
  · have e0 : bP (bit (aM A t) c) = nI 1 := bP_t (Classical.byContradiction fun q => by
      rw [hR.2.2.2.2.2.2.1 t ht c hc q] at c7
      exact nI_ne1 (by have := hA.2.2.1 t c; omega) c7)
    refine go_iconst (v := nI 1) (DX6_isLost.at 6 rfl) (by decide) ?_
    refine go_goto 15 (DX6_isLost.at 7 rfl) (by decide) ?_
    exact go_iret (DX6_isLost.at 9 rfl) rfl rfl (RX.mk e0.symm rfl)

theorem m_lostCells {t : Nat} (ht : t < aT A) (hX : MX G h b i ρ A) (hd : 2 ≤ d) : Calls E mX6_lostCells d 0 0 [.ref b, .int (nI t)] h (RX (nI (aM A t)) h) := by
  refine Calls.of (ls := [some (.ref b), some (.int (nI t)), none, none]) (by decide +kernel) rfl (Nat.le_of_ble_eq_true rfl) (cat_ok rfl) ?_
  have hM := hX.1
  have hTb := hX.2.1
  have hR := hX.2.2
  have hA := hR.1
  have hn := hA.1.nc
  have hT8 : aT A ≤ 8 := hA.1.2.2.2.2.2.2.1
  have hg4 : aG A ≤ 4 := hA.1.2.1
  have hs6 : aS A ≤ 6 := hA.1.2.2.2.1
  have hs2 : 2 ≤ aS A := hA.1.2.2.1
  have hg1 : 1 ≤ aG A := hA.1.1
  have hgs : aG A * aS A ≤ 15 := hA.1.2.2.2.2.1
  have hH5 : aH A ≤ 5 := hA.1.2.2.2.2.2.2.2
  have en : nc (aG A) (aS A) = aG A * aS A + aG A + 2 := rfl
  have loop : ∀ (m j : Nat), j + m = nc (aG A) (aS A) → Go E mX6_lostCells d 0 0 4 [some (.ref b), some (.int (nI t)), some (.int (nI (aM A t % 2 ^ j))), some (.int (nI j))] [] h (RX (nI (aM A t)) h) := by
    intro m
    induction m with
    | zero =>
      intro j hj
      obtain rfl : j = nc (aG A) (aS A) := by omega
      rw [Nat.mod_eq_of_lt (hA.2.1 t ht)]
      refine go_iload_3 (DX6_lostCells.at 4 rfl) ?_
      refine go_aload_0 (DX6_lostCells.at 5 rfl) ?_
      refine go_cVx0 (DX6_lostCells.at 6 rfl) nX6_59 vX6_cells (by omega) (m_cells hX (by omega)) hM.1 rfl (Nat.le_of_ble_eq_true rfl) ?_
      refine go_icmp_ge 37 (DX6_lostCells.at 7 rfl) (by decide) (fun c9 => ?_) (fun c9 => absurd (Int32.le_refl _) c9)
      refine go_iload_2 (DX6_lostCells.at 23 rfl) ?_
      exact go_iret (DX6_lostCells.at 24 rfl) rfl rfl (RX.mk rfl rfl)
    | succ m ih =>
      intro j hj
      refine go_iload_3 (DX6_lostCells.at 4 rfl) ?_
      refine go_aload_0 (DX6_lostCells.at 5 rfl) ?_
      refine go_cVx0 (DX6_lostCells.at 6 rfl) nX6_59 vX6_cells (by omega) (m_cells hX (by omega)) hM.1 rfl (Nat.le_of_ble_eq_true rfl) ?_
      refine go_icmp_ge 37 (DX6_lostCells.at 7 rfl) (by decide) (fun c9 => absurd c9 (nI_ge (by omega) (by omega))) (fun c9 => ?_)
      refine go_iload_2 (DX6_lostCells.at 8 rfl) ?_
      refine go_aload_0 (DX6_lostCells.at 9 rfl) ?_
      refine go_iload_1 (DX6_lostCells.at 10 rfl) ?_
      refine go_iload_3 (DX6_lostCells.at 11 rfl) ?_
      refine go_cVx2 (DX6_lostCells.at 12 rfl) nX6_65 vX6_isLost (by omega) (m_isLost ht (by omega) hX (by omega)) hM.1 rfl (Nat.le_of_ble_eq_true rfl) ?_
      refine go_if_eq 28 (DX6_lostCells.at 13 rfl) (by decide) (fun c19 => ?_) (fun c19 => ?_)
      · rw [bP_eq0] at c19
        refine go_iconst (v := nI 0) (DX6_lostCells.at 18 rfl) (by decide) ?_
        refine go_ior (DX6_lostCells.at 19 rfl) ?_
        rw [nx_or]
        refine go_istore_2 (DX6_lostCells.at 20 rfl) ?_
        refine go_iincN_3 (DX6_lostCells.at 21 rfl) ?_
        refine go_goto 4 (DX6_lostCells.at 22 rfl) (by decide) ?_
        have K := ih (j + 1) (by omega)
        rw [mod_or] at K
        first | (rw [if_pos c19] at K; exact K) | (rw [if_neg c19] at K; exact K)
      · rw [bP_eq0, Classical.not_not] at c19
        refine go_iconst (v := nI 1) (DX6_lostCells.at 14 rfl) (by decide) ?_
        refine go_iload_3 (DX6_lostCells.at 15 rfl) ?_
        refine go_ishl (DX6_lostCells.at 16 rfl) ?_
        rw [nx_shlW 1 (by omega)]
        refine go_goto 29 (DX6_lostCells.at 17 rfl) (by decide) ?_
        refine go_ior (DX6_lostCells.at 19 rfl) ?_
        rw [nx_or]
        refine go_istore_2 (DX6_lostCells.at 20 rfl) ?_
        refine go_iincN_3 (DX6_lostCells.at 21 rfl) ?_
        refine go_goto 4 (DX6_lostCells.at 22 rfl) (by decide) ?_
        have K := ih (j + 1) (by omega)
        rw [mod_or] at K
        first | (rw [if_pos c19] at K; exact K) | (rw [if_neg c19] at K; exact K)
  refine go_iconst (v := nI 0) (DX6_lostCells.at 0 rfl) (by decide) ?_
  rw [show nI 0 = nI (aM A t % 2 ^ 0) from by rw [Nat.pow_zero, Nat.mod_one]]
  refine go_istore_2 (DX6_lostCells.at 1 rfl) ?_
  refine go_iconst (v := nI 0) (DX6_lostCells.at 2 rfl) (by decide) ?_
  refine go_istore_3 (DX6_lostCells.at 3 rfl) ?_
  exact loop (nc (aG A) (aS A)) 0 (Nat.zero_add _)

end M6
