/-! A STATE: sums, parities, losing, mending, reading, copying -/
theorem rset_id {σ : Rows} {a : Nat} : rset σ a (σ a) = σ := by
  funext i
  unfold rset
  split
  · rename_i q; rw [q]
  · rfl
theorem LayX.of0 {σ σ' : Rows} {g s T sh : Nat} (hL : LayX σ g s T sh) (h : ∀ k, k < 4 → σ' 0 k = σ 0 k) : LayX σ' g s T sh := ⟨(h 0 (by decide)).trans hL.1, (h 1 (by decide)).trans hL.2.1, (h 2 (by decide)).trans hL.2.2.1, (h 3 (by decide)).trans hL.2.2.2.1, hL.2.2.2.2⟩
/-- what the cells of a set M add to the checks: C c the factors of the cell c, V c its value -/
def vsum (C : Nat → Nat → Nat) (V : Nat → Nat) (M : Nat) : Nat → Nat → Nat
  | 0, _ => 0
  | j + 1, i => vsum C V M j i ^^^ (if M / 2 ^ j % 2 = 1 then gm (C j i) (V j) else 0)
theorem vsum_lt {C : Nat → Nat → Nat} {V : Nat → Nat} {M n : Nat} (hC : ∀ c, c < n → ∀ i, i < 6 → C c i < 16) (hV : ∀ c, c < n → M / 2 ^ c % 2 = 1 → V c < 16) : ∀ j, j ≤ n → ∀ i, i < 6 → vsum C V M j i < 16
  | 0, _, i, _ => by show 0 < 16; decide
  | j + 1, hj, i, hi => by
    unfold vsum
    refine xor_lt (vsum_lt hC hV j (by omega) i hi) ?_
    split
    · rename_i q
      exact gm_lt (hC j (by omega) i hi) (hV j (by omega) q)
    · decide
/-- the columns of a State's layout -/
def ColX (σ : Rows) (n : Nat) (C : Nat → Nat → Nat) : Prop := ∀ c, c < n → σ 5 c = nI (pq 6 (C c)) ∧ ∀ i, i < 6 → C c i < 16
def addp (f : Nat → Int32) (p : Nat) (w : Nat → Nat) : Nat → Nat → Int32
  | 0 => f
  | j + 1 => upd (addp f p w j) (p + j) (addp f p w j (p + j) ^^^ nI (w j))
def clr (M c : Nat) : Nat := M &&& (2 ^ c ^^^ 4294967295)
def rdl (f : Nat → Int32) (M : Nat) (nd : Nat → Nat) : Nat → Nat → Int32
  | 0 => f
  | j + 1 => if M / 2 ^ j % 2 = 1 then upd (rdl f M nd j) (nd j) (rdl f M nd j (nd j) + 1) else rdl f M nd j
def rdc (x : Int32) (M : Nat) : Nat → Int32
  | 0 => x
  | j + 1 => if M / 2 ^ j % 2 = 1 then rdc x M j + 1 else rdc x M j
/-- the same ints and rows, as far as they go -/
def REq (σ σ' : Rows) : Prop := (∀ k, k < 9 → σ 0 k = σ' 0 k) ∧ ∀ a, 1 ≤ a → a ≤ 5 → ∀ j, j < nA a → σ a j = σ' a j
section SW
variable {E : AEnv} {d : Nat} {h : List va_E} {b : Nat} {σ : Rows} {g s T sh : Nat}
theorem c_sumsOver (hS : StAt h b σ) (hL : LayX σ g s T sh) {t M : Nat} {C : Nat → Nat → Nat} {V : Nat → Nat} (hC : ColX σ (nc g s) C) (ht : t < 8) (hM : M < 2 ^ 31) (hV : ∀ c, c < nc g s → M / 2 ^ c % 2 = 1 → σ 2 (t * 20 + c) = nI (V c) ∧ V c < 16) (hd : 2 ≤ d) : Calls E mX4_sumsOver d 0 0 [.ref b, .int (nI t), .int (nI M)] h (RX (nI (pq 6 (vsum C V M (nc g s)))) h) := by
  refine Calls.of (ls := [some (.ref b), some (.int (nI t)), some (.int (nI M)), none, none]) (by decide +kernel) rfl (Nat.le_of_ble_eq_true rfl) (cat_ok rfl) ?_
  have loop : ∀ (m j : Nat), j + m = nc g s → Go E mX4_sumsOver d 0 0 5 [some (.ref b), some (.int (nI t)), some (.int (nI M)), some (.int (nI (pq 6 (vsum C V M j)))), some (.int (nI j))] [] h (RX (nI (pq 6 (vsum C V M (nc g s)))) h) := by
    intro m
    induction m with
    | zero =>
      intro j hj
      have ej : j = nc g s := by omega
      subst ej
      refine go_iload_4 (DX4_sumsOver.at 4 rfl) ?_
      refine go_aload_0 (DX4_sumsOver.at 5 rfl) ?_
      refine go_cVx0 (DX4_sumsOver.at 6 rfl) nX4_69 vX4_cellCount (by omega) (c_cellCount hS hL) hS.1 rfl (Nat.le_of_ble_eq_true rfl) ?_
      refine go_icmp_ge 48 (DX4_sumsOver.at 7 rfl) (by decide) (fun c11 => ?_) (fun c11 => absurd (Int32.le_refl _) c11)
      refine go_iload_3 (DX4_sumsOver.at 27 rfl) ?_
      exact go_iret (DX4_sumsOver.at 28 rfl) rfl rfl (RX.mk rfl rfl)
    | succ m ih =>
      intro j hj
      refine go_iload_4 (DX4_sumsOver.at 4 rfl) ?_
      refine go_aload_0 (DX4_sumsOver.at 5 rfl) ?_
      refine go_cVx0 (DX4_sumsOver.at 6 rfl) nX4_69 vX4_cellCount (by omega) (c_cellCount hS hL) hS.1 rfl (Nat.le_of_ble_eq_true rfl) ?_
      refine go_icmp_ge 48 (DX4_sumsOver.at 7 rfl) (by decide) (fun c11 => absurd c11 (nI_ge (a := j) (b := nc g s) (by omega) (by have := hL.2.2.2.2.nc; omega))) (fun c11 => ?_)
      refine go_iload_2 (DX4_sumsOver.at 8 rfl) ?_
      refine go_iload_4 (DX4_sumsOver.at 9 rfl) ?_
      refine go_ishr (DX4_sumsOver.at 10 rfl) ?_
      refine go_iconst (v := nI 1) (DX4_sumsOver.at 11 rfl) (by decide) ?_
      refine go_iand (DX4_sumsOver.at 12 rfl) ?_
      refine go_if_eq 42 (DX4_sumsOver.at 13 rfl) (by decide) (fun c20 => ?_) (fun c20 => ?_)
      · rw [nx_bit hM (by have := hL.2.2.2.2.nc; omega), nI_eq0 (by omega)] at c20
        have ep : vsum C V M j = vsum C V M (j + 1) := by
          funext i
          show _ = vsum C V M j i ^^^ (if M / 2 ^ j % 2 = 1 then gm (C j i) (V j) else 0)
          rw [if_neg (by omega), Nat.xor_zero]
        rw [ep]
        refine go_iincN_4 (DX4_sumsOver.at 25 rfl) ?_
        refine go_goto 5 (DX4_sumsOver.at 26 rfl) (by decide) ?_
        exact ih (j + 1) (by omega)
      · rw [nx_bit hM (by have := hL.2.2.2.2.nc; omega), nI_eq0 (by omega)] at c20
        have c20 : M / 2 ^ j % 2 = 1 := by omega
        have ep : nI (pq 6 (vsum C V M j)) ^^^ nI (pq 6 (fun i => gm (C j i) (V j))) = nI (pq 6 (vsum C V M (j + 1))) := by
          rw [nx_xor, pq_xor 6 _ _ (vsum_lt (fun c hc => (hC c hc).2) (fun c hc hb => (hV c hc hb).2) j (by omega)) (fun i hi => gm_lt ((hC j (by omega)).2 i hi) (hV j (by omega) c20).2)]
          congr 2
          funext i
          show _ = vsum C V M j i ^^^ (if M / 2 ^ j % 2 = 1 then gm (C j i) (V j) else 0)
          rw [if_pos c20]
        refine go_iload_3 (DX4_sumsOver.at 14 rfl) ?_
        refine go_aload_0 (DX4_sumsOver.at 15 rfl) ?_
        refine go_iload_4 (DX4_sumsOver.at 16 rfl) ?_
        refine go_cVx1 (DX4_sumsOver.at 17 rfl) nX4_120 vX4_columnOf (by omega) (c_columnOf hS (show j < 20 from (by have := hL.2.2.2.2.nc; omega)) (by omega)) hS.1 rfl (Nat.le_of_ble_eq_true rfl) ?_
        rw [(hC j (by omega)).1]
        refine go_aload_0 (DX4_sumsOver.at 18 rfl) ?_
        refine go_iload_1 (DX4_sumsOver.at 19 rfl) ?_
        refine go_iload_4 (DX4_sumsOver.at 20 rfl) ?_
        refine go_cVx2 (DX4_sumsOver.at 21 rfl) nX4_107 vX4_valueOf (by omega) (c_valueOf hS ht (show j < 20 from (by have := hL.2.2.2.2.nc; omega)) (by omega)) hS.1 rfl (Nat.le_of_ble_eq_true rfl) ?_
        rw [(hV j (by omega) c20).1]
        refine go_cSx2 (DX4_sumsOver.at 22 rfl) nX4_123 vX5_scaled (by omega) (c_scaled (hC j (by omega)).2 (hV j (by omega) c20).2) (Nat.le_of_ble_eq_true rfl) ?_
        refine go_ixor (DX4_sumsOver.at 23 rfl) ?_
        rw [ep]
        refine go_istore_3 (DX4_sumsOver.at 24 rfl) ?_
        refine go_iincN_4 (DX4_sumsOver.at 25 rfl) ?_
        refine go_goto 5 (DX4_sumsOver.at 26 rfl) (by decide) ?_
        exact ih (j + 1) (by omega)
  refine go_iconst (v := nI 0) (DX4_sumsOver.at 0 rfl) (by decide) ?_
  refine go_istore_3 (DX4_sumsOver.at 1 rfl) ?_
  rw [show nI 0 = nI (pq 6 (vsum C V M 0)) from congrArg nI (pq_0 6).symm]
  refine go_iconst (v := nI 0) (DX4_sumsOver.at 2 rfl) (by decide) ?_
  refine go_istore_4 (DX4_sumsOver.at 3 rfl) ?_
  exact loop (nc g s) 0 (by omega)

theorem c_addToParities (hS : StAt h b σ) (hL : LayX σ g s T sh) {t : Nat} {w : Nat → Nat} (hw : ∀ i, i < 6 → w i < 16) (ht : t < 8) (hd : 2 ≤ d) : Calls E mX4_addToParities d 0 0 [.ref b, .int (nI t), .int (nI (pq 6 w))] h (RV (StU h b (rset σ 2 (addp (σ 2) (t * 20 + g * s) w (g + 2))))) := by
  refine Calls.of (ls := [some (.ref b), some (.int (nI t)), some (.int (nI (pq 6 w))), none, none]) (by decide +kernel) rfl (Nat.le_of_ble_eq_true rfl) (cat_ok rfl) ?_
  have loop : ∀ (m j : Nat) (h1 : List va_E) (x4 : Option Value), j + m = g + 2 → StU h b (rset σ 2 (addp (σ 2) (t * 20 + g * s) w j)) h1 → Go E mX4_addToParities d 0 0 2 [some (.ref b), some (.int (nI t)), some (.int (nI (pq 6 w))), some (.int (nI j)), x4] [] h1 (RV (StU h b (rset σ 2 (addp (σ 2) (t * 20 + g * s) w (g + 2))))) := by
    intro m
    induction m with
    | zero =>
      intro j h1 x4 hj u
      have ej : j = g + 2 := by omega
      subst ej
      refine go_iload_3 (DX4_addToParities.at 2 rfl) ?_
      refine go_aload_0 (DX4_addToParities.at 3 rfl) ?_
      refine go_getfield (DX4_addToParities.at 4 rfl) fX4_9 u.1.1 rfl ?_
      rw [show rset σ 2 (addp (σ 2) (t * 20 + g * s) w (g + 2)) 0 0 = nI g from hL.1]
      refine go_iconst (v := nI 2) (DX4_addToParities.at 5 rfl) (by decide) ?_
      refine go_iadd (DX4_addToParities.at 6 rfl) ?_
      rw [nI_add]
      refine go_icmp_ge 46 (DX4_addToParities.at 7 rfl) (by decide) (fun c9 => ?_) (fun c9 => absurd (Int32.le_refl _) c9)
      exact go_return (DX4_addToParities.at 27 rfl) rfl (RV.mk u)
    | succ m ih =>
      intro j h1 x4 hj u
      refine go_iload_3 (DX4_addToParities.at 2 rfl) ?_
      refine go_aload_0 (DX4_addToParities.at 3 rfl) ?_
      refine go_getfield (DX4_addToParities.at 4 rfl) fX4_9 u.1.1 rfl ?_
      rw [show rset σ 2 (addp (σ 2) (t * 20 + g * s) w j) 0 0 = nI g from hL.1]
      refine go_iconst (v := nI 2) (DX4_addToParities.at 5 rfl) (by decide) ?_
      refine go_iadd (DX4_addToParities.at 6 rfl) ?_
      rw [nI_add]
      refine go_icmp_ge 46 (DX4_addToParities.at 7 rfl) (by decide) (fun c9 => absurd c9 (nI_ge (a := j) (b := g + 2) (by omega) (by have := hL.2.2.2.2.nc; unfold nc at this; omega))) (fun c9 => ?_)
      refine go_aload_0 (DX4_addToParities.at 8 rfl) ?_
      refine go_cVx0 (DX4_addToParities.at 9 rfl) nX4_81 vX4_dataCount (by omega) (c_dataCount u.1 (hL.of0 (fun _ _ => rfl))) u.1.1 rfl (Nat.le_of_ble_eq_true rfl) ?_
      refine go_iload_3 (DX4_addToParities.at 10 rfl) ?_
      refine go_iadd (DX4_addToParities.at 11 rfl) ?_
      rw [nI_add]
      refine go_istore_4 (DX4_addToParities.at 12 rfl) ?_
      refine go_aload_0 (DX4_addToParities.at 13 rfl) ?_
      refine go_iload_1 (DX4_addToParities.at 14 rfl) ?_
      refine go_iload_4 (DX4_addToParities.at 15 rfl) ?_
      refine go_aload_0 (DX4_addToParities.at 16 rfl) ?_
      refine go_iload_1 (DX4_addToParities.at 17 rfl) ?_
      refine go_iload_4 (DX4_addToParities.at 18 rfl) ?_
      refine go_cVx2 (DX4_addToParities.at 19 rfl) nX4_107 vX4_valueOf (by omega) (c_valueOf u.1 ht (show g * s + j < 20 from (by have := hL.2.2.2.2.nc; unfold nc at this; omega)) (by omega)) u.1.1 rfl (Nat.le_of_ble_eq_true rfl) ?_
      refine go_iload_2 (DX4_addToParities.at 20 rfl) ?_
      refine go_iload_3 (DX4_addToParities.at 21 rfl) ?_
      refine go_cSx2 (DX4_addToParities.at 22 rfl) nX4_110 vX5_element (by omega) (c_element hw (show j < 6 by have := hL.2.2.2.2.2.1; omega)) (Nat.le_of_ble_eq_true rfl) ?_
      refine go_ixor (DX4_addToParities.at 23 rfl) ?_
      refine go_cVv3 (DX4_addToParities.at 24 rfl) nX4_113 vX4_setValue (by omega) (c_setValue u.1 ht (show g * s + j < 20 from (by have := hL.2.2.2.2.nc; unfold nc at this; omega)) (by omega)) u.1.1 rfl (Nat.le_of_ble_eq_true rfl) (fun h37 q37 => ?_)
      rw [rset_rset] at q37
      rw [show t * 20 + (g * s + j) = t * 20 + g * s + j from (Nat.add_assoc _ _ _).symm] at q37
      refine go_iincN_3 (DX4_addToParities.at 25 rfl) ?_
      refine go_goto 2 (DX4_addToParities.at 26 rfl) (by decide) ?_
      exact ih (j + 1) h37 _ (by omega) (u.then q37)
  refine go_iconst (v := nI 0) (DX4_addToParities.at 0 rfl) (by decide) ?_
  refine go_istore_3 (DX4_addToParities.at 1 rfl) ?_
  exact loop (g + 2) 0 h _ (by omega) ⟨by rw [show addp (σ 2) (t * 20 + g * s) w 0 = σ 2 from rfl, rset_id]; exact hS, Only.rf⟩

theorem c_takeAway (hS : StAt h b σ) {t c M q : Nat} (ht : t < 8) (hc : c < 20) (hM : σ 3 t = nI M) (hq : σ 0 8 = nI q) (hq2 : q < 160) (hd : 2 ≤ d) : Calls E mX4_takeAway d 0 0 [.ref b, .int (nI t), .int (nI c)] h (RV (StU h b (rset (rset (rset σ 3 (upd (σ 3) t (nI (M ||| 2 ^ c)))) 1 (upd (σ 1) q (nI (100 * t + c)))) 0 (upd (upd (σ 0) 8 (nI (q + 1))) 7 (σ 0 7 + 1))))) := by
  refine Calls.of (ls := [some (.ref b), some (.int (nI t)), some (.int (nI c))]) (by decide +kernel) rfl (Nat.le_of_ble_eq_true rfl) (cat_ok rfl) ?_
  refine go_aload_0 (DX4_takeAway.at 0 rfl) ?_
  refine go_getfield (DX4_takeAway.at 1 rfl) fX4_46 hS.1 rfl ?_
  refine go_iload_1 (DX4_takeAway.at 2 rfl) ?_
  refine go_aload_0 (DX4_takeAway.at 3 rfl) ?_
  refine go_iload_1 (DX4_takeAway.at 4 rfl) ?_
  refine go_cVx1 (DX4_takeAway.at 5 rfl) nX4_117 vX4_missingIn (by omega) (c_missingIn hS ht (by omega)) hS.1 rfl (Nat.le_of_ble_eq_true rfl) ?_
  rw [hM]
  refine go_iconst (v := nI 1) (DX4_takeAway.at 6 rfl) (by decide) ?_
  refine go_iload_2 (DX4_takeAway.at 7 rfl) ?_
  refine go_ishl (DX4_takeAway.at 8 rfl) ?_
  rw [nx_shlW _ (by omega), Nat.one_mul]
  refine go_ior (DX4_takeAway.at 9 rfl) ?_
  rw [nx_or]
  refine go_cSv3 (DX4_takeAway.at 10 rfl) nX4_77 vX5_put (by omega) (c_putSt hS (a := 3) (by decide) (show t < 8 from ht)) (Nat.le_of_ble_eq_true rfl) (fun h14 q14 => ?_)
  refine go_aload_0 (DX4_takeAway.at 11 rfl) ?_
  refine go_bipush (v := nI 100) (DX4_takeAway.at 12 rfl) (by decide) ?_
  refine go_iload_1 (DX4_takeAway.at 13 rfl) ?_
  refine go_imul (DX4_takeAway.at 14 rfl) ?_
  rw [pk_mul]
  refine go_iload_2 (DX4_takeAway.at 15 rfl) ?_
  refine go_iadd (DX4_takeAway.at 16 rfl) ?_
  rw [nI_add]
  refine go_cVv1 (DX4_takeAway.at 17 rfl) nX4_129 vX4_joinQueue (by omega) (c_joinQueue q14.1 hq hq2 (by omega)) q14.1.1 rfl (Nat.le_of_ble_eq_true rfl) (fun h24 q24 => ?_)
  refine go_aload_0 (DX4_takeAway.at 18 rfl) ?_
  refine go_dup (DX4_takeAway.at 19 rfl) rfl ?_
  refine go_getfield (DX4_takeAway.at 20 rfl) fX4_33 q24.1.1 rfl ?_
  refine go_iconst (v := nI 1) (DX4_takeAway.at 21 rfl) (by decide) ?_
  refine go_iadd (DX4_takeAway.at 22 rfl) ?_
  refine go_putSt (DX4_takeAway.at 23 rfl) fX4_33 (by decide) q24.1 (fun h34 q34 => ?_)
  exact go_return (DX4_takeAway.at 24 rfl) rfl (RV.mk (by have q := q14.then (q24.then q34); rw [rset_rset] at q; exact q))

theorem m1_nI : (-1 : Int32) = nI 4294967295 := by decide
theorem c_bringBack (hS : StAt h b σ) {t c M p q : Nat} {x : Int32} (ht : t < 8) (hc : c < 20) (hM : σ 3 t = nI M) (hq : σ 0 8 = nI q) (hq2 : q ≤ 160) (hp : p < q) (he : σ 1 p = nI (100 * t + c)) (hne : ∀ j, j < p → ¬ σ 1 j = nI (100 * t + c)) (hd : 2 ≤ d) : Calls E mX4_bringBack d 0 0 [.ref b, .int (nI t), .int (nI c), .int x] h (RV (StU h b (rset (rset (rset (rset σ 3 (upd (σ 3) t (nI (clr M c)))) 2 (upd (σ 2) (t * 20 + c) x)) 1 (shf (σ 1) p q)) 0 (upd (σ 0) 8 (nI (q - 1)))))) := by
  refine Calls.of (ls := [some (.ref b), some (.int (nI t)), some (.int (nI c)), some (.int x)]) (by decide +kernel) rfl (Nat.le_of_ble_eq_true rfl) (cat_ok rfl) ?_
  refine go_aload_0 (DX4_bringBack.at 0 rfl) ?_
  refine go_getfield (DX4_bringBack.at 1 rfl) fX4_46 hS.1 rfl ?_
  refine go_iload_1 (DX4_bringBack.at 2 rfl) ?_
  refine go_aload_0 (DX4_bringBack.at 3 rfl) ?_
  refine go_iload_1 (DX4_bringBack.at 4 rfl) ?_
  refine go_cVx1 (DX4_bringBack.at 5 rfl) nX4_117 vX4_missingIn (by omega) (c_missingIn hS ht (by omega)) hS.1 rfl (Nat.le_of_ble_eq_true rfl) ?_
  rw [hM]
  refine go_iconst (v := nI 1) (DX4_bringBack.at 6 rfl) (by decide) ?_
  refine go_iload_2 (DX4_bringBack.at 7 rfl) ?_
  refine go_ishl (DX4_bringBack.at 8 rfl) ?_
  rw [nx_shlW _ (by omega), Nat.one_mul]
  refine go_iconst (v := (-1)) (DX4_bringBack.at 9 rfl) (by decide) ?_
  refine go_ixor (DX4_bringBack.at 10 rfl) ?_
  rw [m1_nI, nx_xor]
  refine go_iand (DX4_bringBack.at 11 rfl) ?_
  rw [nx_and]
  refine go_cSv3 (DX4_bringBack.at 12 rfl) nX4_77 vX5_put (by omega) (c_putSt hS (a := 3) (by decide) (show t < 8 from ht)) (Nat.le_of_ble_eq_true rfl) (fun h16 q16 => ?_)
  refine go_aload_0 (DX4_bringBack.at 13 rfl) ?_
  refine go_iload_1 (DX4_bringBack.at 14 rfl) ?_
  refine go_iload_2 (DX4_bringBack.at 15 rfl) ?_
  refine go_iload_3 (DX4_bringBack.at 16 rfl) ?_
  refine go_cVv3 (DX4_bringBack.at 17 rfl) nX4_113 vX4_setValue (by omega) (c_setValue q16.1 ht hc (by omega)) q16.1.1 rfl (Nat.le_of_ble_eq_true rfl) (fun h23 q23 => ?_)
  refine go_aload_0 (DX4_bringBack.at 18 rfl) ?_
  refine go_bipush (v := nI 100) (DX4_bringBack.at 19 rfl) (by decide) ?_
  refine go_iload_1 (DX4_bringBack.at 20 rfl) ?_
  refine go_imul (DX4_bringBack.at 21 rfl) ?_
  rw [pk_mul]
  refine go_iload_2 (DX4_bringBack.at 22 rfl) ?_
  refine go_iadd (DX4_bringBack.at 23 rfl) ?_
  rw [nI_add]
  refine go_cVv1 (DX4_bringBack.at 24 rfl) nX4_133 vX4_leaveQueue (by omega) (c_leaveQueue q23.1 hq hq2 hp he hne (by omega)) q23.1.1 rfl (Nat.le_of_ble_eq_true rfl) (fun h33 q33 => ?_)
  exact go_return (DX4_bringBack.at 25 rfl) rfl (RV.mk (q16.then (q23.then q33)))

theorem rd_eq {σ : Rows} {M j : Nat} {nd : Nat → Nat} (c15 : M / 2 ^ j % 2 = 1) :
    rset (rset (rset (rset σ 4 (rdl (σ 4) M nd j)) 0 (upd (σ 0) 4 (rdc (σ 0 4) M j))) 4 (upd (rdl (σ 4) M nd j) (nd j) (rdl (σ 4) M nd j (nd j) + nI 1))) 0 (upd (upd (σ 0) 4 (rdc (σ 0 4) M j)) 4 (rdc (σ 0 4) M j + nI 1))
    = rset (rset σ 4 (rdl (σ 4) M nd (j + 1))) 0 (upd (σ 0) 4 (rdc (σ 0 4) M (j + 1))) := by
  rw [show rdl (σ 4) M nd (j + 1) = upd (rdl (σ 4) M nd j) (nd j) (rdl (σ 4) M nd j (nd j) + 1) from if_pos c15, show rdc (σ 0 4) M (j + 1) = rdc (σ 0 4) M j + 1 from if_pos c15]
  funext i k
  unfold rset upd
  by_cases h0 : i = 0
  · subst h0
    by_cases hk : k = 4
    · simp [hk]; rfl
    · simp [hk]
  · by_cases h4 : i = 4
    · subst h4; simp; rfl
    · simp [h0, h4]
theorem c_countReads (hS : StAt h b σ) (hL : LayX σ g s T sh) {t M : Nat} (ht : t < 8) (hM : M < 2 ^ 31) (hd : 2 ≤ d) : Calls E mX4_countReads d 0 0 [.ref b, .int (nI t), .int (nI M)] h (RV (StU h b (rset (rset σ 4 (rdl (σ 4) M (fun c => (c + t * sh) % nc g s) (nc g s))) 0 (upd (σ 0) 4 (rdc (σ 0 4) M (nc g s)))))) := by
  refine Calls.of (ls := [some (.ref b), some (.int (nI t)), some (.int (nI M)), none, none]) (by decide +kernel) rfl (Nat.le_of_ble_eq_true rfl) (cat_ok rfl) ?_
  have hl4 : ∀ {f4 : Nat → Int32} {y : Int32}, ∀ k, k < 4 → (rset (rset σ 4 f4) 0 (upd (σ 0) 4 y)) 0 k = σ 0 k := by
    intro f4 y k hk
    rw [rset_s]
    exact pk_un (by omega)
  have loop : ∀ (m j : Nat) (h1 : List va_E) (x4 : Option Value), j + m = nc g s → StU h b (rset (rset σ 4 (rdl (σ 4) M (fun c => (c + t * sh) % nc g s) j)) 0 (upd (σ 0) 4 (rdc (σ 0 4) M j))) h1 → Go E mX4_countReads d 0 0 2 [some (.ref b), some (.int (nI t)), some (.int (nI M)), some (.int (nI j)), x4] [] h1 (RV (StU h b (rset (rset σ 4 (rdl (σ 4) M (fun c => (c + t * sh) % nc g s) (nc g s))) 0 (upd (σ 0) 4 (rdc (σ 0 4) M (nc g s)))))) := by
    intro m
    induction m with
    | zero =>
      intro j h1 x4 hj u
      have ej : j = nc g s := by omega
      subst ej
      refine go_iload_3 (DX4_countReads.at 2 rfl) ?_
      refine go_aload_0 (DX4_countReads.at 3 rfl) ?_
      refine go_cVx0 (DX4_countReads.at 4 rfl) nX4_69 vX4_cellCount (by omega) (c_cellCount u.1 (hL.of0 hl4)) u.1.1 rfl (Nat.le_of_ble_eq_true rfl) ?_
      refine go_icmp_ge 62 (DX4_countReads.at 5 rfl) (by decide) (fun c7 => ?_) (fun c7 => absurd (Int32.le_refl _) c7)
      exact go_return (DX4_countReads.at 35 rfl) rfl (RV.mk u)
    | succ m ih =>
      intro j h1 x4 hj u
      refine go_iload_3 (DX4_countReads.at 2 rfl) ?_
      refine go_aload_0 (DX4_countReads.at 3 rfl) ?_
      refine go_cVx0 (DX4_countReads.at 4 rfl) nX4_69 vX4_cellCount (by omega) (c_cellCount u.1 (hL.of0 hl4)) u.1.1 rfl (Nat.le_of_ble_eq_true rfl) ?_
      refine go_icmp_ge 62 (DX4_countReads.at 5 rfl) (by decide) (fun c7 => absurd c7 (nI_ge (a := j) (b := nc g s) (by omega) (by have := hL.2.2.2.2.nc; omega))) (fun c7 => ?_)
      refine go_iload_2 (DX4_countReads.at 6 rfl) ?_
      refine go_iload_3 (DX4_countReads.at 7 rfl) ?_
      refine go_ishr (DX4_countReads.at 8 rfl) ?_
      refine go_iconst (v := nI 1) (DX4_countReads.at 9 rfl) (by decide) ?_
      refine go_iand (DX4_countReads.at 10 rfl) ?_
      refine go_if_eq 56 (DX4_countReads.at 11 rfl) (by decide) (fun c15 => ?_) (fun c15 => ?_)
      · rw [nx_bit hM (by have := hL.2.2.2.2.nc; omega), nI_eq0 (by omega)] at c15
        have u := u
        rw [show rdl (σ 4) M (fun c => (c + t * sh) % nc g s) j = rdl (σ 4) M (fun c => (c + t * sh) % nc g s) (j + 1) from (if_neg (by omega)).symm, show rdc (σ 0 4) M j = rdc (σ 0 4) M (j + 1) from (if_neg (by omega)).symm] at u
        refine go_iincN_3 (DX4_countReads.at 33 rfl) ?_
        refine go_goto 2 (DX4_countReads.at 34 rfl) (by decide) ?_
        exact ih (j + 1) _ _ (by omega) u
      · rw [nx_bit hM (by have := hL.2.2.2.2.nc; omega), nI_eq0 (by omega)] at c15
        have c15 : M / 2 ^ j % 2 = 1 := by omega
        refine go_aload_0 (DX4_countReads.at 12 rfl) ?_
        refine go_iload_1 (DX4_countReads.at 13 rfl) ?_
        refine go_iload_3 (DX4_countReads.at 14 rfl) ?_
        refine go_cVx2 (DX4_countReads.at 15 rfl) nX4_101 vX4_nodeOf (by omega) (c_nodeOf u.1 (hL.of0 hl4) ht (show j < 20 from (by have := hL.2.2.2.2.nc; omega)) (by omega)) u.1.1 rfl (Nat.le_of_ble_eq_true rfl) ?_
        refine go_istore_4 (DX4_countReads.at 16 rfl) ?_
        refine go_aload_0 (DX4_countReads.at 17 rfl) ?_
        refine go_getfield (DX4_countReads.at 18 rfl) fX4_49 u.1.1 rfl ?_
        refine go_iload_4 (DX4_countReads.at 19 rfl) ?_
        refine go_aload_0 (DX4_countReads.at 20 rfl) ?_
        refine go_getfield (DX4_countReads.at 21 rfl) fX4_49 u.1.1 rfl ?_
        refine go_iload_4 (DX4_countReads.at 22 rfl) ?_
        refine go_cSx2 (DX4_countReads.at 23 rfl) nX4_87 vX5_at (by omega) (c_at (Or.inl u.1.2.2.2.2.1) (show (j + t * sh) % nc g s < 20 from Nat.lt_of_lt_of_le (Nat.mod_lt _ (by have := hL.2.2.2.2.nc; omega)) hL.2.2.2.2.nc.2) (by decide)) (Nat.le_of_ble_eq_true rfl) ?_
        refine go_iconst (v := nI 1) (DX4_countReads.at 24 rfl) (by decide) ?_
        refine go_iadd (DX4_countReads.at 25 rfl) ?_
        refine go_cSv3 (DX4_countReads.at 26 rfl) nX4_77 vX5_put (by omega) (c_putSt u.1 (a := 4) (by decide) (show (j + t * sh) % nc g s < 20 from Nat.lt_of_lt_of_le (Nat.mod_lt _ (by have := hL.2.2.2.2.nc; omega)) hL.2.2.2.2.nc.2)) (Nat.le_of_ble_eq_true rfl) (fun h43 q43 => ?_)
        refine go_aload_0 (DX4_countReads.at 27 rfl) ?_
        refine go_dup (DX4_countReads.at 28 rfl) rfl ?_
        refine go_getfield (DX4_countReads.at 29 rfl) fX4_24 q43.1.1 rfl ?_
        refine go_iconst (v := nI 1) (DX4_countReads.at 30 rfl) (by decide) ?_
        refine go_iadd (DX4_countReads.at 31 rfl) ?_
        refine go_putSt (DX4_countReads.at 32 rfl) fX4_24 (by decide) q43.1 (fun h53 q53 => ?_)
        have u : StU h b (rset (rset (rset (rset σ 4 (rdl (σ 4) M (fun c => (c + t * sh) % nc g s) j)) 0 (upd (σ 0) 4 (rdc (σ 0 4) M j))) 4 (upd (rdl (σ 4) M (fun c => (c + t * sh) % nc g s) j) ((fun c => (c + t * sh) % nc g s) j) (rdl (σ 4) M (fun c => (c + t * sh) % nc g s) j ((fun c => (c + t * sh) % nc g s) j) + nI 1))) 0 (upd (upd (σ 0) 4 (rdc (σ 0 4) M j)) 4 (rdc (σ 0 4) M j + nI 1))) h53 := u.then (q43.then q53)
        rw [rd_eq c15] at u
        refine go_iincN_3 (DX4_countReads.at 33 rfl) ?_
        refine go_goto 2 (DX4_countReads.at 34 rfl) (by decide) ?_
        exact ih (j + 1) _ _ (by omega) u
  refine go_iconst (v := nI 0) (DX4_countReads.at 0 rfl) (by decide) ?_
  refine go_istore_3 (DX4_countReads.at 1 rfl) ?_
  refine loop (nc g s) 0 h _ (by omega) ⟨?_, Only.rf⟩
  rw [show rdl (σ 4) M (fun c => (c + t * sh) % nc g s) 0 = σ 4 from rfl, rset_id, show upd (σ 0) 4 (rdc (σ 0 4) M 0) = σ 0 from by funext k; unfold upd; split <;> (try rename_i q; try subst q) <;> rfl, rset_id]
  exact hS

end SW
