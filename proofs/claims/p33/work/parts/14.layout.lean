/-! A STATE: its layout, copying; columns -/
/-- the factors of the cell c in the checks -/
def colv (g s c i : Nat) : Nat := if c < g * s then (if i = c / s then 1 else if i = g then pw c else if i = g + 1 then pw (2 * c) else 0) else if i = c - g * s then 1 else 0
/-- the check at home in the cell c -/
def hcv (g s c : Nat) : Nat := if c < g * s then c / s else c - g * s
def sgl (x k : Nat) : Nat → Nat := fun i => if i = k then x else 0
theorem pq_or : ∀ (n : Nat) (u v : Nat → Nat), (∀ i, i < n → u i < 16) → (∀ i, i < n → v i < 16) → pq n u ||| pq n v = pq n (fun i => u i ||| v i)
  | 0, _, _, _, _ => by simp [pq]
  | n + 1, u, v, hu, hv => by
    have h0 := hu 0 (by omega)
    have h1 := hv 0 (by omega)
    show (u 0 + 16 * pq n (fun i => u (i + 1))) ||| (v 0 + 16 * pq n (fun i => v (i + 1))) = _
    have e1 : u 0 + 16 * pq n (fun i => u (i + 1)) = 2 ^ 4 * pq n (fun i => u (i + 1)) + u 0 := by omega
    have e2 : v 0 + 16 * pq n (fun i => v (i + 1)) = 2 ^ 4 * pq n (fun i => v (i + 1)) + v 0 := by omega
    have e3 : pq (n + 1) (fun i => u i ||| v i) = 2 ^ 4 * (pq n (fun i => u (i + 1)) ||| pq n (fun i => v (i + 1))) + (u 0 ||| v 0) := by
      rw [pq_or n _ _ (fun i hi => hu (i + 1) (by omega)) (fun i hi => hv (i + 1) (by omega))]
      show (u 0 ||| v 0) + 16 * pq n (fun i => u (i + 1) ||| v (i + 1)) = _
      omega
    rw [e1, e2, e3]
    have hx : u 0 ||| v 0 < 2 ^ 4 := dec2 (P := fun a b => a ||| b < 16) (by decide +kernel) h0 h1
    apply Nat.eq_of_testBit_eq
    intro i
    rw [Nat.testBit_or, Nat.testBit_two_pow_mul_add _ (show u 0 < 2 ^ 4 from h0), Nat.testBit_two_pow_mul_add _ (show v 0 < 2 ^ 4 from h1), Nat.testBit_two_pow_mul_add _ hx]
    by_cases hi : i < 4
    · simp [hi, Nat.testBit_or]
    · simp [hi, Nat.testBit_or]
theorem sgl_lt {x k : Nat} (hx : x < 16) (i : Nat) : sgl x k i < 16 := by
  unfold sgl
  split
  · exact hx
  · decide
theorem pq_sgl (x : Nat) {k : Nat} (hk : k < 6) : x * 2 ^ (4 * k) = pq 6 (sgl x k) := by
  rcases (show k = 0 ∨ k = 1 ∨ k = 2 ∨ k = 3 ∨ k = 4 ∨ k = 5 by omega) with rfl | rfl | rfl | rfl | rfl | rfl <;> simp [pq, sgl] <;> omega
theorem hcv_lt {g s T sh c : Nat} (hL : LayOK g s T sh) (hc : c < nc g s) : hcv g s c < g + 2 := by
  obtain ⟨h1, h2, h3, h4, h5, -⟩ := hL
  unfold hcv
  unfold nc at hc
  split
  · rename_i q
    have : c / s < g := Nat.div_lt_of_lt_mul (by rw [Nat.mul_comm]; exact q)
    omega
  · omega
theorem hcv_ltg {g s c : Nat} (hc : c < g * s) : hcv g s c < g := by
  unfold hcv
  rw [if_pos hc]
  exact Nat.div_lt_of_lt_mul (by rw [Nat.mul_comm]; exact hc)
theorem colv_lt {g s c : Nat} (i : Nat) : colv g s c i < 16 := by
  unfold colv
  split
  · split
    · decide
    · split
      · exact pw_lt _
      · split
        · exact pw_lt _
        · decide
  · split <;> decide
theorem colv_par {g s c : Nat} (hc : ¬ c < g * s) : colv g s c = sgl 1 (hcv g s c) := by
  funext i
  unfold colv sgl hcv
  rw [if_neg hc, if_neg hc]
theorem colv_data {g s c : Nat} (hc : c < g * s) : (fun i => (sgl 1 (hcv g s c) i ||| sgl (pw c) g i) ||| sgl (pw (2 * c)) (g + 1) i) = colv g s c := by
  funext i
  have h1 := hcv_ltg hc
  unfold colv sgl
  rw [if_pos hc]
  have h2 : hcv g s c = c / s := by unfold hcv; rw [if_pos hc]
  rw [h2] at h1 ⊢
  by_cases a : i = c / s
  · simp [a, show ¬ c / s = g by omega, show ¬ c / s = g + 1 by omega]
  · by_cases b : i = g
    · simp [b, show ¬ g = c / s by omega]
    · by_cases e : i = g + 1
      · simp [e, show ¬ g + 1 = c / s by omega]
      · simp [a, b, e]
theorem set_same {h : List va_E} {a : Nat} {e : va_E} (hg : h[a]? = some e) : h.set a e = h := by
  apply List.ext_getElem?
  intro i
  rw [List.getElem?_set]
  by_cases hi : a = i
  · subst hi
    rw [if_pos rfl, if_pos (List.getElem?_eq_some_iff.mp hg).1, hg]
  · rw [if_neg hi]
section SW
variable {E : AEnv} {d : Nat} {h : List va_E} {b : Nat} {σ : Rows} {g s T sh : Nat}
theorem c_homeC (hS : StAt h b σ) (hL : LayX σ g s T sh) {c : Nat} (hc : c < nc g s) (hd : 1 ≤ d) : Calls E mX4_homeCheck d 0 0 [.ref b, .int (nI c)] h (RX (nI (hcv g s c)) h) := c_homeCheck hS hL hc hd
theorem c_fill {a n : Nat} {x : Int32} {f : Nat → Int32} (hg : h[a]? = some (ar n f)) (hn : n < 2 ^ 31) : Calls E mJ7_fill_53178 d 0 0 [.ref a, .int x] h (RV (fun h' => ∃ f' : Nat → Int32, (∀ k, k < n → f' k = x) ∧ h' = h.set a (ar n f'))) := by
  refine Calls.of (ls := [some (.ref a), some (.int x), none, none]) (by decide +kernel) rfl (Nat.le_of_ble_eq_true rfl) (cat_ok rfl) ?_
  have loop : ∀ (m j : Nat) (f1 : Nat → Int32) (h2 : List va_E), j + m = n → h2[a]? = some (ar n f1) → (∀ k, k < j → f1 k = x) → h2 = h.set a (ar n f1) → Go E mJ7_fill_53178 d 0 0 5 [some (.ref a), some (.int x), some (.int (nI j)), some (.int (nI n))] [] h2 (RV (fun h' => ∃ f' : Nat → Int32, (∀ k, k < n → f' k = x) ∧ h' = h.set a (ar n f'))) := by
    intro m
    induction m with
    | zero =>
      intro j f1 h2 hj hg1 h1 hh
      have ej : j = n := by omega
      subst ej
      refine go_iload_2 (DJ7_fill_53178.at 5 rfl) ?_
      refine go_iload_3 (DJ7_fill_53178.at 6 rfl) ?_
      refine go_icmp_ge 20 (DJ7_fill_53178.at 7 rfl) (by decide) (fun c7 => ?_) (fun c7 => absurd (Int32.le_refl _) c7)
      exact go_return (DJ7_fill_53178.at 14 rfl) rfl (RV.mk ⟨f1, h1, hh⟩)
    | succ m ih =>
      intro j f1 h2 hj hg1 h1 hh
      refine go_iload_2 (DJ7_fill_53178.at 5 rfl) ?_
      refine go_iload_3 (DJ7_fill_53178.at 6 rfl) ?_
      refine go_icmp_ge 20 (DJ7_fill_53178.at 7 rfl) (by decide) (fun c7 => absurd c7 (nI_ge (a := j) (b := n) (by omega) hn)) (fun c7 => ?_)
      refine go_aload_0 (DJ7_fill_53178.at 8 rfl) ?_
      refine go_iload_2 (DJ7_fill_53178.at 9 rfl) ?_
      refine go_iload_1 (DJ7_fill_53178.at 10 rfl) ?_
      refine go_iastore (DJ7_fill_53178.at 11 rfl) hg1 (vp_in_nI (by omega) hn) ?_
      refine go_iincN_2 (DJ7_fill_53178.at 12 rfl) ?_
      refine go_goto 5 (DJ7_fill_53178.at 13 rfl) (by decide) ?_
      refine ih (j + 1) _ _ (by omega) (get_set hg1) ?_ ?_
      · intro k hk
        rw [nI_cl (by omega)]
        by_cases e : k = j
        · rw [e]; exact pk_us
        · rw [pk_un e]; exact h1 k (by omega)
      · rw [hh, List.set_set]
  refine go_iconst (v := nI 0) (DJ7_fill_53178.at 0 rfl) (by decide) ?_
  refine go_istore_2 (DJ7_fill_53178.at 1 rfl) ?_
  refine go_aload_0 (DJ7_fill_53178.at 2 rfl) ?_
  refine go_alen (DJ7_fill_53178.at 3 rfl) (Or.inl hg) rfl ?_
  refine go_istore_3 (DJ7_fill_53178.at 4 rfl) ?_
  refine loop n 0 f h (by omega) hg (fun k hk => absurd hk (Nat.not_lt_zero k)) ?_
  exact (set_same hg).symm

theorem c_fillSt {a : Nat} {x : Int32} (hS : StAt h b σ) (ha : 1 ≤ a ∧ a ≤ 5) : Calls E mJ7_fill_53178 d 0 0 [.ref (b + a), .int x] h (RV (fun h' => ∃ f', (∀ k, k < nA a → f' k = x) ∧ StU h b (rset σ a f') h')) := by
  refine (c_fill (hS.get ha) (by unfold nA; split <;> (try split) <;> decide)).weaken ?_
  rintro r h' ⟨rfl, f', h1, rfl⟩
  exact ⟨rfl, f', h1, hS.row ha _⟩
theorem c_layOut (hS : StAt h b σ) (hO : LayOK g s T sh) (hd : 2 ≤ d) : Calls E mX4_layOut d 0 0 [.ref b, .int (nI g), .int (nI s), .int (nI T), .int (nI sh)] h (RV (fun h' => ∃ σ', StU h b σ' h' ∧ LayX σ' g s T sh ∧ (∀ k, 4 ≤ k → k < 8 → σ' 0 k = σ 0 k) ∧ σ' 0 8 = nI 0 ∧ (∀ a, 2 ≤ a → a ≤ 4 → ∀ j, j < nA a → σ' a j = nI 0) ∧ ColX σ' (nc g s) (colv g s))) := by
  refine Calls.of (ls := [some (.ref b), some (.int (nI g)), some (.int (nI s)), some (.int (nI T)), some (.int (nI sh)), none, none, none]) (by decide +kernel) rfl (Nat.le_of_ble_eq_true rfl) (cat_ok rfl) ?_
  have rest : ∀ (σ1 : Rows) (h47 : List va_E), LayX σ1 g s T sh → (∀ k, 4 ≤ k → k < 8 → σ1 0 k = σ 0 k) → σ1 0 8 = nI 0 → (∀ a, 2 ≤ a → a ≤ 4 → ∀ j, j < nA a → σ1 a j = nI 0) → StU h b σ1 h47 → Go E mX4_layOut d 0 0 53 [some (.ref b), some (.int (nI g)), some (.int (nI s)), some (.int (nI T)), some (.int (nI sh)), some (.int (nI 0)), none, none] [] h47 (RV (fun h' => ∃ σ', StU h b σ' h' ∧ LayX σ' g s T sh ∧ (∀ k, 4 ≤ k → k < 8 → σ' 0 k = σ 0 k) ∧ σ' 0 8 = nI 0 ∧ (∀ a, 2 ≤ a → a ≤ 4 → ∀ j, j < nA a → σ' a j = nI 0) ∧ ColX σ' (nc g s) (colv g s))) := by
    intro σ1 h47 hL hk h8 hz u0
    have loop2 : ∀ (m j : Nat) (f : Nat → Int32) (h1 : List va_E) (x6 x7 : Option Value), j + m = g * s → StU h b (rset σ1 5 f) h1 → (∀ c, c < nc g s → f c = nI (pq 6 (if c < j then colv g s c else sgl 1 (hcv g s c)))) → Go E mX4_layOut d 0 0 90 [some (.ref b), some (.int (nI g)), some (.int (nI s)), some (.int (nI T)), some (.int (nI sh)), some (.int (nI j)), x6, x7] [] h1 (RV (fun h' => ∃ σ', StU h b σ' h' ∧ LayX σ' g s T sh ∧ (∀ k, 4 ≤ k → k < 8 → σ' 0 k = σ 0 k) ∧ σ' 0 8 = nI 0 ∧ (∀ a, 2 ≤ a → a ≤ 4 → ∀ j, j < nA a → σ' a j = nI 0) ∧ ColX σ' (nc g s) (colv g s))) := by
      intro m
      induction m with
      | zero =>
        intro j f h1 x6 x7 hj u hf
        have ej : j = g * s := by omega
        subst ej
        refine go_iload_5 (DX4_layOut.at 48 rfl) ?_
        refine go_aload_0 (DX4_layOut.at 49 rfl) ?_
        refine go_cVx0 (DX4_layOut.at 50 rfl) nX4_81 vX4_dataCount (by omega) (c_dataCount u.1 (hL.of0 (fun _ _ => rfl))) u.1.1 rfl (Nat.le_of_ble_eq_true rfl) ?_
        refine go_icmp_ge 170 (DX4_layOut.at 51 rfl) (by decide) (fun c96 => ?_) (fun c96 => absurd (Int32.le_refl _) c96)
        exact go_return (DX4_layOut.at 90 rfl) rfl (RV.mk ⟨_, u, hL.of0 (fun _ _ => rfl), fun k h1 h2 => hk k h1 h2, h8, fun a h1 h2 j hj => by rw [rset_n (by omega)]; exact hz a h1 h2 j hj, fun c hc => ⟨by
    rw [rset_s, hf c hc]
    by_cases e : c < g * s
    · rw [if_pos e]
    · rw [if_neg e, colv_par e], fun i _ => colv_lt i⟩⟩)
      | succ m ih =>
        intro j f h1 x6 x7 hj u hf
        refine go_iload_5 (DX4_layOut.at 48 rfl) ?_
        refine go_aload_0 (DX4_layOut.at 49 rfl) ?_
        refine go_cVx0 (DX4_layOut.at 50 rfl) nX4_81 vX4_dataCount (by omega) (c_dataCount u.1 (hL.of0 (fun _ _ => rfl))) u.1.1 rfl (Nat.le_of_ble_eq_true rfl) ?_
        refine go_icmp_ge 170 (DX4_layOut.at 51 rfl) (by decide) (fun c96 => absurd c96 (nI_ge (a := j) (b := g * s) (by omega) (by have := hL.2.2.2.2.2.2.2.2.1; omega))) (fun c96 => ?_)
        have hjn : j < nc g s := by unfold nc; omega
        have hg4 : g ≤ 4 := hL.2.2.2.2.2.1
        have hj15 : j < 15 := by have := hL.2.2.2.2.2.2.2.2.1; omega
        refine go_powers (DX4_layOut.at 52 rfl) zX4_84 ?_
        refine go_iload_5 (DX4_layOut.at 53 rfl) ?_
        refine go_cSx2 (DX4_layOut.at 54 rfl) nX4_87 vX5_at (by omega) (c_at (Or.inr (Or.inl ⟨rfl, rfl, rfl⟩)) (show j < 15 from (by have := hL.2.2.2.2.2.2.2.2.1; omega)) (by decide)) (Nat.le_of_ble_eq_true rfl) ?_
        rw [POW_pw (show j < 15 from (by have := hL.2.2.2.2.2.2.2.2.1; omega))]
        refine go_iconst (v := nI 4) (DX4_layOut.at 55 rfl) (by decide) ?_
        refine go_aload_0 (DX4_layOut.at 56 rfl) ?_
        refine go_getfield (DX4_layOut.at 57 rfl) fX4_9 u.1.1 rfl ?_
        rw [show rset σ1 5 f 0 0 = nI g from hL.1]
        refine go_imul (DX4_layOut.at 58 rfl) ?_
        rw [pk_mul]
        refine go_ishl (DX4_layOut.at 59 rfl) ?_
        rw [nx_shlW _ (by omega), pq_sgl _ (by omega)]
        refine go_istore_6 (DX4_layOut.at 60 rfl) ?_
        refine go_powers (DX4_layOut.at 61 rfl) zX4_84 ?_
        refine go_iconst (v := nI 2) (DX4_layOut.at 62 rfl) (by decide) ?_
        refine go_iload_5 (DX4_layOut.at 63 rfl) ?_
        refine go_imul (DX4_layOut.at 64 rfl) ?_
        rw [pk_mul]
        refine go_bipush (v := nI 15) (DX4_layOut.at 65 rfl) (by decide) ?_
        refine go_irem (DX4_layOut.at 66 rfl) (by decide) ?_
        rw [pk_rem (by omega) (by decide) (by decide)]
        refine go_cSx2 (DX4_layOut.at 67 rfl) nX4_87 vX5_at (by omega) (c_at (Or.inr (Or.inl ⟨rfl, rfl, rfl⟩)) (show 2 * j % 15 < 15 from Nat.mod_lt _ (by decide)) (by decide)) (Nat.le_of_ble_eq_true rfl) ?_
        rw [POW_pw (show 2 * j % 15 < 15 from Nat.mod_lt _ (by decide)), show pw (2 * j % 15) = pw (2 * j) from by unfold pw; rw [Nat.mod_mod]]
        refine go_iconst (v := nI 4) (DX4_layOut.at 68 rfl) (by decide) ?_
        refine go_aload_0 (DX4_layOut.at 69 rfl) ?_
        refine go_getfield (DX4_layOut.at 70 rfl) fX4_9 u.1.1 rfl ?_
        rw [show rset σ1 5 f 0 0 = nI g from hL.1]
        refine go_iconst (v := nI 1) (DX4_layOut.at 71 rfl) (by decide) ?_
        refine go_iadd (DX4_layOut.at 72 rfl) ?_
        rw [nI_add]
        refine go_imul (DX4_layOut.at 73 rfl) ?_
        rw [pk_mul]
        refine go_ishl (DX4_layOut.at 74 rfl) ?_
        rw [nx_shlW _ (by omega), pq_sgl _ (by omega)]
        refine go_istore_7 (DX4_layOut.at 75 rfl) ?_
        refine go_aload_0 (DX4_layOut.at 76 rfl) ?_
        refine go_getfield (DX4_layOut.at 77 rfl) fX4_52 u.1.1 rfl ?_
        refine go_iload_5 (DX4_layOut.at 78 rfl) ?_
        refine go_aload_0 (DX4_layOut.at 79 rfl) ?_
        refine go_getfield (DX4_layOut.at 80 rfl) fX4_52 u.1.1 rfl ?_
        refine go_iload_5 (DX4_layOut.at 81 rfl) ?_
        refine go_cSx2 (DX4_layOut.at 82 rfl) nX4_87 vX5_at (by omega) (c_at (Or.inl u.1.2.2.2.2.2) (show j < 20 from (by have := hL.2.2.2.2.nc; omega)) (by decide)) (Nat.le_of_ble_eq_true rfl) ?_
        rw [rset_s, hf j hjn, if_neg (Nat.lt_irrefl j)]
        refine go_iload_6 (DX4_layOut.at 83 rfl) ?_
        refine go_ior (DX4_layOut.at 84 rfl) ?_
        rw [nx_or, pq_or 6 _ _ (fun i _ => sgl_lt (by decide) i) (fun i _ => sgl_lt (pw_lt _) i)]
        refine go_iload_7 (DX4_layOut.at 85 rfl) ?_
        refine go_ior (DX4_layOut.at 86 rfl) ?_
        rw [nx_or, pq_or 6 _ _ (fun i _ => dec2 (P := fun a b => a ||| b < 16) (by decide +kernel) (sgl_lt (by decide) i) (sgl_lt (pw_lt _) i)) (fun i _ => sgl_lt (pw_lt _) i), colv_data (show j < g * s by omega)]
        refine go_cSv3 (DX4_layOut.at 87 rfl) nX4_77 vX5_put (by omega) (c_putSt u.1 (a := 5) (by decide) (show j < 20 from (by have := hL.2.2.2.2.nc; omega))) (Nat.le_of_ble_eq_true rfl) (fun h161 q161 => ?_)
        rw [rset_rset] at q161
        refine go_iincN_5 (DX4_layOut.at 88 rfl) ?_
        refine go_goto 90 (DX4_layOut.at 89 rfl) (by decide) ?_
        refine ih (j + 1) _ _ _ _ (by omega) (u.then q161) ?_
        intro c hc
        by_cases e : c = j
        · rw [e, if_pos (Nat.lt_succ_self j)]; exact pk_us
        · rw [show rset σ1 5 f 5 = f from rset_s, pk_un e, hf c hc]
          by_cases e2 : c < j
          · rw [if_pos e2, if_pos (by omega)]
          · rw [if_neg e2, if_neg (by omega)]
    have loop1 : ∀ (m j : Nat) (f : Nat → Int32) (h1 : List va_E) (x6 x7 : Option Value), j + m = nc g s → StU h b (rset σ1 5 f) h1 → (∀ c, c < j → f c = nI (pq 6 (sgl 1 (hcv g s c)))) → Go E mX4_layOut d 0 0 53 [some (.ref b), some (.int (nI g)), some (.int (nI s)), some (.int (nI T)), some (.int (nI sh)), some (.int (nI j)), x6, x7] [] h1 (RV (fun h' => ∃ σ', StU h b σ' h' ∧ LayX σ' g s T sh ∧ (∀ k, 4 ≤ k → k < 8 → σ' 0 k = σ 0 k) ∧ σ' 0 8 = nI 0 ∧ (∀ a, 2 ≤ a → a ≤ 4 → ∀ j, j < nA a → σ' a j = nI 0) ∧ ColX σ' (nc g s) (colv g s))) := by
      intro m
      induction m with
      | zero =>
        intro j f h1 x6 x7 hj u hf
        have ej : j = nc g s := by omega
        subst ej
        refine go_iload_5 (DX4_layOut.at 29 rfl) ?_
        refine go_aload_0 (DX4_layOut.at 30 rfl) ?_
        refine go_cVx0 (DX4_layOut.at 31 rfl) nX4_69 vX4_cellCount (by omega) (c_cellCount u.1 (hL.of0 (fun _ _ => rfl))) u.1.1 rfl (Nat.le_of_ble_eq_true rfl) ?_
        refine go_icmp_ge 87 (DX4_layOut.at 32 rfl) (by decide) (fun c59 => ?_) (fun c59 => absurd (Int32.le_refl _) c59)
        refine go_iconst (v := nI 0) (DX4_layOut.at 46 rfl) (by decide) ?_
        refine go_istore_5 (DX4_layOut.at 47 rfl) ?_
        exact loop2 (g * s) 0 _ _ x6 x7 (by omega) u (fun c hc => hf c hc)
      | succ m ih =>
        intro j f h1 x6 x7 hj u hf
        refine go_iload_5 (DX4_layOut.at 29 rfl) ?_
        refine go_aload_0 (DX4_layOut.at 30 rfl) ?_
        refine go_cVx0 (DX4_layOut.at 31 rfl) nX4_69 vX4_cellCount (by omega) (c_cellCount u.1 (hL.of0 (fun _ _ => rfl))) u.1.1 rfl (Nat.le_of_ble_eq_true rfl) ?_
        refine go_icmp_ge 87 (DX4_layOut.at 32 rfl) (by decide) (fun c59 => absurd c59 (nI_ge (a := j) (b := nc g s) (by omega) (by have := hL.2.2.2.2.nc; omega))) (fun c59 => ?_)
        refine go_aload_0 (DX4_layOut.at 33 rfl) ?_
        refine go_getfield (DX4_layOut.at 34 rfl) fX4_52 u.1.1 rfl ?_
        refine go_iload_5 (DX4_layOut.at 35 rfl) ?_
        refine go_iconst (v := nI 1) (DX4_layOut.at 36 rfl) (by decide) ?_
        refine go_iconst (v := nI 4) (DX4_layOut.at 37 rfl) (by decide) ?_
        refine go_aload_0 (DX4_layOut.at 38 rfl) ?_
        refine go_iload_5 (DX4_layOut.at 39 rfl) ?_
        refine go_cVx1 (DX4_layOut.at 40 rfl) nX4_73 vX4_homeCheck (by omega) (c_homeC u.1 (hL.of0 (fun _ _ => rfl)) (show j < nc g s by omega) (by omega)) u.1.1 rfl (Nat.le_of_ble_eq_true rfl) ?_
        refine go_imul (DX4_layOut.at 41 rfl) ?_
        rw [pk_mul]
        refine go_ishl (DX4_layOut.at 42 rfl) ?_
        have hh6 : hcv g s j < 6 := Nat.lt_of_lt_of_le (hcv_lt hL.2.2.2.2 (show j < nc g s by omega)) (by have := hL.2.2.2.2.2.1; omega)
        rw [nx_shlW _ (by omega), pq_sgl 1 hh6]
        refine go_cSv3 (DX4_layOut.at 43 rfl) nX4_77 vX5_put (by omega) (c_putSt u.1 (a := 5) (by decide) (show j < 20 from (by have := hL.2.2.2.2.nc; omega))) (Nat.le_of_ble_eq_true rfl) (fun h78 q78 => ?_)
        rw [rset_rset] at q78
        refine go_iincN_5 (DX4_layOut.at 44 rfl) ?_
        refine go_goto 53 (DX4_layOut.at 45 rfl) (by decide) ?_
        refine ih (j + 1) _ _ x6 x7 (by omega) (u.then q78) ?_
        intro c hc
        by_cases e : c = j
        · rw [e]; exact pk_us
        · rw [show rset σ1 5 f 5 = f from rset_s, pk_un e]; exact hf c (by omega)
    exact loop1 (nc g s) 0 (σ1 5) h47 none none (by omega) (by rw [rset_id]; exact u0) (fun c hc => absurd hc (Nat.not_lt_zero c))
  refine go_aload_0 (DX4_layOut.at 0 rfl) ?_
  refine go_iload_1 (DX4_layOut.at 1 rfl) ?_
  refine go_putSt (DX4_layOut.at 2 rfl) fX4_9 (by decide) hS (fun h2 q2 => ?_)
  refine go_aload_0 (DX4_layOut.at 3 rfl) ?_
  refine go_iload_2 (DX4_layOut.at 4 rfl) ?_
  refine go_putSt (DX4_layOut.at 5 rfl) fX4_15 (by decide) q2.1 (fun h7 q7 => ?_)
  refine go_aload_0 (DX4_layOut.at 6 rfl) ?_
  refine go_iload_3 (DX4_layOut.at 7 rfl) ?_
  refine go_putSt (DX4_layOut.at 8 rfl) fX4_18 (by decide) q7.1 (fun h12 q12 => ?_)
  refine go_aload_0 (DX4_layOut.at 9 rfl) ?_
  refine go_iload_4 (DX4_layOut.at 10 rfl) ?_
  refine go_putSt (DX4_layOut.at 11 rfl) fX4_21 (by decide) q12.1 (fun h18 q18 => ?_)
  refine go_aload_0 (DX4_layOut.at 12 rfl) ?_
  refine go_iconst (v := nI 0) (DX4_layOut.at 13 rfl) (by decide) ?_
  refine go_putSt (DX4_layOut.at 14 rfl) fX4_36 (by decide) q18.1 (fun h23 q23 => ?_)
  refine go_aload_0 (DX4_layOut.at 15 rfl) ?_
  refine go_getfield (DX4_layOut.at 16 rfl) fX4_43 q23.1.1 rfl ?_
  refine go_iconst (v := nI 0) (DX4_layOut.at 17 rfl) (by decide) ?_
  refine go_cSv2 (DX4_layOut.at 18 rfl) nX4_63 vJ7_fill_53178 (by omega) (c_fillSt q23.1 (a := 2) (by decide)) (Nat.le_of_ble_eq_true rfl) (fun h31 q31 => ?_)
  obtain ⟨z2, z2h, q31⟩ := q31
  refine go_aload_0 (DX4_layOut.at 19 rfl) ?_
  refine go_getfield (DX4_layOut.at 20 rfl) fX4_46 q31.1.1 rfl ?_
  refine go_iconst (v := nI 0) (DX4_layOut.at 21 rfl) (by decide) ?_
  refine go_cSv2 (DX4_layOut.at 22 rfl) nX4_63 vJ7_fill_53178 (by omega) (c_fillSt q31.1 (a := 3) (by decide)) (Nat.le_of_ble_eq_true rfl) (fun h39 q39 => ?_)
  obtain ⟨z3, z3h, q39⟩ := q39
  refine go_aload_0 (DX4_layOut.at 23 rfl) ?_
  refine go_getfield (DX4_layOut.at 24 rfl) fX4_49 q39.1.1 rfl ?_
  refine go_iconst (v := nI 0) (DX4_layOut.at 25 rfl) (by decide) ?_
  refine go_cSv2 (DX4_layOut.at 26 rfl) nX4_63 vJ7_fill_53178 (by omega) (c_fillSt q39.1 (a := 4) (by decide)) (Nat.le_of_ble_eq_true rfl) (fun h47 q47 => ?_)
  obtain ⟨z4, z4h, q47⟩ := q47
  refine go_iconst (v := nI 0) (DX4_layOut.at 27 rfl) (by decide) ?_
  refine go_istore_5 (DX4_layOut.at 28 rfl) ?_
  have u := q2.then (q7.then (q12.then (q18.then (q23.then (q31.then (q39.then q47))))))
  generalize hσ1 : rset _ 4 z4 = σ1 at u
  have e0 : ∀ k, σ1 0 k = upd (upd (upd (upd (upd (σ 0) 0 (nI g)) 1 (nI s)) 2 (nI T)) 3 (nI sh)) 8 (nI 0) k := fun k => by rw [← hσ1]; rfl
  have hL : LayX σ1 g s T sh := ⟨e0 0, e0 1, e0 2, e0 3, hO⟩
  have hk : ∀ k, 4 ≤ k → k < 8 → σ1 0 k = σ 0 k := fun k h1 h2 => by rw [e0 k, pk_un (by omega), pk_un (by omega), pk_un (by omega), pk_un (by omega), pk_un (by omega)]
  have hz : ∀ a, 2 ≤ a → a ≤ 4 → ∀ j, j < nA a → σ1 a j = nI 0 := by
    intro a h1 h2 j hj
    rw [← hσ1]
    rcases (show a = 2 ∨ a = 3 ∨ a = 4 by omega) with rfl | rfl | rfl
    · exact z2h j hj
    · exact z3h j hj
    · exact z4h j hj
  exact rest σ1 h47 hL hk (e0 8) hz u

end SW
