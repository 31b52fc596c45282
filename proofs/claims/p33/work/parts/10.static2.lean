/-! MORE STATIC METHODS -/
section ST
variable {E : AEnv} {d : Nat} {h : List va_E}
/-- the first place from k on at which v isn't 0, of m places; 0 if there is none -/
def ldf (v : Nat → Nat) : Nat → Nat → Nat
  | 0, _ => 0
  | m + 1, k => if v k = 0 then ldf v m (k + 1) else k
def ldv (v : Nat → Nat) : Nat := ldf v 6 0
theorem ldf_lt (v : Nat → Nat) : ∀ m k, k + m = 6 → ldf v m k < 6
  | 0, _, _ => by show 0 < 6; decide
  | m + 1, k, hk => by
    unfold ldf
    split
    · exact ldf_lt v m (k + 1) (by omega)
    · omega
theorem ldv_lt (v : Nat → Nat) : ldv v < 6 := ldf_lt v 6 0 rfl
theorem ldf_spec (v : Nat → Nat) : ∀ m k, k + m = 6 → (∃ i, k ≤ i ∧ i < 6 ∧ v i ≠ 0) → v (ldf v m k) ≠ 0
  | 0, k, hk, ⟨i, h1, h2, _⟩ => by omega
  | m + 1, k, hk, ⟨i, h1, h2, h3⟩ => by
    unfold ldf
    split
    · rename_i h0
      refine ldf_spec v m (k + 1) (by omega) ⟨i, ?_, h2, h3⟩
      rcases Nat.lt_or_ge k i with q | q
      · exact q
      · have : i = k := by omega
        subst this
        exact absurd h0 h3
    · assumption
theorem ldv_spec {v : Nat → Nat} (hv : ∃ i, i < 6 ∧ v i ≠ 0) : v (ldv v) ≠ 0 := by
  obtain ⟨i, h1, h2⟩ := hv
  exact ldf_spec v 6 0 rfl ⟨i, Nat.zero_le _, h1, h2⟩
theorem c_leadOf {v : Nat → Nat} (hv : ∀ i, i < 6 → v i < 16) (hd : 1 ≤ d) : Calls E mX5_leadOf d 0 0 [.int (nI (pq 6 v))] h (RX (nI (ldv v)) h) := by
  refine Calls.of (ls := [some (.int (nI (pq 6 v))), none]) (by decide +kernel) rfl (Nat.le_of_ble_eq_true rfl) (cat_ok rfl) ?_
  have loop : ∀ (m j : Nat), j + m = 6 → Go E mX5_leadOf d 0 0 2 [some (.int (nI (pq 6 v))), some (.int (nI j))] [] h (RX (nI (ldf v m j)) h) := by
    intro m
    induction m with
    | zero =>
      intro j hj
      have ej : j = 6 := by omega
      subst ej
      refine go_iload_1 (DX5_leadOf.at 2 rfl) ?_
      refine go_bipush (v := nI 6) (DX5_leadOf.at 3 rfl) (by decide) ?_
      refine go_icmp_ge 24 (DX5_leadOf.at 4 rfl) (by decide) (fun c5 => ?_) (fun c5 => absurd (Int32.le_refl _) c5)
      refine go_iconst (v := nI 0) (DX5_leadOf.at 13 rfl) (by decide) ?_
      exact go_iret (DX5_leadOf.at 14 rfl) rfl rfl (RX.mk rfl rfl)
    | succ m ih =>
      intro j hj
      refine go_iload_1 (DX5_leadOf.at 2 rfl) ?_
      refine go_bipush (v := nI 6) (DX5_leadOf.at 3 rfl) (by decide) ?_
      refine go_icmp_ge 24 (DX5_leadOf.at 4 rfl) (by decide) (fun c5 => absurd c5 (nI_ge (a := j) (b := 6) (by omega) (by decide))) (fun c5 => ?_)
      refine go_iload_0 (DX5_leadOf.at 5 rfl) ?_
      refine go_iload_1 (DX5_leadOf.at 6 rfl) ?_
      refine go_cSx2 (DX5_leadOf.at 7 rfl) nX5_174 vX5_element (by omega) (c_element hv (by omega)) (Nat.le_of_ble_eq_true rfl) ?_
      refine go_if_eq 18 (DX5_leadOf.at 8 rfl) (by decide) (fun c13 => ?_) (fun c13 => ?_)
      · rw [nI_eq0 (by have := hv j (by omega); omega)] at c13
        rw [show ldf v (m + 1) j = ldf v m (j + 1) from by rw [ldf, if_pos c13]]
        refine go_iincN_1 (DX5_leadOf.at 11 rfl) ?_
        refine go_goto 2 (DX5_leadOf.at 12 rfl) (by decide) ?_
        exact ih (j + 1) (by omega)
      · rw [nI_eq0 (by have := hv j (by omega); omega)] at c13
        rw [show ldf v (m + 1) j = j from by rw [ldf, if_neg c13]]
        refine go_iload_1 (DX5_leadOf.at 9 rfl) ?_
        exact go_iret (DX5_leadOf.at 10 rfl) rfl rfl (RX.mk rfl rfl)
  refine go_iconst (v := nI 0) (DX5_leadOf.at 0 rfl) (by decide) ?_
  refine go_istore_1 (DX5_leadOf.at 1 rfl) ?_
  exact loop 6 0 rfl

theorem INV_gv {a : Nat} : a < 16 → INVf a = nI (gv a) := dec1 (P := fun a => INVf a = nI (gv a)) (by decide +kernel)
theorem POW_pw {i : Nat} (hi : i < 15) : POWf i = nI (pw i) := by
  have h : (List.range 15).all (fun i => decide (POWf i = nI (pw i))) = true := by decide +kernel
  exact of_decide_eq_true (List.all_eq_true.mp h i (List.mem_range.mpr hi))
theorem c_unitOf {v : Nat → Nat} {k : Nat} (hv : ∀ i, i < 6 → v i < 16) (hk : k < 6) (hd : 1 ≤ d) : Calls E mX5_unitOf d 0 0 [.int (nI (pq 6 v)), .int (nI k)] h (RX (nI (pq 6 (fun i => gm (v i) (gv (v k))))) h) := by
  refine Calls.of (ls := [some (.int (nI (pq 6 v))), some (.int (nI k))]) (by decide +kernel) rfl (Nat.le_of_ble_eq_true rfl) (cat_ok rfl) ?_
  refine go_iload_0 (DX5_unitOf.at 0 rfl) ?_
  refine go_inverses (DX5_unitOf.at 1 rfl) zX5_309 ?_
  refine go_iload_0 (DX5_unitOf.at 2 rfl) ?_
  refine go_iload_1 (DX5_unitOf.at 3 rfl) ?_
  refine go_cSx2 (DX5_unitOf.at 4 rfl) nX5_174 vX5_element (by omega) (c_element hv hk) (Nat.le_of_ble_eq_true rfl) ?_
  refine go_cSx2 (DX5_unitOf.at 5 rfl) nX5_155 vX5_at (by omega) (c_at (Or.inr (Or.inr (Or.inl ⟨rfl, rfl, rfl⟩))) (hv k hk) (by decide)) (Nat.le_of_ble_eq_true rfl) ?_
  rw [INV_gv (hv k hk)]
  refine go_cSx2 (DX5_unitOf.at 6 rfl) nX5_249 vX5_scaled (by omega) (c_scaled hv (gv_lt (hv k hk))) (Nat.le_of_ble_eq_true rfl) ?_
  exact go_iret (DX5_unitOf.at 7 rfl) rfl rfl (RX.mk rfl rfl)

theorem c_min {a b : Nat} (ha : a < 2 ^ 31) (hb : b < 2 ^ 31) : Calls E mJ9_min_7cf53 d 0 0 [.int (nI a), .int (nI b)] h (RX (nI (min a b)) h) := by
  refine Calls.of (ls := [some (.int (nI a)), some (.int (nI b))]) (by decide +kernel) rfl (Nat.le_of_ble_eq_true rfl) (cat_ok rfl) ?_
  refine go_iload_0 (DJ9_min_7cf53.at 0 rfl) ?_
  refine go_iload_1 (DJ9_min_7cf53.at 1 rfl) ?_
  refine go_icmp_gt 9 (DJ9_min_7cf53.at 2 rfl) (by decide) (fun c2 => ?_) (fun c2 => ?_)
  · have e0 : min a b = b := by
      have := (nI_ltI hb ha).mp c2
      exact Nat.min_eq_right (by omega)
    refine go_iload_1 (DJ9_min_7cf53.at 5 rfl) ?_
    exact go_iret (DJ9_min_7cf53.at 6 rfl) rfl rfl (RX.mk (congrArg nI e0.symm) rfl)
  · have e0 : min a b = a := by
      have : ¬ b < a := fun q => c2 ((nI_ltI hb ha).mpr q)
      exact Nat.min_eq_left (by omega)
    refine go_iload_0 (DJ9_min_7cf53.at 3 rfl) ?_
    refine go_goto 10 (DJ9_min_7cf53.at 4 rfl) (by decide) ?_
    exact go_iret (DJ9_min_7cf53.at 6 rfl) rfl rfl (RX.mk (congrArg nI e0.symm) rfl)

theorem c_max {a b : Int32} : Calls E mJ9_max_7cf53 d 0 0 [.int a, .int b] h (RX (if a < b then b else a) h) := by
  refine Calls.of (ls := [some (.int a), some (.int b)]) (by decide +kernel) rfl (Nat.le_of_ble_eq_true rfl) (cat_ok rfl) ?_
  refine go_iload_0 (DJ9_max_7cf53.at 0 rfl) ?_
  refine go_iload_1 (DJ9_max_7cf53.at 1 rfl) ?_
  refine go_icmp_lt 9 (DJ9_max_7cf53.at 2 rfl) (by decide) (fun c2 => ?_) (fun c2 => ?_)
  · have e0 : (if a < b then b else a) = b := if_pos c2
    refine go_iload_1 (DJ9_max_7cf53.at 5 rfl) ?_
    exact go_iret (DJ9_max_7cf53.at 6 rfl) rfl rfl (RX.mk e0.symm rfl)
  · have e0 : (if a < b then b else a) = a := if_neg c2
    refine go_iload_0 (DJ9_max_7cf53.at 3 rfl) ?_
    refine go_goto 10 (DJ9_max_7cf53.at 4 rfl) (by decide) ?_
    exact go_iret (DJ9_max_7cf53.at 6 rfl) rfl rfl (RX.mk e0.symm rfl)

theorem nI_xor0 {a b : Nat} (ha : a < 2 ^ 31) (hb : b < 2 ^ 31) : 0 ≤ nI a ^^^ nI b := by
  rw [nx_xor]
  exact nI_0le (Nat.xor_lt_two_pow ha hb)
theorem c_floorMod {a n : Nat} (ha : a < 2 ^ 31) (h0 : 0 < n) (hn : n < 2 ^ 31) : Calls E mJ9_floorMod_7cf53 d 0 0 [.int (nI a), .int (nI n)] h (RX (nI (a % n)) h) := by
  refine Calls.of (ls := [some (.int (nI a)), some (.int (nI n)), none]) (by decide +kernel) rfl (Nat.le_of_ble_eq_true rfl) (cat_ok rfl) ?_
  refine go_iload_0 (DJ9_floorMod_7cf53.at 0 rfl) ?_
  refine go_iload_1 (DJ9_floorMod_7cf53.at 1 rfl) ?_
  refine go_irem (DJ9_floorMod_7cf53.at 2 rfl) (fun q => absurd ((nI_eq0 hn).mp q) (by omega)) ?_
  rw [pk_rem ha h0 hn]
  refine go_istore_2 (DJ9_floorMod_7cf53.at 3 rfl) ?_
  refine go_iload_0 (DJ9_floorMod_7cf53.at 4 rfl) ?_
  refine go_iload_1 (DJ9_floorMod_7cf53.at 5 rfl) ?_
  refine go_ixor (DJ9_floorMod_7cf53.at 6 rfl) ?_
  refine go_if_ge 18 (DJ9_floorMod_7cf53.at 7 rfl) (by decide) (fun c7 => ?_) (fun c7 => absurd (nI_xor0 ha hn) c7)
  refine go_iload_2 (DJ9_floorMod_7cf53.at 14 rfl) ?_
  exact go_iret (DJ9_floorMod_7cf53.at 15 rfl) rfl rfl (RX.mk rfl rfl)

theorem fm_tab : (List.range 36).all (fun z => (List.range 21).all (fun n => decide (0 < z → 0 < n → ¬ 0 ≤ (-nI z) ^^^ nI n ∧ ((-nI z) - (-nI z) / nI n * nI n = 0 → nI ((40 * n - z) % n) = 0) ∧ (¬ (-nI z) - (-nI z) / nI n * nI n = 0 → (-nI z) - (-nI z) / nI n * nI n + nI n = nI ((40 * n - z) % n))))) = true := by decide +kernel
theorem fm_at {z n : Nat} (hz : z < 36) (hn : n < 21) (h1 : 0 < z) (h2 : 0 < n) : ¬ 0 ≤ (-nI z) ^^^ nI n ∧ ((-nI z) - (-nI z) / nI n * nI n = 0 → nI ((40 * n - z) % n) = 0) ∧ (¬ (-nI z) - (-nI z) / nI n * nI n = 0 → (-nI z) - (-nI z) / nI n * nI n + nI n = nI ((40 * n - z) % n)) :=
  of_decide_eq_true (List.all_eq_true.mp (List.all_eq_true.mp fm_tab z (List.mem_range.mpr hz)) n (List.mem_range.mpr hn)) h1 h2
theorem c_floorModN {z n : Nat} (hz : z < 36) (h1 : 0 < z) (h0 : 0 < n) (hn : n < 21) : Calls E mJ9_floorMod_7cf53 d 0 0 [.int (-nI z), .int (nI n)] h (RX (nI ((40 * n - z) % n)) h) := by
  refine Calls.of (ls := [some (.int (-nI z)), some (.int (nI n)), none]) (by decide +kernel) rfl (Nat.le_of_ble_eq_true rfl) (cat_ok rfl) ?_
  refine go_iload_0 (DJ9_floorMod_7cf53.at 0 rfl) ?_
  refine go_iload_1 (DJ9_floorMod_7cf53.at 1 rfl) ?_
  refine go_irem (DJ9_floorMod_7cf53.at 2 rfl) (fun q => absurd ((nI_eq0 (by omega)).mp q) (by omega)) ?_
  refine go_istore_2 (DJ9_floorMod_7cf53.at 3 rfl) ?_
  refine go_iload_0 (DJ9_floorMod_7cf53.at 4 rfl) ?_
  refine go_iload_1 (DJ9_floorMod_7cf53.at 5 rfl) ?_
  refine go_ixor (DJ9_floorMod_7cf53.at 6 rfl) ?_
  refine go_if_ge 18 (DJ9_floorMod_7cf53.at 7 rfl) (by decide) (fun c7 => absurd c7 (fm_at hz hn h1 h0).1) (fun c7 => ?_)
  refine go_iload_2 (DJ9_floorMod_7cf53.at 8 rfl) ?_
  refine go_if_eq 18 (DJ9_floorMod_7cf53.at 9 rfl) (by decide) (fun c11 => ?_) (fun c11 => ?_)
  · refine go_iload_2 (DJ9_floorMod_7cf53.at 14 rfl) ?_
    exact go_iret (DJ9_floorMod_7cf53.at 15 rfl) rfl rfl (RX.mk (c11.trans ((fm_at hz hn h1 h0).2.1 c11).symm) rfl)
  · refine go_iload_2 (DJ9_floorMod_7cf53.at 10 rfl) ?_
    refine go_iload_1 (DJ9_floorMod_7cf53.at 11 rfl) ?_
    refine go_iadd (DJ9_floorMod_7cf53.at 12 rfl) ?_
    exact go_iret (DJ9_floorMod_7cf53.at 13 rfl) rfl rfl (RX.mk ((fm_at hz hn h1 h0).2.2 c11) rfl)

theorem ac_lk1 : Jvm.Cond.methodLink RX5 301 arraycopyName ∈ BW := BW_mem (by decide +kernel) rfl
theorem ac_lk4 : Jvm.Cond.methodLink RX4 136 arraycopyName ∈ BW := BW_mem (by decide +kernel) rfl
theorem ac_nat : Jvm.Cond.native arraycopyName ∈ BW := BW_mem (by decide +kernel) rfl
theorem ac_sta : Jvm.Cond.static arraycopyName ∈ BW := BW_mem (by decide +kernel) rfl
theorem ac_ini : Jvm.Cond.initialized "java/lang/System" ∈ BW := BW_mem (by decide +kernel) rfl
theorem c_copyRow {a b n : Nat} {f g : Nat → Int32} (ha : h[a]? = some (.inl (0, n, .inl f))) (hb : h[b]? = some (.inl (0, n, .inl g))) (hn : n < 2 ^ 31) (hd : 1 ≤ d) : Calls E mX5_copyRow d 0 0 [.ref a, .ref b] h (RV (fun h' => h' = h.set b (.inl (0, n, .inl (va_cpy f g 0 0 n))))) := by
  refine Calls.of (ls := [some (.ref a), some (.ref b)]) (by decide +kernel) rfl (Nat.le_of_ble_eq_true rfl) (cat_ok rfl) ?_
  refine go_aload_0 (DX5_copyRow.at 0 rfl) ?_
  refine go_ifnull (DX5_copyRow.at 1 rfl) ?_
  refine go_aload_1 (DX5_copyRow.at 2 rfl) ?_
  refine go_ifnull (DX5_copyRow.at 3 rfl) ?_
  refine go_aload_0 (DX5_copyRow.at 4 rfl) ?_
  refine go_iconst (v := nI 0) (DX5_copyRow.at 5 rfl) (by decide) ?_
  refine go_aload_1 (DX5_copyRow.at 6 rfl) ?_
  refine go_iconst (v := nI 0) (DX5_copyRow.at 7 rfl) (by decide) ?_
  refine go_aload_0 (DX5_copyRow.at 8 rfl) ?_
  refine go_alen (DX5_copyRow.at 9 rfl) (Or.inl ha) rfl ?_
  refine go_aload_1 (DX5_copyRow.at 10 rfl) ?_
  refine go_alen (DX5_copyRow.at 11 rfl) (Or.inl hb) rfl ?_
  refine go_cSx2 (DX5_copyRow.at 12 rfl) nX5_298 vJ9_min_7cf53 (by omega) (c_min hn hn) (Nat.le_of_ble_eq_true rfl) ?_
  rw [Nat.min_self]
  refine go_arraycopy (DX5_copyRow.at 13 rfl) ac_lk1 ac_nat ac_sta ac_ini ha hb (by decide) (by decide) (nI_pos hn) (by rw [nI_cl hn]; exact Nat.le_of_eq (Nat.zero_add n)) (by rw [nI_cl hn]; exact Nat.le_of_eq (Nat.zero_add n)) hd (Nat.le_of_ble_eq_true rfl) ?_
  exact go_return (DX5_copyRow.at 14 rfl) rfl (RV.mk (by rw [nI_cl hn]; rfl))

end ST
