/-! THE LAW'S ROWS: 52 q, 53 v, 54 l, 55 w, 56 d, 57 ways, 58 call; what it counts on them -/
def lZ (a : Nat) : Nat := if a = 0 then 9 else if a = 1 then 60 else if a = 2 then 3 else if a = 3 then 60 else if a = 4 then 20 else if a = 5 then 3 else 4
def LA (h : List va_E) (ρ : Nat → Nat → Int32) : Prop := ∀ a, a < 7 → h[52 + a]? = some (ar (lZ a) (ρ a))
/-- the layout, as q has it -/
def LY (A : Ab) (ρ : Nat → Nat → Int32) : Prop := LayOK (aG A) (aS A) (aT A) (aH A) ∧ aT A ≤ 3 ∧ ρ 0 0 = nI (aG A) ∧ ρ 0 1 = nI (aS A) ∧ ρ 0 2 = nI (aT A) ∧ ρ 0 3 = nI (aH A)
/-- the law's rows hold the store A -/
def LR (A : Ab) (ρ : Nat → Nat → Int32) : Prop := AOK A ∧ LY A ρ ∧ ρ 0 4 = nI (aQ A).length ∧ (∀ k, k < 4 → ρ 0 (5 + k) = aK A k) ∧ (∀ t, t < aT A → ∀ c, c < nc (aG A) (aS A) → ρ 1 (20 * t + c) = nI (aV A t c)) ∧
  (∀ t, t < aT A → ρ 2 t = nI (aM A t)) ∧ (∀ i x, (aQ A)[i]? = some x → ρ 3 i = nI x) ∧ ∀ j, j < 20 → ρ 4 j = aL A j
theorem LA.set {h : List va_E} {ρ : Nat → Nat → Int32} {a : Nat} (hL : LA h ρ) (ha : a < 7) (f : Nat → Int32) : LA (h.set (52 + a) (ar (lZ a) f)) (rset ρ a f) := by
  intro a' ha'
  by_cases e : a' = a
  · subst e
    rw [rset_s]
    exact get_set (hL a' ha')
  · rw [rset_n e, List.getElem?_set_ne (by omega)]
    exact hL a' ha'
theorem LA.cz {h h' : List va_E} {ρ : Nat → Nat → Int32} {Z : Zt} (hL : LA h ρ) (q : CZ (fun j => h[j]?) Z h' 0) : LA h' ρ := fun a ha => (q.frm (52 + a) (Or.inr (by omega))).trans (hL a ha)
theorem LY.up {A : Ab} {ρ ρ' : Nat → Nat → Int32} (hY : LY A ρ) (e : ∀ k, k < 4 → ρ' 0 k = ρ 0 k) : LY A ρ' := ⟨hY.1, hY.2.1, (e 0 (by decide)).trans hY.2.2.1, (e 1 (by decide)).trans hY.2.2.2.1, (e 2 (by decide)).trans hY.2.2.2.2.1, (e 3 (by decide)).trans hY.2.2.2.2.2⟩
section LR
variable {E : AEnv} {Y : MI} {d k n pc pc' : Nat} {ls : List (Option Value)} {st : List Value} {h : List va_E} {Ψ : Pst} {ρ : Nat → Nat → Int32}
theorem go_ialdL (a : Nat) {j : Nat} (hd : Dc Y pc .iaload pc') (hL : LA h ρ) (ha : a < 7) (hj : j < lZ a) (K : Go E Y d k n pc' ls (.int (ρ a j) :: st) h Ψ) : Go E Y d k n pc ls (.int (nI j) :: .ref (52 + a) :: st) h Ψ := by
  refine go_ialdM hd (hL a ha) hj ?_ K
  unfold lZ
  repeat' split
  all_goals decide
theorem go_iastL (a : Nat) {j : Nat} {x : Int32} (hd : Dc Y pc .iastore pc') (hL : LA h ρ) (ha : a < 7) (hj : j < lZ a) (K : ∀ h1, LA h1 (rset ρ a (upd (ρ a) j x)) → Only 52 59 h h1 → Go E Y d k n pc' ls st h1 Ψ) : Go E Y d k n pc ls (.int x :: .int (nI j) :: .ref (52 + a) :: st) h Ψ := by
  have hz : lZ a < 2 ^ 31 := by
    unfold lZ
    repeat' split
    all_goals decide
  refine go_iastore hd (hL a ha) (vp_in_nI hj hz) ?_
  rw [nI_cl (by omega)]
  exact K _ (hL.set ha _) (Only.set (by omega) (by omega))
end LR
section LM
variable {E : AEnv} {d : Nat} {h h' h0 : List va_E} {ρ ρ' : Nat → Nat → Int32} {A : Ab} {Z : Zt} {G : Nat → Option va_E}
theorem c_cell {k : Nat} (hk : k ≤ 60) (hS1 : (ESc E).1 ≤ 260) : Calls E mL_cell d 0 0 [.ref (BIGN + 2), .int (nI k)] h (RI (fun r h1 => h1 = h)) := by
  refine Calls.of (ls := [some (.ref (BIGN + 2)), some (.int (nI k))]) (by decide +kernel) rfl (Nat.le_of_ble_eq_true rfl) (cat_ok rfl) ?_
  have hS : ArrR E h (BIGN + 2) (ESc E).1 (ESc E).2 := Or.inr (Or.inr (Or.inr ⟨rfl, rfl, rfl⟩))
  refine go_iload_1 (DL_cell.at 0 rfl) ?_
  refine go_aload_0 (DL_cell.at 1 rfl) ?_
  refine go_alen (DL_cell.at 2 rfl) hS (v := nI (ESc E).1) rfl ?_
  refine go_icmp_ge 12 (DL_cell.at 3 rfl) (by decide) (fun c3 => ?_) (fun c3 => ?_)
  · refine go_ldc (DL_cell.at 8 rfl) kL_7 ?_
    refine go_iload_1 (DL_cell.at 9 rfl) ?_
    refine go_bipush (v := nI 7) (DL_cell.at 10 rfl) (by decide) ?_
    refine go_iadd (DL_cell.at 11 rfl) ?_
    refine go_imul (DL_cell.at 12 rfl) ?_
    refine go_ldc (DL_cell.at 13 rfl) kL_8 ?_
    refine go_iadd (DL_cell.at 14 rfl) ?_
    exact go_iret (DL_cell.at 15 rfl) rfl rfl (RI.mk rfl)
  · rw [nI_leI (by omega) (by omega)] at c3
    replace c3 : k < (ESc E).1 := by omega
    refine go_aload_0 (DL_cell.at 4 rfl) ?_
    refine go_iload_1 (DL_cell.at 5 rfl) ?_
    refine go_iaload (DL_cell.at 6 rfl) hS (vp_in_nI c3 (by omega)) ?_
    refine go_goto 22 (DL_cell.at 7 rfl) (by decide) ?_
    exact go_iret (DL_cell.at 15 rfl) rfl rfl (RI.mk rfl)

theorem c_low {v : Int32} {n : Nat} (h0 : 0 < n) (h31 : n < 2 ^ 31) : Calls E mL_low d 0 0 [.int v, .int (nI n)] h (RI (fun r h1 => h1 = h ∧ ∃ j, j < n ∧ r = nI j)) := by
  refine Calls.of (ls := [some (.int v), some (.int (nI n))]) (by decide +kernel) rfl (Nat.le_of_ble_eq_true rfl) (cat_ok rfl) ?_
  refine go_iload_0 (DL_low.at 0 rfl) ?_
  refine go_ldc (DL_low.at 1 rfl) kL_9 ?_
  refine go_iand (DL_low.at 2 rfl) ?_
  obtain ⟨j, hj, ej⟩ := pk_andE v (m := 2147483647) 31 (by decide)
  rw [ej]
  refine go_iload_1 (DL_low.at 3 rfl) ?_
  refine go_irem (DL_low.at 4 rfl) (nI_ne0 h0 h31) ?_
  rw [pk_rem (by omega) h0 h31]
  exact go_iret (DL_low.at 5 rfl) rfl rfl (RI.mk ⟨rfl, _, Nat.mod_lt _ h0, rfl⟩)

theorem c_data (hL : LA h ρ) (hY : LY A ρ) : Calls E mL_data d 0 0 [.ref 52] h (RX (nI (aG A * aS A)) h) := by
  refine Calls.of (ls := [some (.ref 52)]) (by decide +kernel) rfl (Nat.le_of_ble_eq_true rfl) (cat_ok rfl) ?_
  have hLO := hY.1
  have hT3 : aT A ≤ 3 := hY.2.1
  have hn := hLO.nc
  have hg4 : aG A ≤ 4 := hLO.2.1
  have hg1 : 1 ≤ aG A := hLO.1
  have hs6 : aS A ≤ 6 := hLO.2.2.2.1
  have hs2 : 2 ≤ aS A := hLO.2.2.1
  have hgs : aG A * aS A ≤ 15 := hLO.2.2.2.2.1
  have hH5 : aH A ≤ 5 := hLO.2.2.2.2.2.2.2
  have hT1 : 1 ≤ aT A := hLO.2.2.2.2.2.1
  have en : nc (aG A) (aS A) = aG A * aS A + aG A + 2 := rfl
  refine go_aload_0 (DL_data.at 0 rfl) ?_
  refine go_iconst (v := nI 0) (DL_data.at 1 rfl) (by decide) ?_
  refine go_ialdL 0 (DL_data.at 2 rfl) hL (by decide) (show 0 < 9 by decide) ?_
  rw [hY.2.2.1]
  refine go_aload_0 (DL_data.at 3 rfl) ?_
  refine go_iconst (v := nI 1) (DL_data.at 4 rfl) (by decide) ?_
  refine go_ialdL 0 (DL_data.at 5 rfl) hL (by decide) (show 1 < 9 by decide) ?_
  rw [hY.2.2.2.1]
  refine go_imul (DL_data.at 6 rfl) ?_
  rw [pk_mul]
  exact go_iret (DL_data.at 7 rfl) rfl rfl (RX.mk rfl rfl)

theorem c_all (hL : LA h ρ) (hY : LY A ρ) : Calls E mL_all d 0 0 [.ref 52] h (RX (nI (nc (aG A) (aS A))) h) := by
  refine Calls.of (ls := [some (.ref 52)]) (by decide +kernel) rfl (Nat.le_of_ble_eq_true rfl) (cat_ok rfl) ?_
  have hLO := hY.1
  have hT3 : aT A ≤ 3 := hY.2.1
  have hn := hLO.nc
  have hg4 : aG A ≤ 4 := hLO.2.1
  have hg1 : 1 ≤ aG A := hLO.1
  have hs6 : aS A ≤ 6 := hLO.2.2.2.1
  have hs2 : 2 ≤ aS A := hLO.2.2.1
  have hgs : aG A * aS A ≤ 15 := hLO.2.2.2.2.1
  have hH5 : aH A ≤ 5 := hLO.2.2.2.2.2.2.2
  have hT1 : 1 ≤ aT A := hLO.2.2.2.2.2.1
  have en : nc (aG A) (aS A) = aG A * aS A + aG A + 2 := rfl
  refine go_aload_0 (DL_all.at 0 rfl) ?_
  refine go_iconst (v := nI 0) (DL_all.at 1 rfl) (by decide) ?_
  refine go_ialdL 0 (DL_all.at 2 rfl) hL (by decide) (show 0 < 9 by decide) ?_
  rw [hY.2.2.1]
  refine go_aload_0 (DL_all.at 3 rfl) ?_
  refine go_iconst (v := nI 1) (DL_all.at 4 rfl) (by decide) ?_
  refine go_ialdL 0 (DL_all.at 5 rfl) hL (by decide) (show 1 < 9 by decide) ?_
  rw [hY.2.2.2.1]
  refine go_imul (DL_all.at 6 rfl) ?_
  rw [pk_mul]
  refine go_aload_0 (DL_all.at 7 rfl) ?_
  refine go_iconst (v := nI 0) (DL_all.at 8 rfl) (by decide) ?_
  refine go_ialdL 0 (DL_all.at 9 rfl) hL (by decide) (show 0 < 9 by decide) ?_
  rw [hY.2.2.1]
  refine go_iadd (DL_all.at 10 rfl) ?_
  rw [nI_add]
  refine go_iconst (v := nI 2) (DL_all.at 11 rfl) (by decide) ?_
  refine go_iadd (DL_all.at 12 rfl) ?_
  rw [nI_add]
  exact go_iret (DL_all.at 13 rfl) rfl rfl (RX.mk rfl rfl)

theorem c_group {c : Nat} (hc : c < nc (aG A) (aS A)) (hL : LA h ρ) (hY : LY A ρ) (hd : 1 ≤ d) : Calls E mL_group d 0 0 [.int (nI c), .ref 52] h (RX (nI (grf (aG A) (aS A) c)) h) := by
  refine Calls.of (ls := [some (.int (nI c)), some (.ref 52)]) (by decide +kernel) rfl (Nat.le_of_ble_eq_true rfl) (cat_ok rfl) ?_
  have hLO := hY.1
  have hT3 : aT A ≤ 3 := hY.2.1
  have hn := hLO.nc
  have hg4 : aG A ≤ 4 := hLO.2.1
  have hg1 : 1 ≤ aG A := hLO.1
  have hs6 : aS A ≤ 6 := hLO.2.2.2.1
  have hs2 : 2 ≤ aS A := hLO.2.2.1
  have hgs : aG A * aS A ≤ 15 := hLO.2.2.2.2.1
  have hH5 : aH A ≤ 5 := hLO.2.2.2.2.2.2.2
  have hT1 : 1 ≤ aT A := hLO.2.2.2.2.2.1
  have en : nc (aG A) (aS A) = aG A * aS A + aG A + 2 := rfl
  refine go_iload_0 (DL_group.at 0 rfl) ?_
  refine go_aload_1 (DL_group.at 1 rfl) ?_
  refine go_cSx1 (DL_group.at 2 rfl) nL_10 vL_data (by omega) (c_data hL hY) (Nat.le_of_ble_eq_true rfl) ?_
  refine go_icmp_ge 16 (DL_group.at 3 rfl) (by decide) (fun c5 => ?_) (fun c5 => ?_)
  · rw [nI_leI (by omega) (by omega)] at c5
    have eh : hcv (aG A) (aS A) c = c - aG A * aS A := if_neg (by omega)
    refine go_iload_0 (DL_group.at 10 rfl) ?_
    refine go_aload_1 (DL_group.at 11 rfl) ?_
    refine go_cSx1 (DL_group.at 12 rfl) nL_10 vL_data (by omega) (c_data hL hY) (Nat.le_of_ble_eq_true rfl) ?_
    refine go_aload_1 (DL_group.at 13 rfl) ?_
    refine go_iconst (v := nI 0) (DL_group.at 14 rfl) (by decide) ?_
    refine go_ialdL 0 (DL_group.at 15 rfl) hL (by decide) (show 0 < 9 by decide) ?_
    rw [hY.2.2.1]
    refine go_iadd (DL_group.at 16 rfl) ?_
    refine go_icmp_ge 37 (DL_group.at 17 rfl) (by decide) (fun c25 => ?_) (fun c25 => ?_)
    · rw [nI_add, nI_leI (by omega) (by omega)] at c25
      refine go_bipush (v := nI 9) (DL_group.at 23 rfl) (by decide) ?_
      exact go_iret (DL_group.at 24 rfl) rfl rfl (RX.mk (by unfold grf; rw [eh, if_neg (by omega)]) rfl)
    · rw [nI_add, nI_leI (by omega) (by omega)] at c25
      refine go_iload_0 (DL_group.at 18 rfl) ?_
      refine go_aload_1 (DL_group.at 19 rfl) ?_
      refine go_cSx1 (DL_group.at 20 rfl) nL_10 vL_data (by omega) (c_data hL hY) (Nat.le_of_ble_eq_true rfl) ?_
      refine go_isub (DL_group.at 21 rfl) ?_
      rw [pk_sub (by omega)]
      refine go_goto 39 (DL_group.at 22 rfl) (by decide) ?_
      exact go_iret (DL_group.at 24 rfl) rfl rfl (RX.mk (by unfold grf; rw [eh, if_pos (by omega)]) rfl)
  · rw [nI_leI (by omega) (by omega)] at c5
    have hh : hcv (aG A) (aS A) c < aG A := hcv_ltg (by omega)
    have eh : hcv (aG A) (aS A) c = c / aS A := if_pos (by omega)
    refine go_iload_0 (DL_group.at 4 rfl) ?_
    refine go_aload_1 (DL_group.at 5 rfl) ?_
    refine go_iconst (v := nI 1) (DL_group.at 6 rfl) (by decide) ?_
    refine go_ialdL 0 (DL_group.at 7 rfl) hL (by decide) (show 1 < 9 by decide) ?_
    rw [hY.2.2.2.1]
    refine go_idiv (DL_group.at 8 rfl) (nI_ne0 (by omega) (by omega)) ?_
    rw [pk_div (by omega) (by omega) (by omega)]
    refine go_goto 39 (DL_group.at 9 rfl) (by decide) ?_
    exact go_iret (DL_group.at 24 rfl) rfl rfl (RX.mk (by unfold grf; rw [if_pos hh, eh]) rfl)

theorem c_lnode {t c : Nat} (ht : t < aT A) (hc : c < nc (aG A) (aS A)) (hL : LA h ρ) (hY : LY A ρ) (hd : 1 ≤ d) : Calls E mL_node d 0 0 [.int (nI t), .int (nI c), .ref 52] h (RX (nI ((c + t * aH A) % nc (aG A) (aS A))) h) := by
  refine Calls.of (ls := [some (.int (nI t)), some (.int (nI c)), some (.ref 52)]) (by decide +kernel) rfl (Nat.le_of_ble_eq_true rfl) (cat_ok rfl) ?_
  have hLO := hY.1
  have hT3 : aT A ≤ 3 := hY.2.1
  have hn := hLO.nc
  have hg4 : aG A ≤ 4 := hLO.2.1
  have hg1 : 1 ≤ aG A := hLO.1
  have hs6 : aS A ≤ 6 := hLO.2.2.2.1
  have hs2 : 2 ≤ aS A := hLO.2.2.1
  have hgs : aG A * aS A ≤ 15 := hLO.2.2.2.2.1
  have hH5 : aH A ≤ 5 := hLO.2.2.2.2.2.2.2
  have hT1 : 1 ≤ aT A := hLO.2.2.2.2.2.1
  have en : nc (aG A) (aS A) = aG A * aS A + aG A + 2 := rfl
  refine go_iload_1 (DL_node.at 0 rfl) ?_
  refine go_iload_0 (DL_node.at 1 rfl) ?_
  refine go_aload_2 (DL_node.at 2 rfl) ?_
  refine go_iconst (v := nI 3) (DL_node.at 3 rfl) (by decide) ?_
  refine go_ialdL 0 (DL_node.at 4 rfl) hL (by decide) (show 3 < 9 by decide) ?_
  rw [hY.2.2.2.2.2]
  refine go_imul (DL_node.at 5 rfl) ?_
  rw [pk_mul]
  refine go_iadd (DL_node.at 6 rfl) ?_
  rw [nI_add]
  refine go_aload_2 (DL_node.at 7 rfl) ?_
  refine go_cSx1 (DL_node.at 8 rfl) nL_16 vL_all (by omega) (c_all hL hY) (Nat.le_of_ble_eq_true rfl) ?_
  refine go_irem (DL_node.at 9 rfl) (nI_ne0 (by omega) (by omega)) ?_
  rw [pk_rem (by have : t * aH A ≤ 2 * 5 := Nat.mul_le_mul (by omega) hH5; omega) (by omega) (by omega)]
  exact go_iret (DL_node.at 10 rfl) rfl rfl (RX.mk rfl rfl)

theorem c_lcellOn {t nd : Nat} (ht : t < aT A) (hc : nd ≤ nc (aG A) (aS A)) (hL : LA h ρ) (hY : LY A ρ) (hd : 1 ≤ d) : Calls E mL_cellOn d 0 0 [.int (nI nd), .int (nI t), .ref 52] h (RX (nI (cnA A nd t)) h) := by
  refine Calls.of (ls := [some (.int (nI nd)), some (.int (nI t)), some (.ref 52)]) (by decide +kernel) rfl (Nat.le_of_ble_eq_true rfl) (cat_ok rfl) ?_
  have hLO := hY.1
  have hT3 : aT A ≤ 3 := hY.2.1
  have hn := hLO.nc
  have hg4 : aG A ≤ 4 := hLO.2.1
  have hg1 : 1 ≤ aG A := hLO.1
  have hs6 : aS A ≤ 6 := hLO.2.2.2.1
  have hs2 : 2 ≤ aS A := hLO.2.2.1
  have hgs : aG A * aS A ≤ 15 := hLO.2.2.2.2.1
  have hH5 : aH A ≤ 5 := hLO.2.2.2.2.2.2.2
  have hT1 : 1 ≤ aT A := hLO.2.2.2.2.2.1
  have en : nc (aG A) (aS A) = aG A * aS A + aG A + 2 := rfl
  have ht2 : t * aH A ≤ 2 * 5 := Nat.mul_le_mul (by omega) hH5
  refine go_iload_0 (DL_cellOn.at 0 rfl) ?_
  refine go_bipush (v := nI 40) (DL_cellOn.at 1 rfl) (by decide) ?_
  refine go_aload_2 (DL_cellOn.at 2 rfl) ?_
  refine go_cSx1 (DL_cellOn.at 3 rfl) nL_16 vL_all (by omega) (c_all hL hY) (Nat.le_of_ble_eq_true rfl) ?_
  refine go_imul (DL_cellOn.at 4 rfl) ?_
  rw [pk_mul]
  refine go_iadd (DL_cellOn.at 5 rfl) ?_
  rw [nI_add]
  refine go_iload_1 (DL_cellOn.at 6 rfl) ?_
  refine go_aload_2 (DL_cellOn.at 7 rfl) ?_
  refine go_iconst (v := nI 3) (DL_cellOn.at 8 rfl) (by decide) ?_
  refine go_ialdL 0 (DL_cellOn.at 9 rfl) hL (by decide) (show 3 < 9 by decide) ?_
  rw [hY.2.2.2.2.2]
  refine go_imul (DL_cellOn.at 10 rfl) ?_
  rw [pk_mul]
  refine go_isub (DL_cellOn.at 11 rfl) ?_
  rw [pk_sub (by omega)]
  refine go_aload_2 (DL_cellOn.at 12 rfl) ?_
  refine go_cSx1 (DL_cellOn.at 13 rfl) nL_16 vL_all (by omega) (c_all hL hY) (Nat.le_of_ble_eq_true rfl) ?_
  refine go_irem (DL_cellOn.at 14 rfl) (nI_ne0 (by omega) (by omega)) ?_
  rw [pk_rem (by omega) (by omega) (by omega)]
  exact go_iret (DL_cellOn.at 15 rfl) rfl rfl (RX.mk rfl rfl)

theorem c_ones {M : Nat} (hM : M < 2 ^ 20) : Calls E mL_ones d 0 0 [.int (nI M)] h (RX (nI (pcn M 20)) h) := by
  refine Calls.of (ls := [some (.int (nI M)), none, none]) (by decide +kernel) rfl (Nat.le_of_ble_eq_true rfl) (cat_ok rfl) ?_
  have loop : ∀ (m x y : Nat), x ≤ m → x < 2 ^ 20 → y + pcn x 20 = pcn M 20 → Go E mL_ones d 0 0 4 [some (.int (nI M)), some (.int (nI y)), some (.int (nI x))] [] h (RX (nI (pcn M 20)) h) := by
    intro m
    induction m with
    | zero =>
      intro x y hm hx hy
      have e0 : x = 0 := by omega
      subst e0
      rw [pcn_z, Nat.add_zero] at hy
      subst hy
      refine go_iload_2 (DL_ones.at 4 rfl) ?_
      refine go_if_eq 20 (DL_ones.at 5 rfl) (by decide) (fun c5 => ?_) (fun c5 => absurd (show nI 0 = 0 by decide) c5)
      refine go_iload_1 (DL_ones.at 14 rfl) ?_
      exact go_iret (DL_ones.at 15 rfl) rfl rfl (RX.mk rfl rfl)
    | succ m ih =>
      intro x y hm hx hy
      refine go_iload_2 (DL_ones.at 4 rfl) ?_
      refine go_if_eq 20 (DL_ones.at 5 rfl) (by decide) (fun c5 => ?_) (fun c5 => ?_)
      · rw [nI_eq0 (by omega)] at c5
        subst c5
        rw [pcn_z, Nat.add_zero] at hy
        refine go_iload_1 (DL_ones.at 14 rfl) ?_
        exact go_iret (DL_ones.at 15 rfl) rfl rfl (RX.mk (by rw [hy]) rfl)
      · rw [nI_eq0 (by omega)] at c5
        obtain ⟨l1, l2⟩ := pcn_low 20 x c5 hx
        refine go_iincN_1 (DL_ones.at 6 rfl) ?_
        refine go_iload_2 (DL_ones.at 7 rfl) ?_
        refine go_iload_2 (DL_ones.at 8 rfl) ?_
        refine go_iconst (v := nI 1) (DL_ones.at 9 rfl) (by decide) ?_
        refine go_isub (DL_ones.at 10 rfl) ?_
        rw [pk_sub (by omega)]
        refine go_iand (DL_ones.at 11 rfl) ?_
        rw [nx_and]
        refine go_istore_2 (DL_ones.at 12 rfl) ?_
        refine go_goto 4 (DL_ones.at 13 rfl) (by decide) ?_
        exact ih _ _ (by omega) (by omega) (by omega)
  refine go_iconst (v := nI 0) (DL_ones.at 0 rfl) (by decide) ?_
  refine go_istore_1 (DL_ones.at 1 rfl) ?_
  refine go_iload_0 (DL_ones.at 2 rfl) ?_
  refine go_istore_2 (DL_ones.at 3 rfl) ?_
  exact loop M M 0 (Nat.le_refl _) hM (Nat.zero_add _)
/-- the product, bit by bit -/
def tmT (a : Nat) : Nat → Nat
  | 0 => a
  | k + 1 => if tmT a k < 8 then 2 * tmT a k else (2 * tmT a k) ^^^ 19
def tmS (a b : Nat) : Nat → Nat
  | 0 => 0
  | k + 1 => tmS a b k ^^^ (if b / 2 ^ k % 2 = 1 then tmT a k else 0)
theorem tm_gm {a b : Nat} : a < 16 → b < 16 → tmS a b 4 = gm a b := dec2 (P := fun a b => tmS a b 4 = gm a b) (by decide +kernel)
theorem tmT_tab {a : Nat} : a < 16 → (tmT a 0 < 16 ∧ tmT a 1 < 16) ∧ (tmT a 2 < 16 ∧ tmT a 3 < 16) := dec1 (P := fun a => (tmT a 0 < 16 ∧ tmT a 1 < 16) ∧ (tmT a 2 < 16 ∧ tmT a 3 < 16)) (by decide +kernel)
theorem tmT_lt {a k : Nat} (ha : a < 16) (hk : k < 4) : tmT a k < 16 := by
  have h := tmT_tab ha
  rcases (show k = 0 ∨ k = 1 ∨ k = 2 ∨ k = 3 by omega) with rfl | rfl | rfl | rfl
  · exact h.1.1
  · exact h.1.2
  · exact h.2.1
  · exact h.2.2
theorem c_times {a b : Nat} (ha : a < 16) (hb : b < 16) : Calls E mL_times d 0 0 [.int (nI a), .int (nI b)] h (RX (nI (gm a b)) h) := by
  refine Calls.of (ls := [some (.int (nI a)), some (.int (nI b)), none, none, none]) (by decide +kernel) rfl (Nat.le_of_ble_eq_true rfl) (cat_ok rfl) ?_
  have loop : ∀ (m j : Nat), j + m = 4 → Go E mL_times d 0 0 7 [some (.int (nI a)), some (.int (nI b)), some (.int (nI (tmS a b j))), some (.int (nI (tmT a j))), some (.int (nI j))] [] h (RX (nI (gm a b)) h) := by
    intro m
    induction m with
    | zero =>
      intro j hj
      have ej : j = 4 := by omega
      subst ej
      refine go_iload_4 (DL_times.at 6 rfl) ?_
      refine go_iconst (v := nI 4) (DL_times.at 7 rfl) (by decide) ?_
      refine go_icmp_ge 56 (DL_times.at 8 rfl) (by decide) (fun c10 => ?_) (fun c10 => absurd (Int32.le_refl (nI 4)) c10)
      refine go_iload_2 (DL_times.at 37 rfl) ?_
      exact go_iret (DL_times.at 38 rfl) rfl rfl (RX.mk (by rw [tm_gm ha hb]) rfl)
    | succ m ih =>
      intro j hj
      have hj4 : j < 4 := by omega
      have hT16 := tmT_lt ha hj4
      refine go_iload_4 (DL_times.at 6 rfl) ?_
      refine go_iconst (v := nI 4) (DL_times.at 7 rfl) (by decide) ?_
      refine go_icmp_ge 56 (DL_times.at 8 rfl) (by decide) (fun c10 => absurd c10 (by rw [nI_leI (by decide) (by omega)]; omega)) (fun c10 => ?_)
      refine go_iload_2 (DL_times.at 9 rfl) ?_
      refine go_iload_1 (DL_times.at 10 rfl) ?_
      refine go_iload_4 (DL_times.at 11 rfl) ?_
      refine go_ishr (DL_times.at 12 rfl) ?_
      refine go_iconst (v := nI 1) (DL_times.at 13 rfl) (by decide) ?_
      refine go_iand (DL_times.at 14 rfl) ?_
      rw [nx_bit (by omega) (by omega)]
      refine go_iconst (v := nI 1) (DL_times.at 15 rfl) (by decide) ?_
      refine go_icmp_ne 28 (DL_times.at 16 rfl) (by decide) (fun c21 => ?_) (fun c21 => ?_)
      · rw [nI_eq (by omega) (by decide)] at c21
        have eS : tmS a b (j + 1) = tmS a b j ^^^ 0 := by show tmS a b j ^^^ (if b / 2 ^ j % 2 = 1 then tmT a j else 0) = _; rw [if_neg c21]
        refine go_iconst (v := nI 0) (DL_times.at 19 rfl) (by decide) ?_
        refine go_ixor (DL_times.at 20 rfl) ?_
        rw [nx_xor, ← eS]
        refine go_istore_2 (DL_times.at 21 rfl) ?_
        refine go_iload_3 (DL_times.at 22 rfl) ?_
        refine go_bipush (v := nI 8) (DL_times.at 23 rfl) (by decide) ?_
        refine go_icmp_ge 43 (DL_times.at 24 rfl) (by decide) (fun c34 => ?_) (fun c34 => ?_)
        · rw [nI_leI (by decide) (by omega)] at c34
          have eT : tmT a (j + 1) = (2 * tmT a j) ^^^ 19 := if_neg (by omega)
          refine go_iconst (v := nI 2) (DL_times.at 29 rfl) (by decide) ?_
          refine go_iload_3 (DL_times.at 30 rfl) ?_
          refine go_imul (DL_times.at 31 rfl) ?_
          rw [pk_mul]
          refine go_bipush (v := nI 19) (DL_times.at 32 rfl) (by decide) ?_
          refine go_ixor (DL_times.at 33 rfl) ?_
          rw [nx_xor]
          refine go_istore_3 (DL_times.at 34 rfl) ?_
          rw [← eT]
          refine go_iincN_4 (DL_times.at 35 rfl) ?_
          refine go_goto 7 (DL_times.at 36 rfl) (by decide) ?_
          exact ih (j + 1) (by omega)
        · rw [nI_leI (by decide) (by omega)] at c34
          have eT : tmT a (j + 1) = 2 * tmT a j := if_pos (by omega)
          refine go_iconst (v := nI 2) (DL_times.at 25 rfl) (by decide) ?_
          refine go_iload_3 (DL_times.at 26 rfl) ?_
          refine go_imul (DL_times.at 27 rfl) ?_
          rw [pk_mul]
          refine go_goto 49 (DL_times.at 28 rfl) (by decide) ?_
          refine go_istore_3 (DL_times.at 34 rfl) ?_
          rw [← eT]
          refine go_iincN_4 (DL_times.at 35 rfl) ?_
          refine go_goto 7 (DL_times.at 36 rfl) (by decide) ?_
          exact ih (j + 1) (by omega)
      · rw [nI_eq (by omega) (by decide)] at c21
        have eS : tmS a b (j + 1) = tmS a b j ^^^ tmT a j := by show tmS a b j ^^^ (if b / 2 ^ j % 2 = 1 then tmT a j else 0) = _; rw [if_pos c21]
        refine go_iload_3 (DL_times.at 17 rfl) ?_
        refine go_goto 29 (DL_times.at 18 rfl) (by decide) ?_
        refine go_ixor (DL_times.at 20 rfl) ?_
        rw [nx_xor, ← eS]
        refine go_istore_2 (DL_times.at 21 rfl) ?_
        refine go_iload_3 (DL_times.at 22 rfl) ?_
        refine go_bipush (v := nI 8) (DL_times.at 23 rfl) (by decide) ?_
        refine go_icmp_ge 43 (DL_times.at 24 rfl) (by decide) (fun c34 => ?_) (fun c34 => ?_)
        · rw [nI_leI (by decide) (by omega)] at c34
          have eT : tmT a (j + 1) = (2 * tmT a j) ^^^ 19 := if_neg (by omega)
          refine go_iconst (v := nI 2) (DL_times.at 29 rfl) (by decide) ?_
          refine go_iload_3 (DL_times.at 30 rfl) ?_
          refine go_imul (DL_times.at 31 rfl) ?_
          rw [pk_mul]
          refine go_bipush (v := nI 19) (DL_times.at 32 rfl) (by decide) ?_
          refine go_ixor (DL_times.at 33 rfl) ?_
          rw [nx_xor]
          refine go_istore_3 (DL_times.at 34 rfl) ?_
          rw [← eT]
          refine go_iincN_4 (DL_times.at 35 rfl) ?_
          refine go_goto 7 (DL_times.at 36 rfl) (by decide) ?_
          exact ih (j + 1) (by omega)
        · rw [nI_leI (by decide) (by omega)] at c34
          have eT : tmT a (j + 1) = 2 * tmT a j := if_pos (by omega)
          refine go_iconst (v := nI 2) (DL_times.at 25 rfl) (by decide) ?_
          refine go_iload_3 (DL_times.at 26 rfl) ?_
          refine go_imul (DL_times.at 27 rfl) ?_
          rw [pk_mul]
          refine go_goto 49 (DL_times.at 28 rfl) (by decide) ?_
          refine go_istore_3 (DL_times.at 34 rfl) ?_
          rw [← eT]
          refine go_iincN_4 (DL_times.at 35 rfl) ?_
          refine go_goto 7 (DL_times.at 36 rfl) (by decide) ?_
          exact ih (j + 1) (by omega)
  refine go_iconst (v := nI 0) (DL_times.at 0 rfl) (by decide) ?_
  refine go_istore_2 (DL_times.at 1 rfl) ?_
  refine go_iload_0 (DL_times.at 2 rfl) ?_
  refine go_istore_3 (DL_times.at 3 rfl) ?_
  refine go_iconst (v := nI 0) (DL_times.at 4 rfl) (by decide) ?_
  refine go_istore_4 (DL_times.at 5 rfl) ?_
  exact loop 4 0 (by decide)

theorem pw_2 {k : Nat} (hk : k < 30) : gm (pw k) 2 = pw (k + 1) := by
  have h := List.all_eq_true.mp (show (List.range 30).all (fun k => decide (gm (pw k) 2 = pw (k + 1))) = true by decide +kernel) k (List.mem_range.mpr hk)
  exact of_decide_eq_true h
theorem c_power {k : Nat} (hk : k < 30) (hd : 1 ≤ d) : Calls E mL_power d 0 0 [.int (nI k)] h (RX (nI (pw k)) h) := by
  refine Calls.of (ls := [some (.int (nI k)), none, none]) (by decide +kernel) rfl (Nat.le_of_ble_eq_true rfl) (cat_ok rfl) ?_
  have loop : ∀ (m j : Nat), j + m = k → Go E mL_power d 0 0 4 [some (.int (nI k)), some (.int (nI (pw j))), some (.int (nI j))] [] h (RX (nI (pw k)) h) := by
    intro m
    induction m with
    | zero =>
      intro j hj
      have ej : k = j := by omega
      subst ej
      refine go_iload_2 (DL_power.at 4 rfl) ?_
      refine go_iload_0 (DL_power.at 5 rfl) ?_
      refine go_icmp_ge 21 (DL_power.at 6 rfl) (by decide) (fun c6 => ?_) (fun c6 => absurd (Int32.le_refl _) c6)
      refine go_iload_1 (DL_power.at 13 rfl) ?_
      exact go_iret (DL_power.at 14 rfl) rfl rfl (RX.mk rfl rfl)
    | succ m ih =>
      intro j hj
      refine go_iload_2 (DL_power.at 4 rfl) ?_
      refine go_iload_0 (DL_power.at 5 rfl) ?_
      refine go_icmp_ge 21 (DL_power.at 6 rfl) (by decide) (fun c6 => absurd c6 (by rw [nI_leI (by omega) (by omega)]; omega)) (fun c6 => ?_)
      refine go_iload_1 (DL_power.at 7 rfl) ?_
      refine go_iconst (v := nI 2) (DL_power.at 8 rfl) (by decide) ?_
      refine go_cSx2 (DL_power.at 9 rfl) nL_19 vL_times (by omega) (c_times (pw_lt _) (show 2 < 16 by decide)) (Nat.le_of_ble_eq_true rfl) ?_
      rw [pw_2 (by omega)]
      refine go_istore_1 (DL_power.at 10 rfl) ?_
      refine go_iincN_2 (DL_power.at 11 rfl) ?_
      refine go_goto 4 (DL_power.at 12 rfl) (by decide) ?_
      exact ih (j + 1) (by omega)
  refine go_iconst (v := nI 1) (DL_power.at 0 rfl) (by decide) ?_
  refine go_istore_1 (DL_power.at 1 rfl) ?_
  refine go_iconst (v := nI 0) (DL_power.at 2 rfl) (by decide) ?_
  refine go_istore_2 (DL_power.at 3 rfl) ?_
  exact loop k 0 (Nat.zero_add k)

end LM
