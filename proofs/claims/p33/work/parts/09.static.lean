/-! STATIC METHODS, by contract -/
section ST
variable {E : AEnv} {d : Nat} {h : List va_E}
theorem c_isWithin {x a b : Int32} : Calls E mX5_isWithin d 0 0 [.int x, .int a, .int b] h (RX (bI (a ≤ x ∧ x ≤ b)) h) := by
  refine Calls.of (ls := [some (.int x), some (.int a), some (.int b)]) (by decide +kernel) rfl (Nat.le_of_ble_eq_true rfl) (cat_ok rfl) ?_
  refine go_iload_0 (DX5_isWithin.at 0 rfl) ?_
  refine go_iload_1 (DX5_isWithin.at 1 rfl) ?_
  refine go_icmp_lt 14 (DX5_isWithin.at 2 rfl) (by decide) (fun c2 => ?_) (fun c2 => ?_)
  · have e0 : bI (a ≤ x ∧ x ≤ b) = nI 0 := bI_f (fun q => absurd q.1 (Int32.not_le.mpr c2))
    refine go_iconst (v := nI 0) (DX5_isWithin.at 8 rfl) (by decide) ?_
    exact go_iret (DX5_isWithin.at 9 rfl) rfl rfl (RX.mk e0.symm rfl)
  · refine go_iload_0 (DX5_isWithin.at 3 rfl) ?_
    refine go_iload_2 (DX5_isWithin.at 4 rfl) ?_
    refine go_icmp_gt 14 (DX5_isWithin.at 5 rfl) (by decide) (fun c7 => ?_) (fun c7 => ?_)
    · have e0 : bI (a ≤ x ∧ x ≤ b) = nI 0 := bI_f (fun q => absurd q.2 (Int32.not_le.mpr c7))
      refine go_iconst (v := nI 0) (DX5_isWithin.at 8 rfl) (by decide) ?_
      exact go_iret (DX5_isWithin.at 9 rfl) rfl rfl (RX.mk e0.symm rfl)
    · have e0 : bI (a ≤ x ∧ x ≤ b) = nI 1 := bI_t ⟨Int32.not_lt.mp c2, Int32.not_lt.mp c7⟩
      refine go_iconst (v := nI 1) (DX5_isWithin.at 6 rfl) (by decide) ?_
      refine go_goto 15 (DX5_isWithin.at 7 rfl) (by decide) ?_
      exact go_iret (DX5_isWithin.at 9 rfl) rfl rfl (RX.mk e0.symm rfl)

theorem c_at {a n k : Nat} {f : Nat → Int32} (hg : ArrR E h a n f) (hk : k < n) (hn : n < 2 ^ 31) : Calls E mX5_at d 0 0 [.ref a, .int (nI k)] h (RX (f k) h) := by
  refine Calls.of (ls := [some (.ref a), some (.int (nI k))]) (by decide +kernel) rfl (Nat.le_of_ble_eq_true rfl) (cat_ok rfl) ?_
  refine go_aload_0 (DX5_at.at 0 rfl) ?_
  refine go_ifnull (DX5_at.at 1 rfl) ?_
  refine go_iload_1 (DX5_at.at 2 rfl) ?_
  refine go_if_lt 20 (DX5_at.at 3 rfl) (by decide) (fun c5 => absurd c5 (nI_pos (by omega))) (fun c5 => ?_)
  refine go_iload_1 (DX5_at.at 4 rfl) ?_
  refine go_aload_0 (DX5_at.at 5 rfl) ?_
  refine go_alen (DX5_at.at 6 rfl) hg rfl ?_
  refine go_icmp_ge 20 (DX5_at.at 7 rfl) (by decide) (fun c11 => absurd c11 (nI_ge hk hn)) (fun c11 => ?_)
  refine go_aload_0 (DX5_at.at 8 rfl) ?_
  refine go_iload_1 (DX5_at.at 9 rfl) ?_
  refine go_iaload (DX5_at.at 10 rfl) hg (vp_in_nI hk hn) ?_
  refine go_goto 21 (DX5_at.at 11 rfl) (by decide) ?_
  exact go_iret (DX5_at.at 13 rfl) rfl rfl (RX.mk (by rw [nI_cl (by omega)]) rfl)

theorem c_put {a n k : Nat} {x : Int32} {f : Nat → Int32} (hg : h[a]? = some (.inl (0, n, .inl f))) (hk : k < n) (hn : n < 2 ^ 31) : Calls E mX5_put d 0 0 [.ref a, .int (nI k), .int x] h (RV (fun h' => h' = h.set a (.inl (0, n, .inl (upd f k x))))) := by
  refine Calls.of (ls := [some (.ref a), some (.int (nI k)), some (.int x)]) (by decide +kernel) rfl (Nat.le_of_ble_eq_true rfl) (cat_ok rfl) ?_
  refine go_aload_0 (DX5_put.at 0 rfl) ?_
  refine go_ifnull (DX5_put.at 1 rfl) ?_
  refine go_iload_1 (DX5_put.at 2 rfl) ?_
  refine go_if_lt 18 (DX5_put.at 3 rfl) (by decide) (fun c5 => absurd c5 (nI_pos (by omega))) (fun c5 => ?_)
  refine go_iload_1 (DX5_put.at 4 rfl) ?_
  refine go_aload_0 (DX5_put.at 5 rfl) ?_
  refine go_alen (DX5_put.at 6 rfl) (Or.inl hg) rfl ?_
  refine go_icmp_ge 18 (DX5_put.at 7 rfl) (by decide) (fun c11 => absurd c11 (nI_ge hk hn)) (fun c11 => ?_)
  refine go_aload_0 (DX5_put.at 8 rfl) ?_
  refine go_iload_1 (DX5_put.at 9 rfl) ?_
  refine go_iload_2 (DX5_put.at 10 rfl) ?_
  refine go_iastore (DX5_put.at 11 rfl) hg (vp_in_nI hk hn) ?_
  exact go_return (DX5_put.at 12 rfl) rfl (RV.mk (by rw [nI_cl (by omega)]))

def xti : Nat → Nat → Nat
  | 0, a => a
  | j + 1, a => xt (xti j a)
def gmp : Nat → Nat → Nat → Nat
  | 0, _, _ => 0
  | j + 1, a, x => gmp j a x ^^^ (if x / 2 ^ j % 2 = 1 then xti j a else 0)
theorem xti_lt {a : Nat} (ha : a < 16) : ∀ j, xti j a < 16
  | 0 => ha
  | j + 1 => xt_lt (xti_lt ha j)
theorem gmp_lt {a x : Nat} (ha : a < 16) : ∀ j, gmp j a x < 16
  | 0 => by show 0 < 16; decide
  | j + 1 => by
    unfold gmp
    refine xor_lt (gmp_lt ha j) ?_
    split
    · exact xti_lt ha j
    · decide
theorem gmp_4 {a x : Nat} : a < 16 → x < 16 → gmp 4 a x = gm a x := dec2 (P := fun a x => gmp 4 a x = gm a x) (by decide +kernel)
theorem pq_lt24 {v : Nat → Nat} (hv : ∀ i, i < 6 → v i < 16) : pq 6 v < 16777216 := pq_lt 6 v hv
set_option maxHeartbeats 4000000 in
/-- one step of scaled's multiple -/
theorem sc_step {v : Nat → Nat} (hv : ∀ i, i < 6 → v i < 16) : ((nI (pq 6 v) &&& 7829367) <<< (nI 1 &&& 31)) ^^^ ((((nI (pq 6 v)).toUInt32 >>> ((nI 3).toUInt32 &&& Int32.toUInt32 31)).toInt32 &&& 1118481) * nI 3) = nI (pq 6 (fun i => xt (v i))) := by
  have hl := pq_lt24 hv
  have e7 : (7829367 : Int32) = nI 7829367 := by decide
  have e1 : (1118481 : Int32) = nI 1118481 := by decide
  have h7 : pq 6 v &&& 7829367 ≤ 7829367 := Nat.and_le_right
  rw [e7, e1, nx_and, nx_shl (by decide) (by omega), nx_ush (by omega) (by decide), nx_and, pk_mul, nx_xor]
  rw [← pq_xt v hv]
theorem cX5_307 : Jvm.Cond.constant RX5 307 7829367 ∈ BW := BW_mem (by decide +kernel) rfl
theorem cX5_308 : Jvm.Cond.constant RX5 308 1118481 ∈ BW := BW_mem (by decide +kernel) rfl
theorem c_scaled {v : Nat → Nat} {x : Nat} (hv : ∀ i, i < 6 → v i < 16) (hx : x < 16) : Calls E mX5_scaled d 0 0 [.int (nI (pq 6 v)), .int (nI x)] h (RX (nI (pq 6 (fun i => gm (v i) x))) h) := by
  refine Calls.of (ls := [some (.int (nI (pq 6 v))), some (.int (nI x)), none, none, none]) (by decide +kernel) rfl (Nat.le_of_ble_eq_true rfl) (cat_ok rfl) ?_
  obtain ⟨gmv, hgmv⟩ : ∃ g : Nat → Nat → Nat, g = fun j i => gmp j (v i) x := ⟨_, rfl⟩
  have g0 : nI 0 = nI (pq 6 (gmv 0)) := by rw [hgmv]; exact congrArg nI (pq_0 6).symm
  have loop : ∀ (m j : Nat), j + m = 4 → Go E mX5_scaled d 0 0 7 [some (.int (nI (pq 6 v))), some (.int (nI x)), some (.int (nI (pq 6 (gmv j)))), some (.int (nI (pq 6 (fun i => xti j (v i))))), some (.int (nI j))] [] h (RX (nI (pq 6 (fun i => gm (v i) x))) h) := by
    subst hgmv
    intro m
    refine Nat.rec (motive := fun m => ∀ j, j + m = 4 → Go E mX5_scaled d 0 0 7 [some (.int (nI (pq 6 v))), some (.int (nI x)), some (.int (nI (pq 6 (fun i => gmp j (v i) x)))), some (.int (nI (pq 6 (fun i => xti j (v i))))), some (.int (nI j))] [] h (RX (nI (pq 6 (fun i => gm (v i) x))) h)) ?_ ?_ m
    · intro j hjm
      have ej : j = 4 := by omega
      subst ej
      refine go_iload_4 (DX5_scaled.at 6 rfl) ?_
      refine go_iconst (v := nI 4) (DX5_scaled.at 7 rfl) (by decide) ?_
      refine go_icmp_ge 50 (DX5_scaled.at 8 rfl) (by decide) (fun c10 => ?_) (fun c10 => absurd (Int32.le_refl _) c10)
      refine go_iload_2 (DX5_scaled.at 35 rfl) ?_
      exact go_iret (DX5_scaled.at 36 rfl) rfl rfl (RX.mk (congrArg nI (pq_congr (fun i hi => gmp_4 (hv i hi) hx))) rfl)
    · intro m ih j hjm
      refine go_iload_4 (DX5_scaled.at 6 rfl) ?_
      refine go_iconst (v := nI 4) (DX5_scaled.at 7 rfl) (by decide) ?_
      refine go_icmp_ge 50 (DX5_scaled.at 8 rfl) (by decide) (fun c10 => absurd c10 (nI_ge (a := j) (b := 4) (by omega) (by decide))) (fun c10 => ?_)
      have eb : nI x >>> (nI j &&& 31) &&& nI 1 = nI (x / 2 ^ j % 2) := nx_bit (by omega) (by omega)
      refine go_iload_1 (DX5_scaled.at 9 rfl) ?_
      refine go_iload_4 (DX5_scaled.at 10 rfl) ?_
      refine go_ishr (DX5_scaled.at 11 rfl) ?_
      refine go_iconst (v := nI 1) (DX5_scaled.at 12 rfl) (by decide) ?_
      refine go_iand (DX5_scaled.at 13 rfl) ?_
      refine go_if_eq 26 (DX5_scaled.at 14 rfl) (by decide) (fun c19 => ?_) (fun c19 => ?_)
      · rw [eb, nI_eq0 (by omega)] at c19
        have ep : (fun i => gmp j (v i) x) = (fun i => gmp (j + 1) (v i) x) := by
          funext i
          show gmp j (v i) x = gmp j (v i) x ^^^ (if x / 2 ^ j % 2 = 1 then xti j (v i) else 0)
          rw [if_neg (by omega), Nat.xor_zero]
        rw [ep]
        refine go_iload_3 (DX5_scaled.at 19 rfl) ?_
        refine go_ldcw (DX5_scaled.at 20 rfl) cX5_307 ?_
        refine go_iand (DX5_scaled.at 21 rfl) ?_
        refine go_iconst (v := nI 1) (DX5_scaled.at 22 rfl) (by decide) ?_
        refine go_ishl (DX5_scaled.at 23 rfl) ?_
        refine go_iload_3 (DX5_scaled.at 24 rfl) ?_
        refine go_iconst (v := nI 3) (DX5_scaled.at 25 rfl) (by decide) ?_
        refine go_iushr (DX5_scaled.at 26 rfl) ?_
        refine go_ldcw (DX5_scaled.at 27 rfl) cX5_308 ?_
        refine go_iand (DX5_scaled.at 28 rfl) ?_
        refine go_iconst (v := nI 3) (DX5_scaled.at 29 rfl) (by decide) ?_
        refine go_imul (DX5_scaled.at 30 rfl) ?_
        refine go_ixor (DX5_scaled.at 31 rfl) ?_
        rw [sc_step (fun i hi => xti_lt (hv i hi) j)]
        refine go_istore_3 (DX5_scaled.at 32 rfl) ?_
        refine go_iincN_4 (DX5_scaled.at 33 rfl) ?_
        refine go_goto 7 (DX5_scaled.at 34 rfl) (by decide) ?_
        exact ih (j + 1) (by omega)
      · rw [eb, nI_eq0 (by omega)] at c19
        have ep : nI (pq 6 (fun i => gmp j (v i) x)) ^^^ nI (pq 6 (fun i => xti j (v i))) = nI (pq 6 (fun i => gmp (j + 1) (v i) x)) := by
          rw [nx_xor, pq_xor 6 _ _ (fun i hi => gmp_lt (hv i hi) j) (fun i hi => xti_lt (hv i hi) j)]
          congr 2
          funext i
          show gmp j (v i) x ^^^ xti j (v i) = gmp j (v i) x ^^^ (if x / 2 ^ j % 2 = 1 then xti j (v i) else 0)
          rw [if_pos (by omega)]
        refine go_iload_2 (DX5_scaled.at 15 rfl) ?_
        refine go_iload_3 (DX5_scaled.at 16 rfl) ?_
        refine go_ixor (DX5_scaled.at 17 rfl) ?_
        rw [ep]
        refine go_istore_2 (DX5_scaled.at 18 rfl) ?_
        refine go_iload_3 (DX5_scaled.at 19 rfl) ?_
        refine go_ldcw (DX5_scaled.at 20 rfl) cX5_307 ?_
        refine go_iand (DX5_scaled.at 21 rfl) ?_
        refine go_iconst (v := nI 1) (DX5_scaled.at 22 rfl) (by decide) ?_
        refine go_ishl (DX5_scaled.at 23 rfl) ?_
        refine go_iload_3 (DX5_scaled.at 24 rfl) ?_
        refine go_iconst (v := nI 3) (DX5_scaled.at 25 rfl) (by decide) ?_
        refine go_iushr (DX5_scaled.at 26 rfl) ?_
        refine go_ldcw (DX5_scaled.at 27 rfl) cX5_308 ?_
        refine go_iand (DX5_scaled.at 28 rfl) ?_
        refine go_iconst (v := nI 3) (DX5_scaled.at 29 rfl) (by decide) ?_
        refine go_imul (DX5_scaled.at 30 rfl) ?_
        refine go_ixor (DX5_scaled.at 31 rfl) ?_
        rw [sc_step (fun i hi => xti_lt (hv i hi) j)]
        refine go_istore_3 (DX5_scaled.at 32 rfl) ?_
        refine go_iincN_4 (DX5_scaled.at 33 rfl) ?_
        refine go_goto 7 (DX5_scaled.at 34 rfl) (by decide) ?_
        exact ih (j + 1) (by omega)
  refine go_iconst (v := nI 0) (DX5_scaled.at 0 rfl) (by decide) ?_
  refine go_istore_2 (DX5_scaled.at 1 rfl) ?_
  rw [g0]
  refine go_iload_0 (DX5_scaled.at 2 rfl) ?_
  refine go_istore_3 (DX5_scaled.at 3 rfl) ?_
  refine go_iconst (v := nI 0) (DX5_scaled.at 4 rfl) (by decide) ?_
  refine go_istore_4 (DX5_scaled.at 5 rfl) ?_
  exact loop 4 0 rfl

theorem c_element {v : Nat → Nat} {k : Nat} (hv : ∀ i, i < 6 → v i < 16) (hk : k < 6) : Calls E mX5_element d 0 0 [.int (nI (pq 6 v)), .int (nI k)] h (RX (nI (v k)) h) := by
  refine Calls.of (ls := [some (.int (nI (pq 6 v))), some (.int (nI k))]) (by decide +kernel) rfl (Nat.le_of_ble_eq_true rfl) (cat_ok rfl) ?_
  refine go_iload_0 (DX5_element.at 0 rfl) ?_
  refine go_iconst (v := nI 4) (DX5_element.at 1 rfl) (by decide) ?_
  refine go_iload_1 (DX5_element.at 2 rfl) ?_
  refine go_imul (DX5_element.at 3 rfl) ?_
  refine go_iushr (DX5_element.at 4 rfl) ?_
  refine go_bipush (v := nI 15) (DX5_element.at 5 rfl) (by decide) ?_
  refine go_iand (DX5_element.at 6 rfl) ?_
  exact go_iret (DX5_element.at 7 rfl) rfl rfl (RX.mk (by
    have hl := pq_lt24 hv
    rw [pk_mul, nx_ush (by omega) (by omega), nx_and, show (15 : Nat) = 2 ^ 4 - 1 from rfl, Nat.and_two_pow_sub_one_eq_mod, Nat.pow_mul]
    exact congrArg nI (pq_el 6 v hv k hk)) rfl)

end ST
