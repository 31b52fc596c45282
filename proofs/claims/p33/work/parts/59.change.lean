/-! THE LAW CHANGES ITS OWN STORE -/
section LM
variable {E : AEnv} {d : Nat} {h h' h0 : List va_E} {ρ ρ' : Nat → Nat → Int32} {A : Ab} {Z : Zt} {G : Nat → Option va_E}
theorem c_llose {t c : Nat} (ht : t < aT A) (hc : c < nc (aG A) (aS A)) (hnb : ¬ bit (aM A t) c) (hL : LA h ρ) (hR : LR A ρ) : Calls E mL_lose d 0 0 [.int (nI t), .int (nI c), .ref 52, .ref 54, .ref 55] h (RV (fun h' => LU (aLos A t c) ρ h h')) := by
  refine Calls.of (ls := [some (.int (nI t)), some (.int (nI c)), some (.ref 52), some (.ref 54), some (.ref 55)]) (by decide +kernel) rfl (Nat.le_of_ble_eq_true rfl) (cat_ok rfl) ?_
  have hA := hR.1
  have hY := hR.2.1
  have hLO := hY.1
  have hT3 : aT A ≤ 3 := hY.2.1
  have hn := hLO.nc
  have hg4 : aG A ≤ 4 := hLO.2.1
  have hg1 : 1 ≤ aG A := hLO.1
  have hs6 : aS A ≤ 6 := hLO.2.2.2.1
  have hs2 : 2 ≤ aS A := hLO.2.2.1
  have hgs : aG A * aS A ≤ 15 := hLO.2.2.2.2.1
  have hH5 : aH A ≤ 5 := hLO.2.2.2.2.2.2.2
  have hT1 : 1 ≤ aT A := hLO.2.2.2.2.2.1
  have en : nc (aG A) (aS A) = aG A * aS A + aG A + 2 := rfl
  have hq60 := hA.q60r hT3 ht hc hnb
  refine go_aload_3 (DL_lose.at 0 rfl) ?_
  refine go_iload_0 (DL_lose.at 1 rfl) ?_
  refine go_dup2 (DL_lose.at 2 rfl) rfl rfl ?_
  refine go_ialdL 2 (DL_lose.at 3 rfl) hL (by decide) (show t < 3 by omega) ?_
  rw [hR.2.2.2.2.2.1 t ht]
  refine go_iconst (v := nI 1) (DL_lose.at 4 rfl) (by decide) ?_
  refine go_iload_1 (DL_lose.at 5 rfl) ?_
  refine go_ishl (DL_lose.at 6 rfl) ?_
  rw [nx_shlW _ (by omega), Nat.one_mul]
  refine go_ior (DL_lose.at 7 rfl) ?_
  rw [nx_or]
  refine go_iastL 2 (DL_lose.at 8 rfl) hL (by decide) (show t < 3 by omega) (fun ha La Oa => ?_)
  refine go_aload_4 (DL_lose.at 9 rfl) ?_
  refine go_aload_2 (DL_lose.at 10 rfl) ?_
  refine go_iconst (v := nI 4) (DL_lose.at 11 rfl) (by decide) ?_
  refine go_ialdL 0 (DL_lose.at 12 rfl) La (by decide) (show 4 < 9 by decide) ?_
  rw [rset_n (by decide), hR.2.2.1]
  refine go_bipush (v := nI 20) (DL_lose.at 13 rfl) (by decide) ?_
  refine go_iload_0 (DL_lose.at 14 rfl) ?_
  refine go_imul (DL_lose.at 15 rfl) ?_
  rw [pk_mul]
  refine go_iload_1 (DL_lose.at 16 rfl) ?_
  refine go_iadd (DL_lose.at 17 rfl) ?_
  rw [nI_add]
  refine go_iastL 3 (DL_lose.at 18 rfl) La (by decide) (show (aQ A).length < 60 by omega) (fun hb Lb Ob => ?_)
  refine go_aload_2 (DL_lose.at 19 rfl) ?_
  refine go_iconst (v := nI 4) (DL_lose.at 20 rfl) (by decide) ?_
  refine go_dup2 (DL_lose.at 21 rfl) rfl rfl ?_
  refine go_ialdL 0 (DL_lose.at 22 rfl) Lb (by decide) (show 4 < 9 by decide) ?_
  rw [rset_n (by decide), rset_n (by decide), hR.2.2.1]
  refine go_iconst (v := nI 1) (DL_lose.at 23 rfl) (by decide) ?_
  refine go_iadd (DL_lose.at 24 rfl) ?_
  rw [nI_add]
  refine go_iastL 0 (DL_lose.at 25 rfl) Lb (by decide) (show 4 < 9 by omega) (fun hg Lg Og => ?_)
  refine go_aload_2 (DL_lose.at 26 rfl) ?_
  refine go_bipush (v := nI 8) (DL_lose.at 27 rfl) (by decide) ?_
  refine go_dup2 (DL_lose.at 28 rfl) rfl rfl ?_
  refine go_ialdL 0 (DL_lose.at 29 rfl) Lg (by decide) (show 8 < 9 by decide) ?_
  rw [rset_s, pk_un (by decide), rset_n (by decide), rset_n (by decide)]
  refine go_iconst (v := nI 1) (DL_lose.at 30 rfl) (by decide) ?_
  refine go_iadd (DL_lose.at 31 rfl) ?_
  refine go_iastL 0 (DL_lose.at 32 rfl) Lg (by decide) (show 8 < 9 by omega) (fun he Le Oe => ?_)
  refine go_return (DL_lose.at 33 rfl) rfl (RV.mk ⟨((Oa.trans Ob).trans Og).trans Oe, _, Le, ?_, by rw [rset_n (by decide), rset_n (by decide), rset_n (by decide), rset_n (by decide)], by rw [rset_n (by decide), rset_n (by decide), rset_n (by decide), rset_n (by decide)]⟩)
  refine hR.los ht hc hnb ?_ ?_ ?_ ?_ ?_
  · rw [rset_n (by decide), rset_n (by decide), rset_n (by decide), rset_s]
  · rw [rset_n (by decide), rset_n (by decide), rset_s, rset_n (by decide)]
  · rw [rset_s, rset_s, rset_n (by decide), rset_n (by decide)]
    rfl
  · rw [rset_n (by decide), rset_n (by decide), rset_n (by decide), rset_n (by decide)]
  · rw [rset_n (by decide), rset_n (by decide), rset_n (by decide), rset_n (by decide)]

theorem c_leave {t c : Nat} {Q : List Nat} (ht : t < 3) (hc : c < 20) (hL : LA h ρ) (hq : ρ 0 4 = nI Q.length) (hQ : ∀ i x, Q[i]? = some x → ρ 3 i = nI x) (hm : 20 * t + c ∈ Q) (hlen : Q.length ≤ 60) (hlt : ∀ x, x ∈ Q → x < 60) : Calls E mL_leave d 0 0 [.int (nI t), .int (nI c), .ref 52, .ref 55] h (RV (fun h' => Only 52 59 h h' ∧ ∃ f, LA h' (rset (rset ρ 0 (upd (ρ 0) 4 (nI (Q.length - 1)))) 3 f) ∧ ∀ i x, (Q.erase (20 * t + c))[i]? = some x → f i = nI x)) := by
  refine Calls.of (ls := [some (.int (nI t)), some (.int (nI c)), some (.ref 52), some (.ref 55), none, none]) (by decide +kernel) rfl (Nat.le_of_ble_eq_true rfl) (cat_ok rfl) ?_
  have hn20 : c < 20 := hc
  obtain ⟨p, hp1, hp2⟩ := first_at hm
  have hpl : p < Q.length := (List.getElem?_eq_some_iff.mp hp1).1
  have loop2 : ∀ (m e : Nat) (h1 : List va_E) (ρ1 : Nat → Nat → Int32), LA h1 ρ1 → ρ1 3 = shW (ρ 3) p e → ρ1 0 = upd (ρ 0) 4 (nI (Q.length - 1)) → (∀ a, a ≠ 0 → a ≠ 3 → ρ1 a = ρ a) → Only 52 59 h h1 → e + m = Q.length - 1 → p ≤ e → Go E mL_leave d 0 0 41 [some (.int (nI t)), some (.int (nI c)), some (.ref 52), some (.ref 55), some (.int (nI p)), some (.int (nI e))] [] h1 (RV (fun h' => Only 52 59 h h' ∧ ∃ f, LA h' (rset (rset ρ 0 (upd (ρ 0) 4 (nI (Q.length - 1)))) 3 f) ∧ ∀ i x, (Q.erase (20 * t + c))[i]? = some x → f i = nI x)) := by
    intro m
    induction m with
    | zero =>
      intro e h1 ρ1 L1 e3 e0 eo O1 hm2 hpe
      have ee : e = Q.length - 1 := by omega
      subst ee
      refine go_iload_5 (DL_leave.at 27 rfl) ?_
      refine go_aload_2 (DL_leave.at 28 rfl) ?_
      refine go_iconst (v := nI 4) (DL_leave.at 29 rfl) (by decide) ?_
      refine go_ialdL 0 (DL_leave.at 30 rfl) L1 (by decide) (show 4 < 9 by decide) ?_
      rw [e0, pk_us]
      refine go_icmp_ge 65 (DL_leave.at 31 rfl) (by decide) (fun c46 => ?_) (fun c46 => absurd (Int32.le_refl _) c46)
      exact go_return (DL_leave.at 42 rfl) rfl (RV.mk ⟨O1, shW (ρ 3) p (Q.length - 1), by
        have er : ρ1 = rset (rset ρ 0 (upd (ρ 0) 4 (nI (Q.length - 1)))) 3 (shW (ρ 3) p (Q.length - 1)) := by
          funext a
          by_cases a3 : a = 3
          · rw [a3, rset_s, e3]
          · rw [rset_n a3]
            by_cases a0 : a = 0
            · rw [a0, rset_s, e0]
            · rw [rset_n a0]
              exact eo a a0 a3
        rw [← er]
        exact L1, fun i x hx => by
          have hil := (List.getElem?_eq_some_iff.mp hx).1
          rw [List.length_erase_of_mem (List.mem_of_getElem? hp1)] at hil
          rw [erase_at hp1 hp2] at hx
          unfold shW
          by_cases q : i < p
          · rw [if_pos q] at hx
            rw [if_neg (by omega)]
            exact hQ i x hx
          · rw [if_neg q] at hx
            rw [if_pos (by omega)]
            exact hQ (i + 1) x hx⟩)
    | succ m ih =>
      intro e h1 ρ1 L1 e3 e0 eo O1 hm2 hpe
      refine go_iload_5 (DL_leave.at 27 rfl) ?_
      refine go_aload_2 (DL_leave.at 28 rfl) ?_
      refine go_iconst (v := nI 4) (DL_leave.at 29 rfl) (by decide) ?_
      refine go_ialdL 0 (DL_leave.at 30 rfl) L1 (by decide) (show 4 < 9 by decide) ?_
      rw [e0, pk_us]
      refine go_icmp_ge 65 (DL_leave.at 31 rfl) (by decide) (fun c46 => absurd c46 (by rw [nI_leI (by omega) (by omega)]; omega)) (fun c46 => ?_)
      refine go_aload_3 (DL_leave.at 32 rfl) ?_
      refine go_iload_5 (DL_leave.at 33 rfl) ?_
      refine go_aload_3 (DL_leave.at 34 rfl) ?_
      refine go_iload_5 (DL_leave.at 35 rfl) ?_
      refine go_iconst (v := nI 1) (DL_leave.at 36 rfl) (by decide) ?_
      refine go_iadd (DL_leave.at 37 rfl) ?_
      rw [nI_add]
      refine go_ialdL 3 (DL_leave.at 38 rfl) L1 (by decide) (show e + 1 < 60 by omega) ?_
      rw [e3]
      refine go_iastL 3 (DL_leave.at 39 rfl) L1 (by decide) (show e < 60 by omega) (fun h2 L2 O2 => ?_)
      refine go_iincN_5 (DL_leave.at 40 rfl) ?_
      refine go_goto 41 (DL_leave.at 41 rfl) (by decide) ?_
      exact ih (e + 1) h2 (rset ρ1 3 (upd (ρ1 3) e (shW (ρ 3) p e (e + 1)))) L2 (by rw [rset_s, e3, shW_s (by omega)]) (by rw [rset_n (by decide)]; exact e0) (fun a h0 h3 => (rset_n h3).trans (eo a h0 h3)) (O1.trans O2) (by omega) (by omega)
  have loop : ∀ (m k : Nat), k + m = p → Go E mL_leave d 0 0 3 [some (.int (nI t)), some (.int (nI c)), some (.ref 52), some (.ref 55), some (.int (nI k)), none] [] h (RV (fun h' => Only 52 59 h h' ∧ ∃ f, LA h' (rset (rset ρ 0 (upd (ρ 0) 4 (nI (Q.length - 1)))) 3 f) ∧ ∀ i x, (Q.erase (20 * t + c))[i]? = some x → f i = nI x)) := by
    intro m
    induction m with
    | zero =>
      intro k hk
      have ek : p = k := by omega
      subst ek
      refine go_iload_4 (DL_leave.at 2 rfl) ?_
      refine go_aload_2 (DL_leave.at 3 rfl) ?_
      refine go_iconst (v := nI 4) (DL_leave.at 4 rfl) (by decide) ?_
      refine go_ialdL 0 (DL_leave.at 5 rfl) hL (by decide) (show 4 < 9 by decide) ?_
      rw [hq]
      refine go_icmp_ge 30 (DL_leave.at 6 rfl) (by decide) (fun c8 => absurd c8 (by rw [nI_leI (by omega) (by omega)]; omega)) (fun c8 => ?_)
      refine go_aload_3 (DL_leave.at 7 rfl) ?_
      refine go_iload_4 (DL_leave.at 8 rfl) ?_
      refine go_ialdL 3 (DL_leave.at 9 rfl) hL (by decide) (show p < 60 by omega) ?_
      rw [hQ _ _ hp1]
      refine go_bipush (v := nI 20) (DL_leave.at 10 rfl) (by decide) ?_
      refine go_iload_0 (DL_leave.at 11 rfl) ?_
      refine go_imul (DL_leave.at 12 rfl) ?_
      rw [pk_mul]
      refine go_iload_1 (DL_leave.at 13 rfl) ?_
      refine go_iadd (DL_leave.at 14 rfl) ?_
      rw [nI_add]
      refine go_icmp_eq 30 (DL_leave.at 15 rfl) (by decide) (fun c21 => ?_) (fun c21 => absurd rfl c21)
      refine go_aload_2 (DL_leave.at 18 rfl) ?_
      refine go_iconst (v := nI 4) (DL_leave.at 19 rfl) (by decide) ?_
      refine go_dup2 (DL_leave.at 20 rfl) rfl rfl ?_
      refine go_ialdL 0 (DL_leave.at 21 rfl) hL (by decide) (show 4 < 9 by decide) ?_
      rw [hq]
      refine go_iconst (v := nI 1) (DL_leave.at 22 rfl) (by decide) ?_
      refine go_isub (DL_leave.at 23 rfl) ?_
      rw [pk_sub (by omega)]
      refine go_iastL 0 (DL_leave.at 24 rfl) hL (by decide) (show 4 < 9 by omega) (fun ha La Oa => ?_)
      refine go_iload_4 (DL_leave.at 25 rfl) ?_
      refine go_istore_5 (DL_leave.at 26 rfl) ?_
      exact loop2 (Q.length - 1 - p) p _ _ La (by rw [shW_0, rset_n (by decide)]) rset_s (fun a h0 h3 => rset_n h0) Oa (by omega) (by omega)
    | succ m ih =>
      intro k hk
      have hkl : k < Q.length := by omega
      have ek : Q[k]? = some Q[k] := List.getElem?_eq_getElem hkl
      have hk60 : Q[k] < 60 := hlt _ (List.mem_of_getElem? ek)
      refine go_iload_4 (DL_leave.at 2 rfl) ?_
      refine go_aload_2 (DL_leave.at 3 rfl) ?_
      refine go_iconst (v := nI 4) (DL_leave.at 4 rfl) (by decide) ?_
      refine go_ialdL 0 (DL_leave.at 5 rfl) hL (by decide) (show 4 < 9 by decide) ?_
      rw [hq]
      refine go_icmp_ge 30 (DL_leave.at 6 rfl) (by decide) (fun c8 => absurd c8 (by rw [nI_leI (by omega) (by omega)]; omega)) (fun c8 => ?_)
      refine go_aload_3 (DL_leave.at 7 rfl) ?_
      refine go_iload_4 (DL_leave.at 8 rfl) ?_
      refine go_ialdL 3 (DL_leave.at 9 rfl) hL (by decide) (show k < 60 by omega) ?_
      rw [hQ k _ ek]
      refine go_bipush (v := nI 20) (DL_leave.at 10 rfl) (by decide) ?_
      refine go_iload_0 (DL_leave.at 11 rfl) ?_
      refine go_imul (DL_leave.at 12 rfl) ?_
      rw [pk_mul]
      refine go_iload_1 (DL_leave.at 13 rfl) ?_
      refine go_iadd (DL_leave.at 14 rfl) ?_
      rw [nI_add]
      refine go_icmp_eq 30 (DL_leave.at 15 rfl) (by decide) (fun c21 => absurd ((nI_eq (by omega) (by omega)).mp c21) (fun e => hp2 k (by omega) (by rw [ek, e]))) (fun c21 => ?_)
      refine go_iincN_4 (DL_leave.at 16 rfl) ?_
      refine go_goto 3 (DL_leave.at 17 rfl) (by decide) ?_
      exact ih (k + 1) (by omega)
  refine go_iconst (v := nI 0) (DL_leave.at 0 rfl) (by decide) ?_
  refine go_istore_4 (DL_leave.at 1 rfl) ?_
  exact loop p 0 (Nat.zero_add p)

theorem rdB_1 {A : Ab} {t c w e : Nat} (h : w = 1) : rdB A t c w e ↔ e ≠ c ∧ grf (aG A) (aS A) e = grf (aG A) (aS A) c := by
  unfold rdB
  rw [if_pos h]
theorem rdB_2 {A : Ab} {t c w e : Nat} (h : ¬ w = 1) (h2 : w = 2) : rdB A t c w e ↔ e < aG A * aS A := by
  unfold rdB
  rw [if_neg h, if_pos h2]
theorem rdB_3 {A : Ab} {t c w e : Nat} (h : ¬ w = 1) (h2 : ¬ w = 2) : rdB A t c w e ↔ ¬ bit (aM A t) e := by
  unfold rdB
  rw [if_neg h, if_neg h2]
theorem clr_xor {M c : Nat} (hM : M < 2 ^ 20) (hb : bit M c) : M ^^^ 2 ^ c = clr M c := by
  rw [show M ^^^ 2 ^ c = M ^^^ 1 * 2 ^ c by rw [Nat.one_mul]]
  refine eq_bits (fun x => ?_)
  rw [bit_xc hb]
  by_cases q : x < 32
  · rw [bit_clr q]
  · constructor
    · intro w
      have := bit_big hM w.1
      omega
    · intro w
      have := bit_big (Nat.lt_of_le_of_lt clr_le hM) w
      omega
theorem c_lmend {t c w src X : Nat} (ht : t < aT A) (hc : c < nc (aG A) (aS A)) (hb : bit (aM A t) c) (hw : WyX A t c w src X) (hL : LA h ρ) (hR : LR A ρ) (hd : 3 ≤ d) : Calls E mL_mend d 0 0 [.int (nI t), .int (nI c), .int (nI w), .ref 52, .ref 54, .ref 55, .ref 56] h (RV (fun h' => LU (aMnd A t c w src (aV A t c)) ρ h h')) := by
  refine Calls.of (ls := [some (.int (nI t)), some (.int (nI c)), some (.int (nI w)), some (.ref 52), some (.ref 54), some (.ref 55), some (.ref 56), none, none]) (by decide +kernel) rfl (Nat.le_of_ble_eq_true rfl) (cat_ok rfl) ?_
  have hA := hR.1
  have hY := hR.2.1
  have hLO := hY.1
  have hT3 : aT A ≤ 3 := hY.2.1
  have hn := hLO.nc
  have hg4 : aG A ≤ 4 := hLO.2.1
  have hg1 : 1 ≤ aG A := hLO.1
  have hs6 : aS A ≤ 6 := hLO.2.2.2.1
  have hs2 : 2 ≤ aS A := hLO.2.2.1
  have hgs : aG A * aS A ≤ 15 := hLO.2.2.2.2.1
  have hH5 : aH A ≤ 5 := hLO.2.2.2.2.2.2.2
  have hT1 : 1 ≤ aT A := hLO.2.2.2.2.2.1
  have en : nc (aG A) (aS A) = aG A * aS A + aG A + 2 := rfl
  have hM20 := hA.m20 ht
  have hmem : 20 * t + c ∈ aQ A := (hA.qin ht hc).mpr hb
  have hw3 := hw.w
  have fin : ∀ (hc2 : List va_E) (ρc : Nat → Nat → Int32) (u : Option Value), LA hc2 ρc → ρc 0 = upd (upd (upd (ρ 0) 5 (rdc (ρ 0 5) src (nc (aG A) (aS A)))) 6 (ρ 0 6 + nI 1)) 7 (if w = 1 then ρ 0 7 + 1 else ρ 0 7) → ρc 2 = upd (ρ 2) t (nI (clr (aM A t) c)) → ρc 4 = rdl (ρ 4) src (fun c => (c + t * aH A) % nc (aG A) (aS A)) (nc (aG A) (aS A)) → (∀ a, a ≠ 0 → a ≠ 2 → a ≠ 4 → ρc a = ρ a) → Only 52 59 h hc2 → Go E mL_mend d 0 0 166 [some (.int (nI t)), some (.int (nI c)), some (.int (nI w)), some (.ref 52), some (.ref 54), some (.ref 55), some (.ref 56), some (.int (nI (nc (aG A) (aS A)))), u] [] hc2 (RV (fun h' => LU (aMnd A t c w src (aV A t c)) ρ h h')) := by
    intro hc2 ρc u Lc c0 c2 c4 co Oc
    refine go_iload_0 (DL_mend.at 101 rfl) ?_
    refine go_iload_1 (DL_mend.at 102 rfl) ?_
    refine go_aload_3 (DL_mend.at 103 rfl) ?_
    refine go_aload_5 (DL_mend.at 104 rfl) ?_
    refine go_cSv4 (DL_mend.at 105 rfl) nL_52 vL_leave (by omega) (c_leave (Q := aQ A) (show t < 3 by omega) (show c < 20 by omega) Lc (by rw [c0, pk_un (by decide), pk_un (by decide), pk_un (by decide), hR.2.2.1]) (fun i x hx => by rw [co 3 (by decide) (by decide) (by decide)]; exact hR.2.2.2.2.2.2.1 i x hx) hmem (hA.q60 hT3) (fun x hx => by have h1 := ((hA.2.2.2.2 x).mp hx).1; omega)) (Nat.le_of_ble_eq_true rfl) (fun h171 q171 => ?_)
    obtain ⟨Ol, f, Ll, hf⟩ := q171
    refine go_return (DL_mend.at 106 rfl) rfl (RV.mk ⟨Oc.trans Ol, _, Ll, ?_, by rw [rset_n (by decide), rset_n (by decide)]; exact co 5 (by decide) (by decide) (by decide), by rw [rset_n (by decide), rset_n (by decide)]; exact co 6 (by decide) (by decide) (by decide)⟩)
    refine hR.mnd ht hc ?_ ?_ hmem ?_ ?_ (fun k hk => ?_) ?_ ?_ ?_ ?_ ?_
    · rw [rset_n (by decide), rset_n (by decide)]
      exact c2
    · rw [rset_s]
      exact hf
    · rw [rset_n (by decide), rset_n (by decide)]
      exact c4
    · rw [rset_n (by decide), rset_n (by decide)]
      exact co 1 (by decide) (by decide) (by decide)
    · rw [rset_n (by decide), rset_s, pk_un (by omega), c0, pk_un (by omega), pk_un (by omega), pk_un (by omega)]
    · rw [rset_n (by decide), rset_s, pk_us]
    · rw [rset_n (by decide), rset_s, pk_un (by decide), c0, pk_un (by decide), pk_un (by decide), pk_us]
    · rw [rset_n (by decide), rset_s, pk_un (by decide), c0, pk_un (by decide), pk_us]
      rfl
    · rw [rset_n (by decide), rset_s, pk_un (by decide), c0, pk_us]
    · rw [rset_n (by decide), rset_s, pk_un (by decide), c0, pk_un (by decide), pk_un (by decide), pk_un (by decide)]
  have loop : ∀ (m j : Nat) (h1 : List va_E) (ρ1 : Nat → Nat → Int32) (u : Option Value), LA h1 ρ1 → MdI A t src ρ ρ1 j → Only 52 59 h h1 → j + m = nc (aG A) (aS A) → Go E mL_mend d 0 0 3 [some (.int (nI t)), some (.int (nI c)), some (.int (nI w)), some (.ref 52), some (.ref 54), some (.ref 55), some (.ref 56), some (.int (nI j)), u] [] h1 (RV (fun h' => LU (aMnd A t c w src (aV A t c)) ρ h h')) := by
    intro m
    induction m with
    | zero =>
      intro j h1 ρ1 u L1 hI O1 hj
      have hY1 : LY A ρ1 := hY.up (fun k hk => by rw [hI.2.1, pk_un (by omega)])
      have ej : j = nc (aG A) (aS A) := by omega
      subst ej
      refine go_iload_7 (DL_mend.at 2 rfl) ?_
      refine go_aload_3 (DL_mend.at 3 rfl) ?_
      refine go_cSx1 (DL_mend.at 4 rfl) nL_16 vL_all (by omega) (c_all L1 hY1) (Nat.le_of_ble_eq_true rfl) ?_
      refine go_icmp_ge 131 (DL_mend.at 5 rfl) (by decide) (fun c9 => ?_) (fun c9 => absurd (Int32.le_refl _) c9)
      refine go_aload_3 (DL_mend.at 73 rfl) ?_
      refine go_bipush (v := nI 6) (DL_mend.at 74 rfl) (by decide) ?_
      refine go_dup2 (DL_mend.at 75 rfl) rfl rfl ?_
      refine go_ialdL 0 (DL_mend.at 76 rfl) L1 (by decide) (show 6 < 9 by decide) ?_
      rw [hI.2.1, pk_un (by decide)]
      refine go_iconst (v := nI 1) (DL_mend.at 77 rfl) (by decide) ?_
      refine go_iadd (DL_mend.at 78 rfl) ?_
      refine go_iastL 0 (DL_mend.at 79 rfl) L1 (by decide) (show 6 < 9 by decide) (fun ha La Oa => ?_)
      refine go_aload_3 (DL_mend.at 80 rfl) ?_
      refine go_bipush (v := nI 7) (DL_mend.at 81 rfl) (by decide) ?_
      refine go_dup2 (DL_mend.at 82 rfl) rfl rfl ?_
      refine go_ialdL 0 (DL_mend.at 83 rfl) La (by decide) (show 7 < 9 by decide) ?_
      rw [rset_s, pk_un (by decide), hI.2.1, pk_un (by decide)]
      refine go_iload_2 (DL_mend.at 84 rfl) ?_
      refine go_iconst (v := nI 1) (DL_mend.at 85 rfl) (by decide) ?_
      refine go_icmp_ne 153 (DL_mend.at 86 rfl) (by decide) (fun c146 => ?_) (fun c146 => ?_)
      · rw [nI_eq (by omega) (by decide)] at c146
        have e7 : ρ 0 7 + nI 0 = if w = 1 then ρ 0 7 + 1 else ρ 0 7 := by rw [if_neg c146, add_n0]
        refine go_iconst (v := nI 0) (DL_mend.at 89 rfl) (by decide) ?_
        refine go_iadd (DL_mend.at 90 rfl) ?_
        rw [e7]
        refine go_iastL 0 (DL_mend.at 91 rfl) La (by decide) (show 7 < 9 by decide) (fun hb2 Lb Ob => ?_)
        refine go_aload_4 (DL_mend.at 92 rfl) ?_
        refine go_iload_0 (DL_mend.at 93 rfl) ?_
        refine go_dup2 (DL_mend.at 94 rfl) rfl rfl ?_
        refine go_ialdL 2 (DL_mend.at 95 rfl) Lb (by decide) (show t < 3 by omega) ?_
        rw [rset_n (by decide), rset_n (by decide), hI.2.2 2 (by decide) (by decide), hR.2.2.2.2.2.1 t ht]
        refine go_iconst (v := nI 1) (DL_mend.at 96 rfl) (by decide) ?_
        refine go_iload_1 (DL_mend.at 97 rfl) ?_
        refine go_ishl (DL_mend.at 98 rfl) ?_
        rw [nx_shlW _ (by omega), Nat.one_mul]
        refine go_ixor (DL_mend.at 99 rfl) ?_
        rw [nx_xor, clr_xor hM20 hb]
        refine go_iastL 2 (DL_mend.at 100 rfl) Lb (by decide) (show t < 3 by omega) (fun hc2 Lc Oc => ?_)
        exact fin _ _ _ Lc (by rw [rset_n (by decide), rset_s, rset_s, hI.2.1]) (by rw [rset_s, rset_n (by decide), rset_n (by decide), hI.2.2 2 (by decide) (by decide)]) (by rw [rset_n (by decide), rset_n (by decide), rset_n (by decide)]; exact hI.1) (fun a h0 h2 h4 => by rw [rset_n h2, rset_n h0, rset_n h0]; exact hI.2.2 a h0 h4) (((O1.trans Oa).trans Ob).trans Oc)
      · rw [nI_eq (by omega) (by decide)] at c146
        have e7 : ρ 0 7 + nI 1 = if w = 1 then ρ 0 7 + 1 else ρ 0 7 := by rw [if_pos c146]; rfl
        refine go_iconst (v := nI 1) (DL_mend.at 87 rfl) (by decide) ?_
        refine go_goto 154 (DL_mend.at 88 rfl) (by decide) ?_
        refine go_iadd (DL_mend.at 90 rfl) ?_
        rw [e7]
        refine go_iastL 0 (DL_mend.at 91 rfl) La (by decide) (show 7 < 9 by decide) (fun hb2 Lb Ob => ?_)
        refine go_aload_4 (DL_mend.at 92 rfl) ?_
        refine go_iload_0 (DL_mend.at 93 rfl) ?_
        refine go_dup2 (DL_mend.at 94 rfl) rfl rfl ?_
        refine go_ialdL 2 (DL_mend.at 95 rfl) Lb (by decide) (show t < 3 by omega) ?_
        rw [rset_n (by decide), rset_n (by decide), hI.2.2 2 (by decide) (by decide), hR.2.2.2.2.2.1 t ht]
        refine go_iconst (v := nI 1) (DL_mend.at 96 rfl) (by decide) ?_
        refine go_iload_1 (DL_mend.at 97 rfl) ?_
        refine go_ishl (DL_mend.at 98 rfl) ?_
        rw [nx_shlW _ (by omega), Nat.one_mul]
        refine go_ixor (DL_mend.at 99 rfl) ?_
        rw [nx_xor, clr_xor hM20 hb]
        refine go_iastL 2 (DL_mend.at 100 rfl) Lb (by decide) (show t < 3 by omega) (fun hc2 Lc Oc => ?_)
        exact fin _ _ _ Lc (by rw [rset_n (by decide), rset_s, rset_s, hI.2.1]) (by rw [rset_s, rset_n (by decide), rset_n (by decide), hI.2.2 2 (by decide) (by decide)]) (by rw [rset_n (by decide), rset_n (by decide), rset_n (by decide)]; exact hI.1) (fun a h0 h2 h4 => by rw [rset_n h2, rset_n h0, rset_n h0]; exact hI.2.2 a h0 h4) (((O1.trans Oa).trans Ob).trans Oc)
    | succ m ih =>
      intro j h1 ρ1 u L1 hI O1 hj
      have hY1 : LY A ρ1 := hY.up (fun k hk => by rw [hI.2.1, pk_un (by omega)])
      have hj20 : j < nc (aG A) (aS A) := by omega
      have hi := hw.src_iff (e := j) hA hc hj20
      have hnd : (j + t * aH A) % nc (aG A) (aS A) < 20 := Nat.lt_of_lt_of_le (Nat.mod_lt _ (by omega)) hn.2
      have t84 : ∀ (y : Int32) (u : Option Value), ((y = nI 1 ∧ bit src j) ∨ (y = nI 0 ∧ ¬ bit src j)) → Go E mL_mend d 0 0 84 [some (.int (nI t)), some (.int (nI c)), some (.int (nI w)), some (.ref 52), some (.ref 54), some (.ref 55), some (.ref 56), some (.int (nI j)), u] [.int y] h1 (RV (fun h' => LU (aMnd A t c w src (aV A t c)) ρ h h')) := by
        intro y u hy
        rcases hy with ⟨ey, hs⟩ | ⟨ey, hs⟩
        · subst ey
          refine go_istore_8 (DL_mend.at 45 rfl) ?_
          refine go_aload_6 (DL_mend.at 46 rfl) ?_
          refine go_iload_0 (DL_mend.at 47 rfl) ?_
          refine go_iload_7 (DL_mend.at 48 rfl) ?_
          refine go_aload_3 (DL_mend.at 49 rfl) ?_
          refine go_cSx3 (DL_mend.at 50 rfl) nL_48 vL_node (by omega) (c_lnode ht hj20 L1 hY1 (by omega)) (Nat.le_of_ble_eq_true rfl) ?_
          refine go_dup2 (DL_mend.at 51 rfl) rfl rfl ?_
          refine go_ialdL 4 (DL_mend.at 52 rfl) L1 (by decide) (show (j + t * aH A) % nc (aG A) (aS A) < 20 from hnd) ?_
          refine go_iload_8 (DL_mend.at 53 rfl) ?_
          refine go_if_eq 106 (DL_mend.at 54 rfl) (by decide) (fun c99 => absurd c99 (by decide)) (fun c99 => ?_)
          refine go_iconst (v := nI 1) (DL_mend.at 55 rfl) (by decide) ?_
          refine go_goto 107 (DL_mend.at 56 rfl) (by decide) ?_
          refine go_iadd (DL_mend.at 58 rfl) ?_
          refine go_iastL 4 (DL_mend.at 59 rfl) L1 (by decide) (show (j + t * aH A) % nc (aG A) (aS A) < 20 from hnd) (fun ha La Oa => ?_)
          refine go_aload_3 (DL_mend.at 60 rfl) ?_
          refine go_iconst (v := nI 5) (DL_mend.at 61 rfl) (by decide) ?_
          refine go_dup2 (DL_mend.at 62 rfl) rfl rfl ?_
          refine go_ialdL 0 (DL_mend.at 63 rfl) La (by decide) (show 5 < 9 by decide) ?_
          rw [rset_n (by decide)]
          refine go_iload_8 (DL_mend.at 64 rfl) ?_
          refine go_if_eq 122 (DL_mend.at 65 rfl) (by decide) (fun c115 => absurd c115 (by decide)) (fun c115 => ?_)
          refine go_iconst (v := nI 1) (DL_mend.at 66 rfl) (by decide) ?_
          refine go_goto 123 (DL_mend.at 67 rfl) (by decide) ?_
          refine go_iadd (DL_mend.at 69 rfl) ?_
          refine go_iastL 0 (DL_mend.at 70 rfl) La (by decide) (show 5 < 9 by decide) (fun hb2 Lb Ob => ?_)
          rw [rset_n (by decide)] at Lb
          refine go_iincN_7 (DL_mend.at 71 rfl) ?_
          refine go_goto 3 (DL_mend.at 72 rfl) (by decide) ?_
          exact ih (j + 1) _ _ _ Lb (hI.yes hs) ((O1.trans Oa).trans Ob) (by omega)
        · subst ey
          refine go_istore_8 (DL_mend.at 45 rfl) ?_
          refine go_aload_6 (DL_mend.at 46 rfl) ?_
          refine go_iload_0 (DL_mend.at 47 rfl) ?_
          refine go_iload_7 (DL_mend.at 48 rfl) ?_
          refine go_aload_3 (DL_mend.at 49 rfl) ?_
          refine go_cSx3 (DL_mend.at 50 rfl) nL_48 vL_node (by omega) (c_lnode ht hj20 L1 hY1 (by omega)) (Nat.le_of_ble_eq_true rfl) ?_
          refine go_dup2 (DL_mend.at 51 rfl) rfl rfl ?_
          refine go_ialdL 4 (DL_mend.at 52 rfl) L1 (by decide) (show (j + t * aH A) % nc (aG A) (aS A) < 20 from hnd) ?_
          refine go_iload_8 (DL_mend.at 53 rfl) ?_
          refine go_if_eq 106 (DL_mend.at 54 rfl) (by decide) (fun c99 => ?_) (fun c99 => absurd (show nI 0 = 0 by decide) c99)
          refine go_iconst (v := nI 0) (DL_mend.at 57 rfl) (by decide) ?_
          refine go_iadd (DL_mend.at 58 rfl) ?_
          refine go_iastL 4 (DL_mend.at 59 rfl) L1 (by decide) (show (j + t * aH A) % nc (aG A) (aS A) < 20 from hnd) (fun ha La Oa => ?_)
          refine go_aload_3 (DL_mend.at 60 rfl) ?_
          refine go_iconst (v := nI 5) (DL_mend.at 61 rfl) (by decide) ?_
          refine go_dup2 (DL_mend.at 62 rfl) rfl rfl ?_
          refine go_ialdL 0 (DL_mend.at 63 rfl) La (by decide) (show 5 < 9 by decide) ?_
          rw [rset_n (by decide)]
          refine go_iload_8 (DL_mend.at 64 rfl) ?_
          refine go_if_eq 122 (DL_mend.at 65 rfl) (by decide) (fun c115 => ?_) (fun c115 => absurd (show nI 0 = 0 by decide) c115)
          refine go_iconst (v := nI 0) (DL_mend.at 68 rfl) (by decide) ?_
          refine go_iadd (DL_mend.at 69 rfl) ?_
          refine go_iastL 0 (DL_mend.at 70 rfl) La (by decide) (show 5 < 9 by decide) (fun hb2 Lb Ob => ?_)
          rw [rset_n (by decide)] at Lb
          refine go_iincN_7 (DL_mend.at 71 rfl) ?_
          refine go_goto 3 (DL_mend.at 72 rfl) (by decide) ?_
          exact ih (j + 1) _ _ _ Lb (hI.no hs) ((O1.trans Oa).trans Ob) (by omega)
      refine go_iload_7 (DL_mend.at 2 rfl) ?_
      refine go_aload_3 (DL_mend.at 3 rfl) ?_
      refine go_cSx1 (DL_mend.at 4 rfl) nL_16 vL_all (by omega) (c_all L1 hY1) (Nat.le_of_ble_eq_true rfl) ?_
      refine go_icmp_ge 131 (DL_mend.at 5 rfl) (by decide) (fun c9 => absurd c9 (by rw [nI_leI (by omega) (by omega)]; omega)) (fun c9 => ?_)
      refine go_iload_2 (DL_mend.at 6 rfl) ?_
      refine go_iconst (v := nI 1) (DL_mend.at 7 rfl) (by decide) ?_
      refine go_icmp_ne 45 (DL_mend.at 8 rfl) (by decide) (fun c14 => ?_) (fun c14 => ?_)
      · rw [nI_eq (by omega) (by decide)] at c14
        refine go_iload_2 (DL_mend.at 23 rfl) ?_
        refine go_iconst (v := nI 2) (DL_mend.at 24 rfl) (by decide) ?_
        refine go_icmp_ne 67 (DL_mend.at 25 rfl) (by decide) (fun c47 => ?_) (fun c47 => ?_)
        · rw [nI_eq (by omega) (by decide)] at c47
          refine go_aload_4 (DL_mend.at 34 rfl) ?_
          refine go_iload_0 (DL_mend.at 35 rfl) ?_
          refine go_ialdL 2 (DL_mend.at 36 rfl) L1 (by decide) (show t < 3 by omega) ?_
          rw [hI.2.2 2 (by decide) (by decide), hR.2.2.2.2.2.1 t ht]
          refine go_iload_7 (DL_mend.at 37 rfl) ?_
          refine go_ishr (DL_mend.at 38 rfl) ?_
          refine go_iconst (v := nI 1) (DL_mend.at 39 rfl) (by decide) ?_
          refine go_iand (DL_mend.at 40 rfl) ?_
          rw [nx_bit (by omega) (by omega)]
          refine go_if_ne 83 (DL_mend.at 41 rfl) (by decide) (fun c76 => ?_) (fun c76 => ?_)
          · rw [nI_eq0 (by omega)] at c76
            have fin : ¬ bit src j := fun q => (rdB_3 c14 c47).mp (hi.mp q) (by show aM A t / 2 ^ j % 2 = 1; omega)
            refine go_iconst (v := nI 0) (DL_mend.at 44 rfl) (by decide) ?_
            exact t84 _ _ (by first | exact Or.inl ⟨rfl, fin⟩ | exact Or.inr ⟨rfl, fin⟩)
          · rw [nI_eq0 (by omega)] at c76
            have fin : bit src j := hi.mpr ((rdB_3 c14 c47).mpr (fun q => by have q2 : aM A t / 2 ^ j % 2 = 1 := q; omega))
            refine go_iconst (v := nI 1) (DL_mend.at 42 rfl) (by decide) ?_
            refine go_goto 84 (DL_mend.at 43 rfl) (by decide) ?_
            exact t84 _ _ (by first | exact Or.inl ⟨rfl, fin⟩ | exact Or.inr ⟨rfl, fin⟩)
        · rw [nI_eq (by omega) (by decide)] at c47
          refine go_iload_7 (DL_mend.at 26 rfl) ?_
          refine go_aload_3 (DL_mend.at 27 rfl) ?_
          refine go_cSx1 (DL_mend.at 28 rfl) nL_10 vL_data (by omega) (c_data L1 hY1) (Nat.le_of_ble_eq_true rfl) ?_
          refine go_icmp_ge 63 (DL_mend.at 29 rfl) (by decide) (fun c56 => ?_) (fun c56 => ?_)
          · rw [nI_leI (by omega) (by omega)] at c56
            have fin : ¬ bit src j := fun q => by have q2 := (rdB_2 c14 c47).mp (hi.mp q); omega
            refine go_iconst (v := nI 0) (DL_mend.at 32 rfl) (by decide) ?_
            refine go_goto 84 (DL_mend.at 33 rfl) (by decide) ?_
            exact t84 _ _ (by first | exact Or.inl ⟨rfl, fin⟩ | exact Or.inr ⟨rfl, fin⟩)
          · rw [nI_leI (by omega) (by omega)] at c56
            have fin : bit src j := hi.mpr ((rdB_2 c14 c47).mpr (by omega))
            refine go_iconst (v := nI 1) (DL_mend.at 30 rfl) (by decide) ?_
            refine go_goto 84 (DL_mend.at 31 rfl) (by decide) ?_
            exact t84 _ _ (by first | exact Or.inl ⟨rfl, fin⟩ | exact Or.inr ⟨rfl, fin⟩)
      · rw [nI_eq (by omega) (by decide)] at c14
        refine go_iload_7 (DL_mend.at 9 rfl) ?_
        refine go_iload_1 (DL_mend.at 10 rfl) ?_
        refine go_icmp_eq 41 (DL_mend.at 11 rfl) (by decide) (fun c20 => ?_) (fun c20 => ?_)
        · rw [nI_eq (by omega) (by omega)] at c20
          have fin : ¬ bit src j := fun q => ((rdB_1 c14).mp (hi.mp q)).1 c20
          refine go_iconst (v := nI 0) (DL_mend.at 21 rfl) (by decide) ?_
          refine go_goto 84 (DL_mend.at 22 rfl) (by decide) ?_
          exact t84 _ _ (by first | exact Or.inl ⟨rfl, fin⟩ | exact Or.inr ⟨rfl, fin⟩)
        · rw [nI_eq (by omega) (by omega)] at c20
          refine go_iload_7 (DL_mend.at 12 rfl) ?_
          refine go_aload_3 (DL_mend.at 13 rfl) ?_
          refine go_cSx2 (DL_mend.at 14 rfl) nL_23 vL_group (by omega) (c_group hj20 L1 hY1 (by omega)) (Nat.le_of_ble_eq_true rfl) ?_
          refine go_iload_1 (DL_mend.at 15 rfl) ?_
          refine go_aload_3 (DL_mend.at 16 rfl) ?_
          refine go_cSx2 (DL_mend.at 17 rfl) nL_23 vL_group (by omega) (c_group hc L1 hY1 (by omega)) (Nat.le_of_ble_eq_true rfl) ?_
          refine go_icmp_ne 41 (DL_mend.at 18 rfl) (by decide) (fun c34 => ?_) (fun c34 => ?_)
          · rw [nI_eq (by have := grf_lt (g := aG A) (s := aS A) (c := c) hg4; have := grf_lt (g := aG A) (s := aS A) (c := j) hg4; omega) (by have := grf_lt (g := aG A) (s := aS A) (c := c) hg4; have := grf_lt (g := aG A) (s := aS A) (c := j) hg4; omega)] at c34
            have fin : ¬ bit src j := fun q => c34 ((rdB_1 c14).mp (hi.mp q)).2
            refine go_iconst (v := nI 0) (DL_mend.at 21 rfl) (by decide) ?_
            refine go_goto 84 (DL_mend.at 22 rfl) (by decide) ?_
            exact t84 _ _ (by first | exact Or.inl ⟨rfl, fin⟩ | exact Or.inr ⟨rfl, fin⟩)
          · rw [nI_eq (by have := grf_lt (g := aG A) (s := aS A) (c := c) hg4; have := grf_lt (g := aG A) (s := aS A) (c := j) hg4; omega) (by have := grf_lt (g := aG A) (s := aS A) (c := c) hg4; have := grf_lt (g := aG A) (s := aS A) (c := j) hg4; omega)] at c34
            have fin : bit src j := hi.mpr ((rdB_1 c14).mpr ⟨c20, c34⟩)
            refine go_iconst (v := nI 1) (DL_mend.at 19 rfl) (by decide) ?_
            refine go_goto 84 (DL_mend.at 20 rfl) (by decide) ?_
            exact t84 _ _ (by first | exact Or.inl ⟨rfl, fin⟩ | exact Or.inr ⟨rfl, fin⟩)
  refine go_iconst (v := nI 0) (DL_mend.at 0 rfl) (by decide) ?_
  refine go_istore_7 (DL_mend.at 1 rfl) ?_
  exact loop _ 0 h ρ _ hL ⟨rfl, upd_self.symm, fun _ _ _ => rfl⟩ Only.rf (Nat.zero_add _)

theorem c_lwrite {t c v : Nat} (ht : t < aT A) (hc : c < aG A * aS A) (hv : v < 16) (hL : LA h ρ) (hR : LR A ρ) (hd : 2 ≤ d) : Calls E mL_write d 0 0 [.int (nI t), .int (nI c), .int (nI v), .ref 52, .ref 53] h (RV (fun h' => LU (aWrt A t c v) ρ h h')) := by
  refine Calls.of (ls := [some (.int (nI t)), some (.int (nI c)), some (.int (nI v)), some (.ref 52), some (.ref 53), none, none]) (by decide +kernel) rfl (Nat.le_of_ble_eq_true rfl) (cat_ok rfl) ?_
  have hA := hR.1
  have hY := hR.2.1
  have hLO := hY.1
  have hT3 : aT A ≤ 3 := hY.2.1
  have hn := hLO.nc
  have hg4 : aG A ≤ 4 := hLO.2.1
  have hg1 : 1 ≤ aG A := hLO.1
  have hs6 : aS A ≤ 6 := hLO.2.2.2.1
  have hs2 : 2 ≤ aS A := hLO.2.2.1
  have hgs : aG A * aS A ≤ 15 := hLO.2.2.2.2.1
  have hH5 : aH A ≤ 5 := hLO.2.2.2.2.2.2.2
  have hT1 : 1 ≤ aT A := hLO.2.2.2.2.2.1
  have en : nc (aG A) (aS A) = aG A * aS A + aG A + 2 := rfl
  have hh := hcv_ltg hc
  have eh : hcv (aG A) (aS A) c = c / aS A := if_pos hc
  have hd16 : aV A t c ^^^ v < 16 := xor_lt (hA.2.2.1 t c) hv
  refine go_aload_4 (DL_write.at 0 rfl) ?_
  refine go_bipush (v := nI 20) (DL_write.at 1 rfl) (by decide) ?_
  refine go_iload_0 (DL_write.at 2 rfl) ?_
  refine go_imul (DL_write.at 3 rfl) ?_
  rw [pk_mul]
  refine go_iload_1 (DL_write.at 4 rfl) ?_
  refine go_iadd (DL_write.at 5 rfl) ?_
  rw [nI_add]
  refine go_ialdL 1 (DL_write.at 6 rfl) hL (by decide) (show 20 * t + c < 60 by omega) ?_
  rw [hR.2.2.2.2.1 t ht c (show c < nc (aG A) (aS A) by omega)]
  refine go_iload_2 (DL_write.at 7 rfl) ?_
  refine go_ixor (DL_write.at 8 rfl) ?_
  rw [nx_xor]
  refine go_istore_5 (DL_write.at 9 rfl) ?_
  refine go_bipush (v := nI 20) (DL_write.at 10 rfl) (by decide) ?_
  refine go_iload_0 (DL_write.at 11 rfl) ?_
  refine go_imul (DL_write.at 12 rfl) ?_
  rw [pk_mul]
  refine go_aload_3 (DL_write.at 13 rfl) ?_
  refine go_cSx1 (DL_write.at 14 rfl) nL_10 vL_data (by omega) (c_data hL hY) (Nat.le_of_ble_eq_true rfl) ?_
  refine go_iadd (DL_write.at 15 rfl) ?_
  rw [nI_add]
  refine go_aload_3 (DL_write.at 16 rfl) ?_
  refine go_iconst (v := nI 0) (DL_write.at 17 rfl) (by decide) ?_
  refine go_ialdL 0 (DL_write.at 18 rfl) hL (by decide) (show 0 < 9 by decide) ?_
  rw [hY.2.2.1]
  refine go_iadd (DL_write.at 19 rfl) ?_
  rw [nI_add, Nat.add_assoc]
  refine go_istore_6 (DL_write.at 20 rfl) ?_
  refine go_aload_4 (DL_write.at 21 rfl) ?_
  refine go_bipush (v := nI 20) (DL_write.at 22 rfl) (by decide) ?_
  refine go_iload_0 (DL_write.at 23 rfl) ?_
  refine go_imul (DL_write.at 24 rfl) ?_
  rw [pk_mul]
  refine go_iload_1 (DL_write.at 25 rfl) ?_
  refine go_iadd (DL_write.at 26 rfl) ?_
  rw [nI_add]
  refine go_iload_2 (DL_write.at 27 rfl) ?_
  refine go_iastL 1 (DL_write.at 28 rfl) hL (by decide) (show 20 * t + c < 60 by omega) (fun ha La Oa => ?_)
  have hYa : LY A _ := hY.up (ρ' := rset ρ 1 (upd (ρ 1) (20 * t + c) (nI v))) (fun k hk => by rw [rset_n (by decide)])
  refine go_aload_4 (DL_write.at 29 rfl) ?_
  refine go_bipush (v := nI 20) (DL_write.at 30 rfl) (by decide) ?_
  refine go_iload_0 (DL_write.at 31 rfl) ?_
  refine go_imul (DL_write.at 32 rfl) ?_
  rw [pk_mul]
  refine go_aload_3 (DL_write.at 33 rfl) ?_
  refine go_cSx1 (DL_write.at 34 rfl) nL_10 vL_data (by omega) (c_data La hYa) (Nat.le_of_ble_eq_true rfl) ?_
  refine go_iadd (DL_write.at 35 rfl) ?_
  rw [nI_add]
  refine go_iload_1 (DL_write.at 36 rfl) ?_
  refine go_aload_3 (DL_write.at 37 rfl) ?_
  refine go_iconst (v := nI 1) (DL_write.at 38 rfl) (by decide) ?_
  refine go_ialdL 0 (DL_write.at 39 rfl) La (by decide) (show 1 < 9 by decide) ?_
  rw [hYa.2.2.2.1]
  refine go_idiv (DL_write.at 40 rfl) (nI_ne0 (by omega) (by omega)) ?_
  rw [pk_div (by omega) (by omega) (by omega)]
  refine go_iadd (DL_write.at 41 rfl) ?_
  rw [nI_add, Nat.add_assoc, ← eh]
  refine go_dup2 (DL_write.at 42 rfl) rfl rfl ?_
  refine go_ialdL 1 (DL_write.at 43 rfl) La (by decide) (show 20 * t + (aG A * aS A + hcv (aG A) (aS A) c) < 60 by omega) ?_
  rw [rset_s, pk_un (by omega), hR.2.2.2.2.1 t ht _ (show aG A * aS A + hcv (aG A) (aS A) c < nc (aG A) (aS A) by omega)]
  refine go_iload_5 (DL_write.at 44 rfl) ?_
  refine go_ixor (DL_write.at 45 rfl) ?_
  rw [nx_xor]
  refine go_iastL 1 (DL_write.at 46 rfl) La (by decide) (show 20 * t + (aG A * aS A + hcv (aG A) (aS A) c) < 60 by omega) (fun hb Lb Ob => ?_)
  refine go_aload_4 (DL_write.at 47 rfl) ?_
  refine go_iload_6 (DL_write.at 48 rfl) ?_
  refine go_dup2 (DL_write.at 49 rfl) rfl rfl ?_
  refine go_ialdL 1 (DL_write.at 50 rfl) Lb (by decide) (show 20 * t + (aG A * aS A + aG A) < 60 by omega) ?_
  rw [rset_s, pk_un (by omega), rset_s, pk_un (by omega), hR.2.2.2.2.1 t ht _ (show aG A * aS A + aG A < nc (aG A) (aS A) by omega)]
  refine go_iload_5 (DL_write.at 51 rfl) ?_
  refine go_iload_1 (DL_write.at 52 rfl) ?_
  refine go_cSx1 (DL_write.at 53 rfl) nL_56 vL_power (by omega) (c_power (show c < 30 by omega) (by omega)) (Nat.le_of_ble_eq_true rfl) ?_
  refine go_cSx2 (DL_write.at 54 rfl) nL_19 vL_times (by omega) (c_times hd16 (pw_lt _)) (Nat.le_of_ble_eq_true rfl) ?_
  refine go_ixor (DL_write.at 55 rfl) ?_
  rw [nx_xor]
  refine go_iastL 1 (DL_write.at 56 rfl) Lb (by decide) (show 20 * t + (aG A * aS A + aG A) < 60 by omega) (fun hg Lg Og => ?_)
  refine go_aload_4 (DL_write.at 57 rfl) ?_
  refine go_iload_6 (DL_write.at 58 rfl) ?_
  refine go_iconst (v := nI 1) (DL_write.at 59 rfl) (by decide) ?_
  refine go_iadd (DL_write.at 60 rfl) ?_
  rw [nI_add, show 20 * t + (aG A * aS A + aG A) + 1 = 20 * t + (aG A * aS A + aG A + 1) by omega]
  refine go_dup2 (DL_write.at 61 rfl) rfl rfl ?_
  refine go_ialdL 1 (DL_write.at 62 rfl) Lg (by decide) (show 20 * t + (aG A * aS A + aG A + 1) < 60 by omega) ?_
  rw [rset_s, pk_un (by omega), rset_s, pk_un (by omega), rset_s, pk_un (by omega), hR.2.2.2.2.1 t ht _ (show aG A * aS A + aG A + 1 < nc (aG A) (aS A) by omega)]
  refine go_iload_5 (DL_write.at 63 rfl) ?_
  refine go_iconst (v := nI 2) (DL_write.at 64 rfl) (by decide) ?_
  refine go_iload_1 (DL_write.at 65 rfl) ?_
  refine go_imul (DL_write.at 66 rfl) ?_
  rw [pk_mul]
  refine go_cSx1 (DL_write.at 67 rfl) nL_56 vL_power (by omega) (c_power (show 2 * c < 30 by omega) (by omega)) (Nat.le_of_ble_eq_true rfl) ?_
  refine go_cSx2 (DL_write.at 68 rfl) nL_19 vL_times (by omega) (c_times hd16 (pw_lt _)) (Nat.le_of_ble_eq_true rfl) ?_
  refine go_ixor (DL_write.at 69 rfl) ?_
  rw [nx_xor]
  refine go_iastL 1 (DL_write.at 70 rfl) Lg (by decide) (show 20 * t + (aG A * aS A + aG A + 1) < 60 by omega) (fun he Le Oe => ?_)
  refine go_return (DL_write.at 71 rfl) rfl (RV.mk ⟨((Oa.trans Ob).trans Og).trans Oe, _, Le, ?_, by rw [rset_n (by decide), rset_n (by decide), rset_n (by decide), rset_n (by decide)], by rw [rset_n (by decide), rset_n (by decide), rset_n (by decide), rset_n (by decide)]⟩)
  rw [rset_s, rset_s, rset_s] at Le ⊢
  refine hR.wrt ht hc hv ?_ ?_ ?_ ?_ ?_ ?_ ?_ ?_ (fun k k1 k2 k3 k4 => ?_)
  · rw [rset_n (by decide), rset_n (by decide), rset_n (by decide), rset_n (by decide)]
  · rw [rset_n (by decide), rset_n (by decide), rset_n (by decide), rset_n (by decide)]
  · rw [rset_n (by decide), rset_n (by decide), rset_n (by decide), rset_n (by decide)]
  · rw [rset_n (by decide), rset_n (by decide), rset_n (by decide), rset_n (by decide)]
  · rw [rset_s, pk_un (by omega), pk_un (by omega), pk_un (by omega), pk_us]
  · rw [rset_s, pk_un (by omega), pk_un (by omega), pk_us]
  · rw [rset_s, pk_un (by omega), pk_us]
  · rw [rset_s, pk_us]
  · rw [rset_s, pk_un k4, pk_un k3, pk_un k2, pk_un k1]

end LM
