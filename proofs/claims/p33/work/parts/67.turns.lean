/-! THE LAW: what a turn does, and its thirty turns -/
section LW
variable {E : AEnv} {d : Nat} {h : List va_E} {ρ : Nat → Nat → Int32} {A : Ab} {Z : Zt} {Ψ : Pst} {fi : Int32} {turn : Nat}
theorem l_choose {u11 u12 u13 u14 u15 u16 : Option Value} (hd : 10 ≤ d) (ht30 : turn < 30) (hS1 : (ESc E).1 ≤ 260) (hL : LA h ρ) (hR : LR A ρ)
    (K : ∀ (k t c v : Nat) (h1 : List va_E) (ρ1 : Nat → Nat → Int32) (x11 x12 x13 : Int32), Cnd A k t c v → ρ1 6 0 = nI k → ρ1 6 1 = nI t → ρ1 6 2 = nI c → ρ1 6 3 = nI v → LA h1 ρ1 → (∀ a, a ≠ 6 → ρ1 a = ρ a) → Only 52 59 h h1 → Go E mL_law d 0 0 391 [some (.ref (BIGN + 2)), some (.ref 0), some (.ref 52), some (.ref 53), some (.ref 54), some (.ref 55), some (.ref 56), some (.ref 57), some (.ref 58), some (.int fi), some (.int (nI turn)), some (.int x11), some (.int x12), some (.int x13), u14, u15, u16] [] h1 Ψ) : Go E mL_law d 0 0 174 [some (.ref (BIGN + 2)), some (.ref 0), some (.ref 52), some (.ref 53), some (.ref 54), some (.ref 55), some (.ref 56), some (.ref 57), some (.ref 58), some (.int fi), some (.int (nI turn)), u11, u12, u13, u14, u15, u16] [] h Ψ := by
  have hA := hR.1
  have hY := hR.2.1
  have hLO := hY.1
  have hT3 : aT A ≤ 3 := hY.2.1
  have hn := hLO.nc
  have hg4 : aG A ≤ 4 := hLO.2.1
  have hg1 : 1 ≤ aG A := hLO.1
  have hs6 : aS A ≤ 6 := hLO.2.2.2.1
  have hs2 : 2 ≤ aS A := hLO.2.2.1
  have hgs : aG A * aS A ≤ 15 := hLO.2.2.2.2.1
  have hH5 : aH A ≤ 5 := hLO.2.2.2.2.2.2.2
  have hT1 : 1 ≤ aT A := hLO.2.2.2.2.2.1
  have en : nc (aG A) (aS A) = aG A * aS A + aG A + 2 := rfl
  have hq60 := hA.q60 hT3
  refine go_aload_0 (DW2.at 11 rfl) ?_
  refine go_iconst (v := nI 1) (DW2.at 12 rfl) (by decide) ?_
  refine go_iconst (v := nI 2) (DW2.at 13 rfl) (by decide) ?_
  refine go_iload_10 (DW2.at 14 rfl) ?_
  refine go_imul (DW2.at 15 rfl) ?_
  rw [pk_mul]
  refine go_iadd (DW2.at 16 rfl) ?_
  rw [nI_add]
  refine go_cSi2 (DW2.at 17 rfl) nL_130 vL_cell (by omega) (c_cell (k := 1 + 2 * turn) (by omega) hS1) (Nat.le_of_ble_eq_true rfl) (fun x181 h181 q181 => ?_)
  rw [q181]
  refine go_istore_11 (DW2.at 18 rfl) ?_
  refine go_aload_0 (DW2.at 19 rfl) ?_
  refine go_iconst (v := nI 2) (DW2.at 20 rfl) (by decide) ?_
  refine go_iconst (v := nI 2) (DW2.at 21 rfl) (by decide) ?_
  refine go_iload_10 (DW2.at 22 rfl) ?_
  refine go_imul (DW2.at 23 rfl) ?_
  rw [pk_mul]
  refine go_iadd (DW2.at 24 rfl) ?_
  rw [nI_add]
  refine go_cSi2 (DW2.at 25 rfl) nL_130 vL_cell (by omega) (c_cell (k := 2 + 2 * turn) (by omega) hS1) (Nat.le_of_ble_eq_true rfl) (fun x193 h193 q193 => ?_)
  rw [q193]
  refine go_istore_12 (DW2.at 26 rfl) ?_
  refine go_iload_11 (DW2.at 27 rfl) ?_
  refine go_bipush (v := nI 12) (DW2.at 28 rfl) (by decide) ?_
  refine go_cSi2 (DW2.at 29 rfl) nL_134 vL_low (by omega) (c_low (by decide) (by decide)) (Nat.le_of_ble_eq_true rfl) (fun x202 h202 q202 => ?_)
  obtain ⟨e202, j, l202, f202⟩ := q202
  rw [e202, f202]
  refine go_istore_13 (DW2.at 30 rfl) ?_
  have t265 : ∀ k : Nat, k < 6 → Go E mL_law d 0 0 265 [some (.ref (BIGN + 2)), some (.ref 0), some (.ref 52), some (.ref 53), some (.ref 54), some (.ref 55), some (.ref 56), some (.ref 57), some (.ref 58), some (.int fi), some (.int (nI turn)), some (.int x181), some (.int x193), some (.int (nI j)), u14, u15, u16] [.int (nI k), .int (nI 0), .ref 58] h Ψ := by
    intro k hk6
    refine go_iastL 6 (DW3.at 9 rfl) hL (by decide) (show 0 < 4 by decide) (fun ha La Oa => ?_)
    have hYa : LY A (rset ρ 6 (upd (ρ 6) 0 (nI k))) := hY.up (fun q hq => by rw [rset_n (by decide)])
    refine go_aload_8 (DW3.at 10 rfl) ?_
    refine go_iconst (v := nI 1) (DW3.at 11 rfl) (by decide) ?_
    refine go_iload_12 (DW3.at 12 rfl) ?_
    refine go_aload_2 (DW3.at 13 rfl) ?_
    refine go_iconst (v := nI 2) (DW3.at 14 rfl) (by decide) ?_
    refine go_ialdL 0 (DW3.at 15 rfl) La (by decide) (show 2 < 9 by decide) ?_
    rw [hYa.2.2.2.2.1]
    refine go_cSi2 (DW3.at 16 rfl) nL_134 vL_low (by omega) (c_low (by omega) (by omega)) (Nat.le_of_ble_eq_true rfl) (fun x274 h274 q274 => ?_)
    obtain ⟨e274, t, l274, f274⟩ := q274
    rw [e274, f274]
    refine go_iastL 6 (DW3.at 17 rfl) La (by decide) (show 1 < 4 by decide) (fun hb Lb Ob => ?_)
    have hYb : LY A (rset (rset ρ 6 (upd (ρ 6) 0 (nI k))) 6 (upd (rset ρ 6 (upd (ρ 6) 0 (nI k)) 6) 1 (nI t))) := hYa.up (fun q hq => by rw [rset_n (by decide)])
    have t340 : ∀ c : Nat, ((k = 0 → c ≤ aG A * aS A) ∧ (k = 2 ∨ k = 4 → c ≤ nc (aG A) (aS A)) ∧ (k = 1 ∨ k = 3 ∨ k = 5 → c < nc (aG A) (aS A))) → Go E mL_law d 0 0 340 [some (.ref (BIGN + 2)), some (.ref 0), some (.ref 52), some (.ref 53), some (.ref 54), some (.ref 55), some (.ref 56), some (.ref 57), some (.ref 58), some (.int fi), some (.int (nI turn)), some (.int x181), some (.int x193), some (.int (nI j)), u14, u15, u16] [.int (nI c), .int (nI 2), .ref 58] hb Ψ := by
      intro c hCC
      refine go_iastL 6 (DW4.at 4 rfl) Lb (by decide) (show 2 < 4 by decide) (fun he Le Oe => ?_)
      refine go_aload_8 (DW4.at 5 rfl) ?_
      refine go_iconst (v := nI 3) (DW4.at 6 rfl) (by decide) ?_
      refine go_iload_12 (DW4.at 7 rfl) ?_
      refine go_bipush (v := nI 9) (DW4.at 8 rfl) (by decide) ?_
      refine go_ishr (DW4.at 9 rfl) ?_
      refine go_bipush (v := nI 16) (DW4.at 10 rfl) (by decide) ?_
      refine go_cSi2 (DW4.at 11 rfl) nL_134 vL_low (by omega) (c_low (by omega) (by omega)) (Nat.le_of_ble_eq_true rfl) (fun x351 h351 q351 => ?_)
      obtain ⟨e351, v, l351, f351⟩ := q351
      rw [e351, f351]
      refine go_iastL 6 (DW4.at 12 rfl) Le (by decide) (show 3 < 4 by decide) (fun hf Lf Of => ?_)
      refine go_aload_8 (DW4.at 13 rfl) ?_
      refine go_iconst (v := nI 0) (DW4.at 14 rfl) (by decide) ?_
      refine go_ialdL 6 (DW4.at 15 rfl) Lf (by decide) (show 0 < 4 by decide) ?_
      rw [rset_s, pk_un (by decide), rset_s, pk_un (by decide), rset_s, pk_un (by decide), rset_s, pk_us]
      refine go_iconst (v := nI 5) (DW4.at 16 rfl) (by decide) ?_
      refine go_icmp_ne 391 (DW4.at 17 rfl) (by decide) (fun c360 => ?_) (fun c360 => ?_)
      · rw [nI_eq (by omega) (by decide)] at c360
        have fL := Lf
        have fO := (((Oa.trans Ob).trans Oe).trans Of)
        have fin : Cnd A k t c v := ⟨hk6, l274, l351, hCC.1, hCC.2.1, hCC.2.2, fun e => absurd e c360⟩
        exact K k _ _ _ _ _ _ _ _ fin (by rfl) (by rfl) (by rfl) (by rfl) fL (fun a ha => by simp only [rset_n ha]) fO
      · rw [nI_eq (by omega) (by decide)] at c360
        refine go_aload_2 (DW4.at 18 rfl) ?_
        refine go_iconst (v := nI 4) (DW4.at 19 rfl) (by decide) ?_
        refine go_ialdL 0 (DW4.at 20 rfl) Lf (by decide) (show 4 < 9 by decide) ?_
        rw [rset_n (by decide), rset_n (by decide), rset_n (by decide), rset_n (by decide), hR.2.2.1]
        refine go_if_le 391 (DW4.at 21 rfl) (by decide) (fun c366 => ?_) (fun c366 => ?_)
        · have hlen : aQ A = [] := by
            by_cases q : (aQ A).length = 0
            · exact List.length_eq_zero_iff.mp q
            · exact absurd c366 (nI_nle (by omega) (by omega))
          have fL := Lf
          have fO := (((Oa.trans Ob).trans Oe).trans Of)
          have fin : Cnd A k t c v := ⟨hk6, l274, l351, hCC.1, hCC.2.1, hCC.2.2, fun _ => Or.inl hlen⟩
          exact K k _ _ _ _ _ _ _ _ fin (by rfl) (by rfl) (by rfl) (by rfl) fL (fun a ha => by simp only [rset_n ha]) fO
        · obtain ⟨y, l, hQ⟩ : ∃ y l, aQ A = y :: l := by
            cases e : aQ A with
            | nil =>
              rw [e] at c366
              exact absurd (show nI ([] : List Nat).length ≤ 0 by decide) c366
            | cons y l => exact ⟨y, l, rfl⟩
          have e0 : (aQ A)[0]? = some y := by rw [hQ]; rfl
          have hy := (hA.2.2.2.2 y).mp (by rw [hQ]; exact List.mem_cons_self)
          refine go_aload_8 (DW4.at 22 rfl) ?_
          refine go_iconst (v := nI 1) (DW4.at 23 rfl) (by decide) ?_
          refine go_aload_5 (DW4.at 24 rfl) ?_
          refine go_iconst (v := nI 0) (DW4.at 25 rfl) (by decide) ?_
          refine go_ialdL 3 (DW4.at 26 rfl) Lf (by decide) (show 0 < 60 by decide) ?_
          rw [rset_n (by decide), rset_n (by decide), rset_n (by decide), rset_n (by decide), hR.2.2.2.2.2.2.1 0 y e0]
          refine go_bipush (v := nI 20) (DW4.at 27 rfl) (by decide) ?_
          refine go_idiv (DW4.at 28 rfl) (nI_ne0 (by decide) (by decide)) ?_
          rw [pk_div (by omega) (by decide) (by decide)]
          refine go_iastL 6 (DW4.at 29 rfl) Lf (by decide) (show 1 < 4 by decide) (fun hg Lg Og => ?_)
          refine go_aload_8 (DW4.at 30 rfl) ?_
          refine go_iconst (v := nI 2) (DW4.at 31 rfl) (by decide) ?_
          refine go_aload_5 (DW4.at 32 rfl) ?_
          refine go_iconst (v := nI 0) (DW4.at 33 rfl) (by decide) ?_
          refine go_ialdL 3 (DW4.at 34 rfl) Lg (by decide) (show 0 < 60 by decide) ?_
          rw [rset_n (by decide), rset_n (by decide), rset_n (by decide), rset_n (by decide), rset_n (by decide), hR.2.2.2.2.2.2.1 0 y e0]
          refine go_bipush (v := nI 20) (DW4.at 35 rfl) (by decide) ?_
          refine go_irem (DW4.at 36 rfl) (nI_ne0 (by decide) (by decide)) ?_
          rw [pk_rem (by omega) (by decide) (by decide)]
          refine go_iastL 6 (DW4.at 37 rfl) Lg (by decide) (show 2 < 4 by decide) (fun hm Lm Om => ?_)
          have fL := Lm
          have fO := ((((((Oa.trans Ob).trans Oe).trans Of).trans Og).trans Om))
          have fin : Cnd A k (y / 20) (y % 20) v := ⟨hk6, hy.1, l351, fun e => by omega, fun e => by omega, fun _ => hy.2.1, fun _ => Or.inr ⟨l, by rw [show 20 * (y / 20) + y % 20 = y by omega]; exact hQ⟩⟩
          exact K k _ _ _ _ _ _ _ _ fin (by rfl) (by rfl) (by rfl) (by rfl) fL (fun a ha => by simp only [rset_n ha]) fO
    refine go_aload_8 (DW3.at 18 rfl) ?_
    refine go_iconst (v := nI 2) (DW3.at 19 rfl) (by decide) ?_
    refine go_aload_8 (DW3.at 20 rfl) ?_
    refine go_iconst (v := nI 0) (DW3.at 21 rfl) (by decide) ?_
    refine go_ialdL 6 (DW3.at 22 rfl) Lb (by decide) (show 0 < 4 by decide) ?_
    rw [rset_s, pk_un (by decide), rset_s, pk_us]
    refine go_if_ne 304 (DW3.at 23 rfl) (by decide) (fun c285 => ?_) (fun c285 => ?_)
    · rw [nI_eq0 (by omega)] at c285
      refine go_iload_12 (DW3.at 33 rfl) ?_
      refine go_iconst (v := nI 4) (DW3.at 34 rfl) (by decide) ?_
      refine go_ishr (DW3.at 35 rfl) ?_
      refine go_aload_8 (DW3.at 36 rfl) ?_
      refine go_iconst (v := nI 0) (DW3.at 37 rfl) (by decide) ?_
      refine go_ialdL 6 (DW3.at 38 rfl) Lb (by decide) (show 0 < 4 by decide) ?_
      rw [rset_s, pk_un (by decide), rset_s, pk_us]
      refine go_iconst (v := nI 2) (DW3.at 39 rfl) (by decide) ?_
      refine go_icmp_eq 324 (DW3.at 40 rfl) (by decide) (fun c313 => ?_) (fun c313 => ?_)
      · rw [nI_eq (by omega) (by decide)] at c313
        refine go_aload_2 (DW3.at 46 rfl) ?_
        refine go_cSx1 (DW3.at 47 rfl) nL_16 vL_all (by omega) (c_all Lb hYb) (Nat.le_of_ble_eq_true rfl) ?_
        refine go_iconst (v := nI 1) (DW3.at 48 rfl) (by decide) ?_
        refine go_iadd (DW3.at 49 rfl) ?_
        rw [nI_add]
        refine go_goto 337 (DW4.at 0 rfl) (by decide) ?_
        refine go_cSi2 (DW4.at 3 rfl) nL_134 vL_low (by omega) (c_low (by omega) (by omega)) (Nat.le_of_ble_eq_true rfl) (fun x337 h337 q337 => ?_)
        obtain ⟨e337, c, l337, f337⟩ := q337
        rw [e337, f337]
        exact t340 _ (by omega)
      · rw [nI_eq (by omega) (by decide)] at c313
        refine go_aload_8 (DW3.at 41 rfl) ?_
        refine go_iconst (v := nI 0) (DW3.at 42 rfl) (by decide) ?_
        refine go_ialdL 6 (DW3.at 43 rfl) Lb (by decide) (show 0 < 4 by decide) ?_
        rw [rset_s, pk_un (by decide), rset_s, pk_us]
        refine go_iconst (v := nI 4) (DW3.at 44 rfl) (by decide) ?_
        refine go_icmp_ne 333 (DW3.at 45 rfl) (by decide) (fun c321 => ?_) (fun c321 => ?_)
        · rw [nI_eq (by omega) (by decide)] at c321
          refine go_aload_2 (DW4.at 1 rfl) ?_
          refine go_cSx1 (DW4.at 2 rfl) nL_16 vL_all (by omega) (c_all Lb hYb) (Nat.le_of_ble_eq_true rfl) ?_
          refine go_cSi2 (DW4.at 3 rfl) nL_134 vL_low (by omega) (c_low (by omega) (by omega)) (Nat.le_of_ble_eq_true rfl) (fun x337 h337 q337 => ?_)
          obtain ⟨e337, c, l337, f337⟩ := q337
          rw [e337, f337]
          exact t340 _ (by omega)
        · rw [nI_eq (by omega) (by decide)] at c321
          refine go_aload_2 (DW3.at 46 rfl) ?_
          refine go_cSx1 (DW3.at 47 rfl) nL_16 vL_all (by omega) (c_all Lb hYb) (Nat.le_of_ble_eq_true rfl) ?_
          refine go_iconst (v := nI 1) (DW3.at 48 rfl) (by decide) ?_
          refine go_iadd (DW3.at 49 rfl) ?_
          rw [nI_add]
          refine go_goto 337 (DW4.at 0 rfl) (by decide) ?_
          refine go_cSi2 (DW4.at 3 rfl) nL_134 vL_low (by omega) (c_low (by omega) (by omega)) (Nat.le_of_ble_eq_true rfl) (fun x337 h337 q337 => ?_)
          obtain ⟨e337, c, l337, f337⟩ := q337
          rw [e337, f337]
          exact t340 _ (by omega)
    · rw [nI_eq0 (by omega)] at c285
      refine go_iload_12 (DW3.at 24 rfl) ?_
      refine go_iconst (v := nI 4) (DW3.at 25 rfl) (by decide) ?_
      refine go_ishr (DW3.at 26 rfl) ?_
      refine go_aload_2 (DW3.at 27 rfl) ?_
      refine go_cSx1 (DW3.at 28 rfl) nL_10 vL_data (by omega) (c_data Lb hYb) (Nat.le_of_ble_eq_true rfl) ?_
      refine go_iconst (v := nI 1) (DW3.at 29 rfl) (by decide) ?_
      refine go_iadd (DW3.at 30 rfl) ?_
      rw [nI_add]
      refine go_cSi2 (DW3.at 31 rfl) nL_134 vL_low (by omega) (c_low (by omega) (by omega)) (Nat.le_of_ble_eq_true rfl) (fun x298 h298 q298 => ?_)
      obtain ⟨e298, c, l298, f298⟩ := q298
      rw [e298, f298]
      refine go_goto 340 (DW3.at 32 rfl) (by decide) ?_
      exact t340 _ (by omega)
  refine go_aload_8 (DW2.at 31 rfl) ?_
  refine go_iconst (v := nI 0) (DW2.at 32 rfl) (by decide) ?_
  refine go_iload_13 (DW2.at 33 rfl) ?_
  refine go_iconst (v := nI 4) (DW2.at 34 rfl) (by decide) ?_
  refine go_icmp_ge 220 (DW2.at 35 rfl) (by decide) (fun c213 => ?_) (fun c213 => ?_)
  · refine go_iload_13 (DW2.at 38 rfl) ?_
    refine go_bipush (v := nI 7) (DW2.at 39 rfl) (by decide) ?_
    refine go_icmp_ge 231 (DW2.at 40 rfl) (by decide) (fun c224 => ?_) (fun c224 => ?_)
    · refine go_iload_13 (DW2.at 43 rfl) ?_
      refine go_bipush (v := nI 7) (DW2.at 44 rfl) (by decide) ?_
      refine go_icmp_ne 242 (DW2.at 45 rfl) (by decide) (fun c235 => ?_) (fun c235 => ?_)
      · refine go_iload_13 (DW2.at 48 rfl) ?_
        refine go_bipush (v := nI 10) (DW2.at 49 rfl) (by decide) ?_
        refine go_icmp_ge 253 (DW3.at 0 rfl) (by decide) (fun c246 => ?_) (fun c246 => ?_)
        · refine go_iload_13 (DW3.at 3 rfl) ?_
          refine go_bipush (v := nI 10) (DW3.at 4 rfl) (by decide) ?_
          refine go_icmp_ne 264 (DW3.at 5 rfl) (by decide) (fun c257 => ?_) (fun c257 => ?_)
          · refine go_iconst (v := nI 5) (DW3.at 8 rfl) (by decide) ?_
            exact t265 _ (by decide)
          · refine go_iconst (v := nI 4) (DW3.at 6 rfl) (by decide) ?_
            refine go_goto 265 (DW3.at 7 rfl) (by decide) ?_
            exact t265 _ (by decide)
        · refine go_iconst (v := nI 3) (DW3.at 1 rfl) (by decide) ?_
          refine go_goto 265 (DW3.at 2 rfl) (by decide) ?_
          exact t265 _ (by decide)
      · refine go_iconst (v := nI 2) (DW2.at 46 rfl) (by decide) ?_
        refine go_goto 265 (DW2.at 47 rfl) (by decide) ?_
        exact t265 _ (by decide)
    · refine go_iconst (v := nI 1) (DW2.at 41 rfl) (by decide) ?_
      refine go_goto 265 (DW2.at 42 rfl) (by decide) ?_
      exact t265 _ (by decide)
  · refine go_iconst (v := nI 0) (DW2.at 36 rfl) (by decide) ?_
    refine go_goto 265 (DW2.at 37 rfl) (by decide) ?_
    exact t265 _ (by decide)
theorem l_loop (hd : 10 ≤ d) (hS1 : (ESc E).1 ≤ 260) (Kend : ∀ (Z : Zt) (h : List va_E) (ρ : Nat → Nat → Int32) (u11 u12 u13 u14 u15 u16 : Option Value), CZ (fun j => h[j]?) Z h 0 → LA h ρ → LR (zA Z) ρ → Cw (zA Z) → Go E mL_law d 0 0 652 [some (.ref (BIGN + 2)), some (.ref 0), some (.ref 52), some (.ref 53), some (.ref 54), some (.ref 55), some (.ref 56), some (.ref 57), some (.ref 58), some (.int fi), some (.int (nI 30)), u11, u12, u13, u14, u15, u16] [] h Ψ) : ∀ (m turn : Nat) (Z : Zt) (h : List va_E) (ρ : Nat → Nat → Int32) (u11 u12 u13 u14 u15 u16 : Option Value), CZ (fun j => h[j]?) Z h 0 → LA h ρ → LR (zA Z) ρ → Cw (zA Z) → turn + m = 30 → Go E mL_law d 0 0 167 [some (.ref (BIGN + 2)), some (.ref 0), some (.ref 52), some (.ref 53), some (.ref 54), some (.ref 55), some (.ref 56), some (.ref 57), some (.ref 58), some (.int fi), some (.int (nI turn)), u11, u12, u13, u14, u15, u16] [] h Ψ := by
  intro m
  induction m with
  | zero =>
    intro turn Z h ρ u11 u12 u13 u14 u15 u16 hZ hL hR hK hm
    have et : turn = 30 := by omega
    subst et
    refine go_iload_10 (DW2.at 8 rfl) ?_
    refine go_bipush (v := nI 30) (DW2.at 9 rfl) (by decide) ?_
    refine go_icmp_ge 652 (DW2.at 10 rfl) (by decide) (fun c171 => ?_) (fun c171 => absurd (Int32.le_refl _) c171)
    exact Kend Z h ρ _ _ _ _ _ _ hZ hL hR hK
  | succ m ih =>
    intro turn Z h ρ u11 u12 u13 u14 u15 u16 hZ hL hR hK hm
    refine go_iload_10 (DW2.at 8 rfl) ?_
    refine go_bipush (v := nI 30) (DW2.at 9 rfl) (by decide) ?_
    refine go_icmp_ge 652 (DW2.at 10 rfl) (by decide) (fun c171 => absurd c171 (by rw [nI_leI (by decide) (by omega)]; omega)) (fun c171 => ?_)
    refine l_choose hd (by omega) hS1 hL hR (fun k t c v h1 ρ1 x11 x12 x13 hC r0 r1 r2 r3 L1 eo O1 => ?_)
    have Z1 := hZ.keep O1 (by omega)
    have R1 : LR (zA Z) ρ1 := hR.cg (fun a ha => eo a (by omega))
    refine l_391 hd hC r0 r2 hK L1 R1 Z1 rfl (fun h2 ρ2 w14 w15 w16 Z2 L2 eo2 e5 => ?_)
    have R2 : LR (zA Z) ρ2 := R1.cg (fun a ha => eo2 a (by omega))
    have s0 : ρ2 6 0 = nI k := by rw [eo2 6 (by decide)]; exact r0
    have s1 : ρ2 6 1 = nI t := by rw [eo2 6 (by decide)]; exact r1
    have s2 : ρ2 6 2 = nI c := by rw [eo2 6 (by decide)]; exact r2
    have s3 : ρ2 6 3 = nI v := by rw [eo2 6 (by decide)]; exact r3
    refine l_509 hd hC s0 s1 s2 s3 L2 R2 Z2 rfl (fun h3 Z' w14 Z3 eZ L3 => ?_)
    exact l_609 hd hC e5 s0 s1 s2 s3 hK L3 R2 Z3 eZ (fun h4 ρ4 Z4 L4 R4 K4 => ih (turn + 1) Z' h4 ρ4 _ _ _ _ _ _ Z4 L4 R4 K4 (by omega))
end LW
