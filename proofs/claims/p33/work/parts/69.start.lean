/-! THE LAW FROM ITS START: the object, the rows, the layout -/
theorem cn5_ok : ∀ j, j < 9 → defaultValue (clTy 5 j) = vp_V [.null, .null, .null, .null, .null, .null, .null, .int 0, .int 0] j := by
  intro j hj
  rcases (show j = 0 ∨ j = 1 ∨ j = 2 ∨ j = 3 ∨ j = 4 ∨ j = 5 ∨ j = 6 ∨ j = 7 ∨ j = 8 by omega) with rfl | rfl | rfl | rfl | rfl | rfl | rfl | rfl | rfl <;> rfl
theorem HsT.app {h cs : List va_E} {b j : Nat} (q : HsT h b j) : HsT (h ++ cs) b j := by
  obtain ⟨F, h1, h2⟩ := q
  refine ⟨F, Ext.app (a := b + 1000) _ _ (by omega) h1, fun i hi => ?_⟩
  obtain ⟨e, σ, s, w⟩ := h2 i hi
  exact ⟨e, σ, s.ext (Ext.app (a := b)) (by omega), w⟩
theorem ClNew.app {h cs : List va_E} {b : Nat} (q : ClNew h b) : ClNew (h ++ cs) b := by
  obtain ⟨h1, h2, h3⟩ := q
  exact ⟨Ext.app (a := b + 1000) _ _ (by omega) h1, h2.ext (a := b) Ext.app (Or.inl rfl), h3.app⟩
section LS
variable {E : AEnv} {Y : MI} {d k n pc pc' : Nat} {ls : List (Option Value)} {st : List Value} {h : List va_E} {Ψ : Pst}
theorem go_arr {N b : Nat} (hd : Dc Y pc (.newarray .int) pc') (hb : h.length = b) (hN : N ≤ 100) (hB : b < 1000) (K : ∀ h1, h1 = h ++ [ar N (fun _ => 0)] → h1.length = b + 1 → h1[b]? = some (ar N (fun _ => 0)) → (∀ i, i < b → h1[i]? = h[i]?) → Go E Y d k n pc' ls (.ref b :: st) h1 Ψ) : Go E Y d (1 + k) (N + n) pc ls (.int (nI N) :: st) h Ψ := by
  have hBN : BIGN = 1000000 := rfl
  refine go_newint hd (BW_mem (by decide +kernel) rfl) (nI_pos (by omega)) (nI_cl (by omega)) (by omega) (by rw [hBN]; omega) ?_
  rw [hb]
  refine K _ rfl (by rw [List.length_append, hb]; rfl) ?_ (fun i hi => List.getElem?_append_left (by omega))
  rw [List.getElem?_append_right (by omega), hb, Nat.sub_self]
  rfl
end LS
theorem lay_ok {j0 n j1 j2 j3 : Nat} (h0 : j0 < 4) (hn : n ≤ 5 ∧ (j0 = 3 → n = 2) ∧ (j0 = 2 → n = 4)) (h1 : j1 < n) (h2 : j2 < 3) (h3 : j3 < 6) : LayOK (1 + j0) (2 + j1) (1 + j2) j3 := by
  have hm : (1 + j0) * (2 + j1) ≤ 15 := by
    rcases (show j0 = 0 ∨ j0 = 1 ∨ j0 = 2 ∨ j0 = 3 by omega) with rfl | rfl | rfl | rfl <;> omega
  exact ⟨by omega, by omega, by omega, by omega, hm, by omega, by omega, by omega⟩
theorem z_zero : (0 : Int32) = nI 0 := by decide
/-- the rows at the start -/
theorem lr_new {K : Ab} {g s T sh : Nat} {ρ : Nat → Nat → Int32} (hL : LayOK g s T sh) (hT : T ≤ 3) (hK : ∀ k, k < 4 → aK K k = 0) (e0 : ρ 0 0 = nI g) (e1 : ρ 0 1 = nI s) (e2 : ρ 0 2 = nI T) (e3 : ρ 0 3 = nI sh) (ez : ∀ k, 4 ≤ k → ρ 0 k = 0) (eo : ∀ a j, a ≠ 0 → ρ a j = 0) : LR (aNew K g s T sh) ρ := by
  refine ⟨zero_ok hL, ⟨hL, hT, e0, e1, e2, e3⟩, (ez 4 (by decide)).trans z_zero, fun k hk => (ez (5 + k) (by omega)).trans (hK k hk).symm, fun t ht c hc => (eo 1 _ (by decide)).trans z_zero, fun t ht => (eo 2 _ (by decide)).trans z_zero, fun i x hx => ?_, fun j hj => eo 4 j (by decide)⟩
  have hx : ([] : List Nat)[i]? = some x := hx
  rw [List.getElem?_nil] at hx
  cases hx
section LW
variable {E : AEnv} {d : Nat} {h : List va_E} {Ψ : Pst}
theorem l_45 (hd : 10 ≤ d) (hS1 : (ESc E).1 ≤ 260) (hΨ : ∀ h, Ψ (some (.int 1)) h) (hL : LA h (fun _ _ => 0)) (hZ : CZ (fun j => h[j]?) z0 h 0) : Go E mL_law d 0 0 45 [some (.ref (BIGN + 2)), some (.ref 0), some (.ref 52), some (.ref 53), some (.ref 54), some (.ref 55), some (.ref 56), some (.ref 57), some (.ref 58), none, none, none, none, none, none, none, none] [] h Ψ := by
  refine go_aload_0 (DW0.at 25 rfl) ?_
  refine go_iconst (v := nI 0) (DW0.at 26 rfl) (by decide) ?_
  refine go_cSi2 (DW0.at 27 rfl) nL_130 vL_cell (by omega) (c_cell (k := 0) (by decide) hS1) (Nat.le_of_ble_eq_true rfl) (fun x47 h47 q47 => ?_)
  rw [q47]
  refine go_istore_9 (DW0.at 28 rfl) ?_
  refine go_aload_2 (DW0.at 29 rfl) ?_
  refine go_iconst (v := nI 0) (DW0.at 30 rfl) (by decide) ?_
  refine go_iconst (v := nI 1) (DW0.at 31 rfl) (by decide) ?_
  refine go_iload_9 (DW0.at 32 rfl) ?_
  refine go_iconst (v := nI 4) (DW0.at 33 rfl) (by decide) ?_
  refine go_cSi2 (DW0.at 34 rfl) nL_134 vL_low (by omega) (c_low (by decide) (by decide)) (Nat.le_of_ble_eq_true rfl) (fun x58 h58 q58 => ?_)
  obtain ⟨e58, j0, l58, f58⟩ := q58
  rw [e58, f58]
  refine go_iadd (DW0.at 35 rfl) ?_
  rw [nI_add]
  refine go_iastL 0 (DW0.at 36 rfl) hL (by decide) (show 0 < 9 by decide) (fun ha La Oa => ?_)
  have t93 : ∀ (n : Nat) (y : Int32), 0 < n ∧ n ≤ 5 ∧ (j0 = 3 → n = 2) ∧ (j0 = 2 → n = 4) → Go E mL_law d 0 0 93 [some (.ref (BIGN + 2)), some (.ref 0), some (.ref 52), some (.ref 53), some (.ref 54), some (.ref 55), some (.ref 56), some (.ref 57), some (.ref 58), some (.int x47), none, none, none, none, none, none, none] [.int (nI n), .int y, .int (nI 2), .int (nI 1), .ref 52] ha Ψ := by
    intro n y hn0
    have hn := hn0.2
    have hn00 := hn0.1
    refine go_cSi2 (DW1.at 8 rfl) nL_134 vL_low (by omega) (c_low (by omega) (by omega)) (Nat.le_of_ble_eq_true rfl) (fun x93 h93 q93 => ?_)
    obtain ⟨e93, j1, l93, f93⟩ := q93
    rw [e93, f93]
    refine go_iadd (DW1.at 9 rfl) ?_
    rw [nI_add]
    refine go_iastL 0 (DW1.at 10 rfl) La (by decide) (show 1 < 9 by decide) (fun hb Lb Ob => ?_)
    refine go_aload_2 (DW1.at 11 rfl) ?_
    refine go_iconst (v := nI 2) (DW1.at 12 rfl) (by decide) ?_
    refine go_iconst (v := nI 1) (DW1.at 13 rfl) (by decide) ?_
    refine go_iload_9 (DW1.at 14 rfl) ?_
    refine go_iconst (v := nI 5) (DW1.at 15 rfl) (by decide) ?_
    refine go_ishr (DW1.at 16 rfl) ?_
    refine go_iconst (v := nI 3) (DW1.at 17 rfl) (by decide) ?_
    refine go_cSi2 (DW1.at 18 rfl) nL_134 vL_low (by omega) (c_low (by omega) (by omega)) (Nat.le_of_ble_eq_true rfl) (fun x106 h106 q106 => ?_)
    obtain ⟨e106, j2, l106, f106⟩ := q106
    rw [e106, f106]
    refine go_iadd (DW1.at 19 rfl) ?_
    rw [nI_add]
    refine go_iastL 0 (DW1.at 20 rfl) Lb (by decide) (show 2 < 9 by decide) (fun hc Lc Oc => ?_)
    refine go_aload_2 (DW1.at 21 rfl) ?_
    refine go_iconst (v := nI 3) (DW1.at 22 rfl) (by decide) ?_
    refine go_iload_9 (DW1.at 23 rfl) ?_
    refine go_bipush (v := nI 8) (DW1.at 24 rfl) (by decide) ?_
    refine go_ishr (DW1.at 25 rfl) ?_
    refine go_bipush (v := nI 6) (DW1.at 26 rfl) (by decide) ?_
    refine go_cSi2 (DW1.at 27 rfl) nL_134 vL_low (by omega) (c_low (by omega) (by omega)) (Nat.le_of_ble_eq_true rfl) (fun x120 h120 q120 => ?_)
    obtain ⟨e120, j3, l120, f120⟩ := q120
    rw [e120, f120]
    refine go_iastL 0 (DW1.at 28 rfl) Lc (by decide) (show 3 < 9 by decide) (fun hd Ld Od => ?_)
    have hLO : LayOK (1 + j0) (2 + j1) (1 + j2) j3 := lay_ok l58 hn l93 l106 l120
    have hn20 := hLO.nc
    have Zd := hZ.keep (((Oa.trans Ob).trans Oc).trans Od) (by omega)
    obtain ⟨nd, kd, od⟩ := Zd.obj
    have eS : slF (zA z0) (nI (1 + j0)) (nI (2 + j1)) (nI (1 + j2)) (nI j3) = (nI (nc (1 + j0) (2 + j1)), aNew (zA z0) (1 + j0) (2 + j1) (1 + j2) j3) := slF_in hLO
    have hK : Cw (aNew (zA z0) (1 + j0) (2 + j1) (1 + j2) j3) := Cw.new
    have hR : LR (aNew (zA z0) (1 + j0) (2 + j1) (1 + j2) j3) _ := lr_new (ρ := rset (rset (rset (rset (fun _ _ => (0 : Int32)) 0 (upd (fun _ => (0 : Int32)) 0 (nI (1 + j0)))) 0 (upd (rset (fun _ _ => (0 : Int32)) 0 (upd (fun _ => (0 : Int32)) 0 (nI (1 + j0))) 0) 1 (nI (2 + j1)))) 0 (upd (rset (rset (fun _ _ => (0 : Int32)) 0 (upd (fun _ => (0 : Int32)) 0 (nI (1 + j0)))) 0 (upd (rset (fun _ _ => (0 : Int32)) 0 (upd (fun _ => (0 : Int32)) 0 (nI (1 + j0))) 0) 1 (nI (2 + j1))) 0) 2 (nI (1 + j2)))) 0 (upd (rset (rset (rset (fun _ _ => (0 : Int32)) 0 (upd (fun _ => (0 : Int32)) 0 (nI (1 + j0)))) 0 (upd (rset (fun _ _ => (0 : Int32)) 0 (upd (fun _ => (0 : Int32)) 0 (nI (1 + j0))) 0) 1 (nI (2 + j1)))) 0 (upd (rset (rset (fun _ _ => (0 : Int32)) 0 (upd (fun _ => (0 : Int32)) 0 (nI (1 + j0)))) 0 (upd (rset (fun _ _ => (0 : Int32)) 0 (upd (fun _ => (0 : Int32)) 0 (nI (1 + j0))) 0) 1 (nI (2 + j1))) 0) 2 (nI (1 + j2))) 0) 3 (nI j3))) hLO (by omega) (fun k hk => rfl)
      (by rw [rset_s, pk_un (by decide), rset_s, pk_un (by decide), rset_s, pk_un (by decide), rset_s, pk_us]) (by rw [rset_s, pk_un (by decide), rset_s, pk_un (by decide), rset_s, pk_us]) (by rw [rset_s, pk_un (by decide), rset_s, pk_us]) (by rw [rset_s, pk_us])
      (fun k hk => by rw [rset_s, pk_un (by omega), rset_s, pk_un (by omega), rset_s, pk_un (by omega), rset_s, pk_un (by omega)]) (fun a j ha => by rw [rset_n ha, rset_n ha, rset_n ha, rset_n ha])
    have eG : aG (aNew (zA z0) (1 + j0) (2 + j1) (1 + j2) j3) = 1 + j0 := rfl
    have eSz : aS (aNew (zA z0) (1 + j0) (2 + j1) (1 + j2) j3) = 2 + j1 := rfl
    have eTt : aT (aNew (zA z0) (1 + j0) (2 + j1) (1 + j2) j3) = 1 + j2 := rfl
    have eHh : aH (aNew (zA z0) (1 + j0) (2 + j1) (1 + j2) j3) = j3 := rfl
    refine go_aload_1 (DW1.at 29 rfl) ?_
    refine go_aload_2 (DW1.at 30 rfl) ?_
    refine go_iconst (v := nI 0) (DW1.at 31 rfl) (by decide) ?_
    refine go_ialdL 0 (DW1.at 32 rfl) Ld (by decide) (show 0 < 9 by decide) ?_
    rw [hR.2.1.2.2.1, eG]
    refine go_aload_2 (DW1.at 33 rfl) ?_
    refine go_iconst (v := nI 1) (DW1.at 34 rfl) (by decide) ?_
    refine go_ialdL 0 (DW1.at 35 rfl) Ld (by decide) (show 1 < 9 by decide) ?_
    rw [hR.2.1.2.2.2.1, eSz]
    refine go_aload_2 (DW1.at 36 rfl) ?_
    refine go_iconst (v := nI 2) (DW1.at 37 rfl) (by decide) ?_
    refine go_ialdL 0 (DW1.at 38 rfl) Ld (by decide) (show 2 < 9 by decide) ?_
    rw [hR.2.1.2.2.2.2.1, eTt]
    refine go_aload_2 (DW1.at 39 rfl) ?_
    refine go_iconst (v := nI 3) (DW1.at 40 rfl) (by decide) ?_
    refine go_ialdL 0 (DW1.at 41 rfl) Ld (by decide) (show 3 < 9 by decide) ?_
    rw [hR.2.1.2.2.2.2.2, eHh]
    refine go_cVi4 (DW1.at 42 rfl) nL_137 vX5_setLayout (by omega) (z_setLayout Zd (by omega)) od rfl (Nat.le_of_ble_eq_true rfl) (fun x137 h137 q137 => ?_)
    obtain ⟨e137, Z137⟩ := q137
    rw [eS] at e137 Z137
    rw [chZ_1] at e137
    subst e137
    have eZ : zA (chZ z0 (nI (nc (1 + j0) (2 + j1)), aNew (zA z0) (1 + j0) (2 + j1) (1 + j2) j3)).2 = aNew (zA z0) (1 + j0) (2 + j1) (1 + j2) j3 := by rw [chZ_A, stp_y (nI_pos (by omega))]
    refine go_aload_2 (DW1.at 43 rfl) ?_
    refine go_cSx1 (DW1.at 44 rfl) nL_16 vL_all (by omega) (c_all (Ld.cz Z137) hR.2.1) (Nat.le_of_ble_eq_true rfl) ?_
    refine go_icmp_ne 162 (DW1.at 45 rfl) (by decide) (fun c144 => absurd rfl c144) (fun c144 => ?_)
    refine go_aload_1 (DW1.at 46 rfl) ?_
    refine go_aload_2 (DW1.at 47 rfl) ?_
    refine go_aload_3 (DW1.at 48 rfl) ?_
    refine go_aload_4 (DW1.at 49 rfl) ?_
    refine go_aload_5 (DW2.at 0 rfl) ?_
    refine go_aload_6 (DW2.at 1 rfl) ?_
    refine go_cSi6 (DW2.at 2 rfl) nL_141 vL_isSo (by omega) (c_isSo hK eZ (Z137.re (fun _ _ => rfl)) (Ld.cz Z137) hR (by omega)) (Nat.le_of_ble_eq_true rfl) (fun x156 h156 q156 => ?_)
    obtain ⟨e156, Z156⟩ := q156
    subst e156
    refine go_if_ne 164 (DW2.at 3 rfl) (by decide) (fun c159 => ?_) (fun c159 => absurd c159 (by decide))
    refine go_iconst (v := nI 0) (DW2.at 6 rfl) (by decide) ?_
    refine go_istore_10 (DW2.at 7 rfl) ?_
    exact l_loop (by omega) hS1 (fun Z h ρ u11 u12 u13 u14 u15 u16 hZ hL hR hK => l_652 (by omega) hΨ hK hL hR hZ rfl) 30 0 _ h156 _ _ _ _ _ _ _ (Z156.re (fun _ _ => rfl)) ((Ld.cz Z137).cz Z156) (by rw [eZ]; exact hR) (by rw [eZ]; exact hK) (Nat.zero_add _)
  refine go_aload_2 (DW0.at 37 rfl) ?_
  refine go_iconst (v := nI 1) (DW0.at 38 rfl) (by decide) ?_
  refine go_iconst (v := nI 2) (DW0.at 39 rfl) (by decide) ?_
  refine go_iload_9 (DW0.at 40 rfl) ?_
  refine go_iconst (v := nI 2) (DW0.at 41 rfl) (by decide) ?_
  refine go_ishr (DW0.at 42 rfl) ?_
  refine go_aload_2 (DW0.at 43 rfl) ?_
  refine go_iconst (v := nI 0) (DW0.at 44 rfl) (by decide) ?_
  refine go_ialdL 0 (DW0.at 45 rfl) La (by decide) (show 0 < 9 by decide) ?_
  rw [rset_s, pk_us]
  refine go_iconst (v := nI 4) (DW0.at 46 rfl) (by decide) ?_
  refine go_icmp_ne 81 (DW0.at 47 rfl) (by decide) (fun c74 => ?_) (fun c74 => ?_)
  · rw [nI_eq (by omega) (by decide)] at c74
    refine go_aload_2 (DW1.at 0 rfl) ?_
    refine go_iconst (v := nI 0) (DW1.at 1 rfl) (by decide) ?_
    refine go_ialdL 0 (DW1.at 2 rfl) La (by decide) (show 0 < 9 by decide) ?_
    rw [rset_s, pk_us]
    refine go_iconst (v := nI 3) (DW1.at 3 rfl) (by decide) ?_
    refine go_icmp_ne 92 (DW1.at 4 rfl) (by decide) (fun c85 => ?_) (fun c85 => ?_)
    · rw [nI_eq (by omega) (by decide)] at c85
      refine go_iconst (v := nI 5) (DW1.at 7 rfl) (by decide) ?_
      exact t93 _ _ (by omega)
    · rw [nI_eq (by omega) (by decide)] at c85
      refine go_iconst (v := nI 4) (DW1.at 5 rfl) (by decide) ?_
      refine go_goto 93 (DW1.at 6 rfl) (by decide) ?_
      exact t93 _ _ (by omega)
  · rw [nI_eq (by omega) (by decide)] at c74
    refine go_iconst (v := nI 2) (DW0.at 48 rfl) (by decide) ?_
    refine go_goto 93 (DW0.at 49 rfl) (by decide) ?_
    exact t93 _ _ (by omega)
theorem c_law (hd : 10 ≤ d) (hS1 : (ESc E).1 ≤ 260) (hΨ : ∀ h, Ψ (some (.int 1)) h) : Go E mL_law d 59 3017 0 [some (.ref (BIGN + 2)), none, none, none, none, none, none, none, none, none, none, none, none, none, none, none, none] [] [] Ψ := by
  refine go_new (ci := 5) (N := 9) (k := 58) (n := 3008) (fs := [.null, .null, .null, .null, .null, .null, .null, .int 0, .int 0]) (DW0.at 0 rfl) rfl (BW_mem (by decide +kernel) rfl) (BW_mem (by decide +kernel) rfl) (BW_mem (by decide +kernel) rfl) cn5_ok rfl (by decide) ?_
  refine go_dup (DW0.at 1 rfl) rfl ?_
  refine go_callI (k1 := 51) (n1 := 2849) (k := 7) (n := 159) (As := []) (DW0.at 2 rfl) nL_129 vX5_init (by omega) (c_newClass (l := []) (by decide) (by omega)) rfl (Nat.le_of_ble_eq_true rfl) (fun h1 q1 => ?_)
  obtain ⟨cs, e1, hn1, q1⟩ := q1
  have e1 : h1 = cs := e1
  subst e1
  refine go_astore_1 (DW0.at 3 rfl) ?_
  refine go_bipush (v := nI 9) (DW0.at 4 rfl) (by decide) ?_
  refine go_arr (N := 9) (b := 52) (k := 6) (n := 150) (DW0.at 5 rfl) hn1 (by decide) (by decide) (fun h2 e2 hn2 g2 p2 => ?_)
  refine go_astore_2 (DW0.at 6 rfl) ?_
  refine go_bipush (v := nI 60) (DW0.at 7 rfl) (by decide) ?_
  refine go_arr (N := 60) (b := 53) (k := 5) (n := 90) (DW0.at 8 rfl) hn2 (by decide) (by decide) (fun h3 e3 hn3 g3 p3 => ?_)
  refine go_astore_3 (DW0.at 9 rfl) ?_
  refine go_iconst (v := nI 3) (DW0.at 10 rfl) (by decide) ?_
  refine go_arr (N := 3) (b := 54) (k := 4) (n := 87) (DW0.at 11 rfl) hn3 (by decide) (by decide) (fun h4 e4 hn4 g4 p4 => ?_)
  refine go_astore_4 (DW0.at 12 rfl) ?_
  refine go_bipush (v := nI 60) (DW0.at 13 rfl) (by decide) ?_
  refine go_arr (N := 60) (b := 55) (k := 3) (n := 27) (DW0.at 14 rfl) hn4 (by decide) (by decide) (fun h5 e5 hn5 g5 p5 => ?_)
  refine go_astore_5 (DW0.at 15 rfl) ?_
  refine go_bipush (v := nI 20) (DW0.at 16 rfl) (by decide) ?_
  refine go_arr (N := 20) (b := 56) (k := 2) (n := 7) (DW0.at 17 rfl) hn5 (by decide) (by decide) (fun h6 e6 hn6 g6 p6 => ?_)
  refine go_astore_6 (DW0.at 18 rfl) ?_
  refine go_iconst (v := nI 3) (DW0.at 19 rfl) (by decide) ?_
  refine go_arr (N := 3) (b := 57) (k := 1) (n := 4) (DW0.at 20 rfl) hn6 (by decide) (by decide) (fun h7 e7 hn7 g7 p7 => ?_)
  refine go_astore_7 (DW0.at 21 rfl) ?_
  refine go_iconst (v := nI 4) (DW0.at 22 rfl) (by decide) ?_
  refine go_arr (N := 4) (b := 58) (k := 0) (n := 0) (DW0.at 23 rfl) hn7 (by decide) (by decide) (fun h8 e8 hn8 g8 p8 => ?_)
  refine go_astore_8 (DW0.at 24 rfl) ?_
  have hC : ClNew h8 0 := by
    rw [e8, e7, e6, e5, e4, e3, e2]
    exact q1.app.app.app.app.app.app.app
  have hL : LA h8 (fun _ _ => 0) := by
    intro a ha
    rcases (show a = 0 ∨ a = 1 ∨ a = 2 ∨ a = 3 ∨ a = 4 ∨ a = 5 ∨ a = 6 by omega) with rfl | rfl | rfl | rfl | rfl | rfl | rfl
    · exact ((p8 52 (by decide)).trans ((p7 52 (by decide)).trans ((p6 52 (by decide)).trans ((p5 52 (by decide)).trans ((p4 52 (by decide)).trans ((p3 52 (by decide)).trans g2))))))
    · exact ((p8 53 (by decide)).trans ((p7 53 (by decide)).trans ((p6 53 (by decide)).trans ((p5 53 (by decide)).trans ((p4 53 (by decide)).trans g3)))))
    · exact ((p8 54 (by decide)).trans ((p7 54 (by decide)).trans ((p6 54 (by decide)).trans ((p5 54 (by decide)).trans g4))))
    · exact ((p8 55 (by decide)).trans ((p7 55 (by decide)).trans ((p6 55 (by decide)).trans g5)))
    · exact ((p8 56 (by decide)).trans ((p7 56 (by decide)).trans g6))
    · exact ((p8 57 (by decide)).trans g7)
    · exact g8
  exact l_45 hd hS1 hΨ hL (ClNew.cz (G := fun j => h8[j]?) hC (fun _ _ => rfl))
end LW
