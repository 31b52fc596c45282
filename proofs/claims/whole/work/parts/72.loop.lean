/-! THE LAW: its loop, and both objects made -/
theorem five_le {n i : Nat} (hn : n ≤ 2560) (hi : i ≤ 2560) (c : ¬ nI n - nI 5 < nI i) : i + 5 ≤ n := by
  have e1 : (nI n - nI 5).toInt = (n : Int) - (5 : Nat) := pk_sub_toInt (by omega) (by omega)
  have e2 : (nI i).toInt = (i : Int) := nI_toInt (by omega)
  have e3 : ¬ ((n : Int) - (5 : Nat) < (i : Int)) := fun q => c (Int32.lt_iff_toInt_lt.mpr (calc
    (nI n - nI 5).toInt = (n : Int) - (5 : Nat) := e1
    _ < (i : Int) := q
    _ = (nI i).toInt := e2.symm))
  clear e1 e2 c
  omega
section LA
variable {E : AEnv} {d : Nat} {Ψ : Pst}
theorem c_lawLoop (hd : 11 ≤ d) (hL : (ESc E).1 ≤ 2560) (hΨ : ∀ h, Ψ (some (.int 1)) h) : ∀ (m i : Nat) (Z : Zt) (h : List va_E), LI Z h → (ESc E).1 ≤ i + m → i ≤ 2560 → Go E mL_law d 0 0 18 [some (.ref (BIGN + 2)), some (.ref 0), some (.ref 52), some (.int (nI i))] [] h Ψ := by
  intro m
  induction m with
  | zero =>
    intro i Z h hI hm hb
    have hS : ArrR E h (BIGN + 2) (ESc E).1 (ESc E).2 := Or.inr (Or.inr (Or.inr ⟨rfl, rfl, rfl⟩))
    refine go_iload_3 (DW0.at 10 rfl) ?_
    refine go_aload_0 (DW0.at 11 rfl) ?_
    refine go_alen (DW0.at 12 rfl) hS (v := nI (ESc E).1) rfl ?_
    refine go_iconst (v := nI 5) (DW0.at 13 rfl) (by decide) ?_
    refine go_isub (DW0.at 14 rfl) ?_
    refine go_icmp_gt 926 (DW0.at 15 rfl) (by decide) (fun c23 => ?_) (fun c23 => absurd (five_le hL hb c23) (by omega))
    refine go_iconst (v := nI 1) (DW31.at 2 rfl) (by decide) ?_
    exact go_iret (DW31.at 3 rfl) rfl rfl (hΨ h)
  | succ m ih =>
    intro i Z h hI hm hb
    have hS : ArrR E h (BIGN + 2) (ESc E).1 (ESc E).2 := Or.inr (Or.inr (Or.inr ⟨rfl, rfl, rfl⟩))
    refine go_iload_3 (DW0.at 10 rfl) ?_
    refine go_aload_0 (DW0.at 11 rfl) ?_
    refine go_alen (DW0.at 12 rfl) hS (v := nI (ESc E).1) rfl ?_
    refine go_iconst (v := nI 5) (DW0.at 13 rfl) (by decide) ?_
    refine go_isub (DW0.at 14 rfl) ?_
    refine go_icmp_gt 926 (DW0.at 15 rfl) (by decide) (fun c23 => ?_) (fun c23 => ?_)
    · refine go_iconst (v := nI 1) (DW31.at 2 rfl) (by decide) ?_
      exact go_iret (DW31.at 3 rfl) rfl rfl (hΨ h)
    · have hi := five_le hL hb c23
      refine go_aload_0 (DW0.at 16 rfl) ?_
      refine go_iload_3 (DW0.at 17 rfl) ?_
      refine go_iaload (DW0.at 18 rfl) hS (vp_in_nI (show i < (ESc E).1 by omega) (by omega)) ?_
      refine go_bipush (v := nI 31) (DW0.at 19 rfl) (by decide) ?_
      refine go_iand (DW0.at 20 rfl) ?_
      have fin : ∀ h1 Z1, LI Z1 h1 → Go E mL_law d 0 0 920 [some (.ref (BIGN + 2)), some (.ref 0), some (.ref 52), some (.int (nI i))] [] h1 Ψ := by
        intro h1 Z1 hJ
        refine go_iinc_3 (DW31.at 0 rfl) (show nI i + Int32.ofInt 5 = nI (i + 5) by rw [show Int32.ofInt 5 = nI 5 by decide, nI_add]) ?_
        refine go_goto 18 (DW31.at 1 rfl) (by decide) ?_
        exact ih (i + 5) Z1 h1 hJ (by omega) (by omega)
      obtain ⟨k, hk, ek⟩ := and31 ((ESc E).2 (nI i).toNatClampNeg)
      rw [ek]
      rcases (show k < 8 ∨ (8 ≤ k ∧ k < 16) ∨ (16 ≤ k ∧ k < 24) ∨ 24 ≤ k by omega) with g | g | g | g
      · rcases (show k = 0 ∨ k = 1 ∨ k = 2 ∨ k = 3 ∨ k = 4 ∨ k = 5 ∨ k = 6 ∨ k = 7 by omega) with rfl | rfl | rfl | rfl | rfl | rfl | rfl | rfl
        · exact go_tableIn 168 (DW0.at 21 rfl) (by decide) (by decide) rfl (by decide) (w_setLayout hI hi hL hd fin)
        · exact go_tableIn 221 (DW0.at 21 rfl) (by decide) (by decide) rfl (by decide) (w_write hI hi hL hd fin)
        · exact go_tableIn 264 (DW0.at 21 rfl) (by decide) (by decide) rfl (by decide) (w_alter hI hi hL hd fin)
        · exact go_tableIn 307 (DW0.at 21 rfl) (by decide) (by decide) rfl (by decide) (w_lose hI hi hL hd fin)
        · exact go_tableIn 340 (DW0.at 21 rfl) (by decide) (by decide) rfl (by decide) (w_loseNode hI hi hL hd fin)
        · exact go_tableIn 363 (DW0.at 21 rfl) (by decide) (by decide) rfl (by decide) (w_mend hI hi hL hd fin)
        · exact go_tableIn 396 (DW0.at 21 rfl) (by decide) (by decide) rfl (by decide) (w_mendNode hI hi hL hd fin)
        · exact go_tableIn 419 (DW0.at 21 rfl) (by decide) (by decide) rfl (by decide) (w_work hI hi hL hd fin)
      · rcases (show k = 8 ∨ k = 9 ∨ k = 10 ∨ k = 11 ∨ k = 12 ∨ k = 13 ∨ k = 14 ∨ k = 15 by omega) with rfl | rfl | rfl | rfl | rfl | rfl | rfl | rfl
        · exact go_tableIn 442 (DW0.at 21 rfl) (by decide) (by decide) rfl (by decide) (w_scrub hI hi hL hd fin)
        · exact go_tableIn 455 (DW0.at 21 rfl) (by decide) (by decide) rfl (by decide) (w_type hI hi hL hd fin)
        · exact go_tableIn 480 (DW0.at 21 rfl) (by decide) (by decide) rfl (by decide) (w_clearText hI hi hL hd fin)
        · exact go_tableIn 493 (DW0.at 21 rfl) (by decide) (by decide) rfl (by decide) (w_perform hI hi hL hd fin)
        · exact go_tableIn 506 (DW0.at 21 rfl) (by decide) (by decide) rfl (by decide) (w_undo hI hi hL hd fin)
        · exact go_tableIn 519 (DW0.at 21 rfl) (by decide) (by decide) rfl (by decide) (w_keep hI hi hL hd fin)
        · exact go_tableIn 532 (DW0.at 21 rfl) (by decide) (by decide) rfl (by decide) (w_restore hI hi hL hd fin)
        · exact go_tableIn 545 (DW0.at 21 rfl) (by decide) (by decide) rfl (by decide) (w_value hI hi hL hd fin)
      · rcases (show k = 16 ∨ k = 17 ∨ k = 18 ∨ k = 19 ∨ k = 20 ∨ k = 21 ∨ k = 22 ∨ k = 23 by omega) with rfl | rfl | rfl | rfl | rfl | rfl | rfl | rfl
        · exact go_tableIn 578 (DW0.at 21 rfl) (by decide) (by decide) rfl (by decide) (w_node hI hi hL hd fin)
        · exact go_tableIn 611 (DW0.at 21 rfl) (by decide) (by decide) rfl (by decide) (w_load hI hi hL hd fin)
        · exact go_tableIn 634 (DW0.at 21 rfl) (by decide) (by decide) rfl (by decide) (w_lost hI hi hL hd fin)
        · exact go_tableIn 657 (DW0.at 21 rfl) (by decide) (by decide) rfl (by decide) (w_waiting hI hi hL hd fin)
        · exact go_tableIn 680 (DW0.at 21 rfl) (by decide) (by decide) rfl (by decide) (w_failing hI hi hL hd fin)
        · exact go_tableIn 703 (DW0.at 21 rfl) (by decide) (by decide) rfl (by decide) (w_total hI hi hL hd fin)
        · exact go_tableIn 726 (DW0.at 21 rfl) (by decide) (by decide) rfl (by decide) (w_way hI hi hL hd fin)
        · exact go_tableIn 759 (DW0.at 21 rfl) (by decide) (by decide) rfl (by decide) (w_reads hI hi hL hd fin)
      · rcases (show k = 24 ∨ k = 25 ∨ k = 26 ∨ k = 27 ∨ k = 28 ∨ k = 29 ∨ k = 30 ∨ k = 31 by omega) with rfl | rfl | rfl | rfl | rfl | rfl | rfl | rfl
        · exact go_tableIn 792 (DW0.at 21 rfl) (by decide) (by decide) rfl (by decide) (w_mended hI hi hL hd fin)
        · exact go_tableIn 825 (DW0.at 21 rfl) (by decide) (by decide) rfl (by decide) (w_culprit hI hi hL hd fin)
        · exact go_tableIn 848 (DW0.at 21 rfl) (by decide) (by decide) rfl (by decide) (w_survives hI hi hL hd fin)
        · exact go_tableIn 871 (DW0.at 21 rfl) (by decide) (by decide) rfl (by decide) (w_fatalSets hI hi hL hd fin)
        · exact go_tableIn 894 (DW0.at 21 rfl) (by decide) (by decide) rfl (by decide) (w_fatalNodes hI hi hL hd fin)
        · exact go_tableIn 907 (DW0.at 21 rfl) (by decide) (by decide) rfl (by decide) (w_busiest hI hi hL hd fin)
        · exact go_tableOut 920 (DW0.at 21 rfl) (by decide) (by decide) (fin h Z hI)
        · exact go_tableOut 920 (DW0.at 21 rfl) (by decide) (by decide) (fin h Z hI)
theorem cn5_ok : ∀ j, j < 9 → defaultValue (clTy 5 j) = vp_V [.null, .null, .null, .null, .null, .null, .null, .int 0, .int 0] j := by
  intro j hj
  rcases (show j = 0 ∨ j = 1 ∨ j = 2 ∨ j = 3 ∨ j = 4 ∨ j = 5 ∨ j = 6 ∨ j = 7 ∨ j = 8 by omega) with rfl | rfl | rfl | rfl | rfl | rfl | rfl | rfl | rfl <;> rfl
theorem HsT.app {h cs : List va_E} {b j : Nat} (q : HsT h b j) : HsT (h ++ cs) b j := by
  obtain ⟨F, h1, h2⟩ := q
  refine ⟨F, Ext.app (a := b + 1000) _ _ (by omega) h1, fun i hi => ?_⟩
  obtain ⟨e, σ, s, w⟩ := h2 i hi
  exact ⟨e, σ, s.ext (Ext.app (a := b)) (by omega), w⟩
theorem ClNew.app {h cs : List va_E} {b : Nat} (q : ClNew h b) : ClNew (h ++ cs) b := by
  obtain ⟨h1, h2, h3⟩ := q
  exact ⟨Ext.app (a := b + 1000) _ _ (by omega) h1, h2.ext (a := b) Ext.app (Or.inl rfl), h3.app⟩
theorem c_law (hd : 20 ≤ d) (hL : (ESc E).1 ≤ 2560) (hΨ : ∀ h, Ψ (some (.int 1)) h) : Go E mL_law d 63 5669 0 [some (.ref (BIGN + 2)), none, none, none] [] [] Ψ := by
  refine go_new (ci := 5) (N := 9) (k := 62) (n := 5660) (fs := [.null, .null, .null, .null, .null, .null, .null, .int 0, .int 0]) (DW0.at 0 rfl) rfl (BW_i 119 (by decide +kernel) rfl) (BW_i 120 (by decide +kernel) rfl) (BW_i 108 (by decide +kernel) rfl) cn5_ok rfl (by decide) ?_
  refine go_dup (DW0.at 1 rfl) rfl ?_
  refine go_callI (k1 := 51) (n1 := 2849) (k := 11) (n := 2811) (As := []) (DW0.at 2 rfl) nL_9 vX5_init (by omega) (c_newClass (l := []) (by decide) (by omega)) rfl (Nat.le_of_ble_eq_true rfl) (fun h1 q1 => ?_)
  obtain ⟨cs, e1, hn, q1⟩ := q1
  have e1 : h1 = cs := e1
  subst e1
  refine go_astore_1 (DW0.at 3 rfl) ?_
  refine go_new (ci := 6) (N := 15) (k := 10) (n := 2796) (fs := [.null, .null, .null, .int 0, .null, .int 0, .null, .int 0, .int 0, .null, .null, .null, .null, .null, .int 0]) (DW0.at 4 rfl) rfl (BW_i 762 (by decide +kernel) rfl) (BW_i 763 (by decide +kernel) rfl) (BW_i 115 (by decide +kernel) rfl) bn6_ok rfl (show h1.length < BIGN by rw [hn]; decide) ?_
  refine go_dup (DW0.at 5 rfl) rfl ?_
  refine go_callI (k1 := 10) (n1 := 2796) (k := 0) (n := 0) (As := []) (DW0.at 6 rfl) nL_12 vX6_init (by omega) (c_newModel (l := h1) (by rw [hn]; decide) (by omega)) rfl (Nat.le_of_ble_eq_true rfl) (fun h2 q2 => ?_)
  show Go E mL_law d 0 0 15 _ [.ref h1.length] h2 Ψ
  rw [hn] at q2 ⊢
  refine go_astore_2 (DW0.at 7 rfl) ?_
  refine go_iconst (v := nI 0) (DW0.at 8 rfl) (by decide) ?_
  refine go_istore_3 (DW0.at 9 rfl) ?_
  have hlen : (h1 ++ List.replicate 11 (ar 0 fun _ => 0)).length = 63 := by rw [List.length_append, hn, List.length_replicate]
  have hO : Only 52 63 (h1 ++ List.replicate 11 (ar 0 fun _ => 0)) h2 := by
    refine only_of (fun j hj => (q2.frm j hj).trans ?_) (by omega) q2.len
    show h1[j]? = _
    rcases hj with hj | hj
    · rw [List.getElem?_append_left (by omega)]
    · rw [List.getElem?_eq_none (by omega), List.getElem?_eq_none (by omega)]
  exact c_lawLoop (by omega) hL hΨ (ESc E).1 0 z0 h2 ⟨CZ.keep (ClNew.cz (G := fun j => (h1 ++ List.replicate 11 (ar 0 fun _ => 0))[j]?) q1.app (fun _ _ => rfl)) hO (by omega), q2.re (fun _ _ => rfl)⟩ (by omega) (by omega)
end LA
