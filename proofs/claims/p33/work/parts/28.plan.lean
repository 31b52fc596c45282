/-! CONSTRUCTORS that make other objects -/
/-- what stood elsewhere than at a still stands -/
def Ext (a : Nat) (h h' : List va_E) : Prop := ∀ i e, i ≠ a → h[i]? = some e → h'[i]? = some e
theorem Ext.rf {a : Nat} {h : List va_E} : Ext a h h := fun _ _ _ e => e
theorem Ext.trans {a : Nat} {h h1 h2 : List va_E} (x : Ext a h h1) (y : Ext a h1 h2) : Ext a h h2 := fun i e hi he => y i e hi (x i e hi he)
theorem Ext.app {a : Nat} {h cs : List va_E} : Ext a h (h ++ cs) := fun i e _ he => by
  rw [List.getElem?_append_left (List.getElem?_eq_some_iff.mp he).1]
  exact he
theorem Ext.mid {l as cs : List va_E} {x y : va_E} : Ext l.length (l ++ x :: as) (l ++ y :: (as ++ cs)) := by
  have h1 : Ext l.length (l ++ x :: as) (l ++ y :: as) := by
    intro i e hi he
    rw [← set_mid (x := x), List.getElem?_set_ne (by omega)]
    exact he
  refine h1.trans ?_
  rw [← List.cons_append, ← List.append_assoc]
  exact Ext.app
theorem StAt.ext {a b : Nat} {h h' : List va_E} {σ : Rows} (x : Ext a h h') (hab : a < b ∨ b + 6 ≤ a) (hS : StAt h b σ) : StAt h' b σ := ⟨x _ _ (by omega) hS.1, x _ _ (by omega) hS.2.1, x _ _ (by omega) hS.2.2.1, x _ _ (by omega) hS.2.2.2.1, x _ _ (by omega) hS.2.2.2.2.1, x _ _ (by omega) hS.2.2.2.2.2⟩
theorem BsAt.ext {a b r : Nat} {h h' : List va_E} {cf lf : Nat → Int32} (x : Ext a h h') (hab : a < b ∨ b + 3 ≤ a) (hS : BsAt h b r cf lf) : BsAt h' b r cf lf := ⟨x _ _ (by omega) hS.1, x _ _ (by omega) hS.2.1, x _ _ (by omega) hS.2.2⟩
theorem PlIs.ext {a b : Nat} {h h' : List va_E} {s o : Int32} (x : Ext a h h') (hab : a < b ∨ b + 4 ≤ a) (hS : PlIs h b s o) : PlIs h' b s o := by
  obtain ⟨h1, r, cf, lf, h2⟩ := hS
  exact ⟨x _ _ (by omega) h1, r, cf, lf, h2.ext x (by omega)⟩
theorem OrAt.ext {a b : Nat} {h h' : List va_E} {o X : Nat → Int32} (x : Ext a h h') (hab : a < b ∨ b + 2 ≤ a) (hS : OrAt h b o X) : OrAt h' b o X := ⟨x _ _ (by omega) hS.1, x _ _ (by omega) hS.2⟩
theorem SeIs.ext {a b w fd ls : Nat} {h h' : List va_E} {rf : Nat → Int32} (x : Ext a h h') (hab : a < b ∨ b + 2 ≤ a) (hS : SeIs h b w fd ls rf) : SeIs h' b w fd ls rf := ⟨x _ _ (by omega) hS.1, x _ _ (by omega) hS.2⟩
abbrev bn0 : va_E := .inr (0, [.null, .null, .int 0])
theorem bn0_ok : ∀ j, j < 3 → defaultValue (clTy 0 j) = vp_V [.null, .null, .int 0] j := by
  intro j hj
  rcases (show j = 0 ∨ j = 1 ∨ j = 2 by omega) with rfl | rfl | rfl <;> rfl
abbrev bn1 : va_E := .inr (1, [.null, .int 0, .int 0, .int 0, .int 0, .int 0, .int 0, .int 0, .int 0])
theorem bn1_ok : ∀ j, j < 9 → defaultValue (clTy 1 j) = vp_V [.null, .int 0, .int 0, .int 0, .int 0, .int 0, .int 0, .int 0, .int 0] j := by
  intro j hj
  rcases (show j = 0 ∨ j = 1 ∨ j = 2 ∨ j = 3 ∨ j = 4 ∨ j = 5 ∨ j = 6 ∨ j = 7 ∨ j = 8 by omega) with rfl | rfl | rfl | rfl | rfl | rfl | rfl | rfl | rfl <;> rfl
abbrev bn2 : va_E := .inr (2, [.null, .int 0, .int 0])
theorem bn2_ok : ∀ j, j < 3 → defaultValue (clTy 2 j) = vp_V [.null, .int 0, .int 0] j := by
  intro j hj
  rcases (show j = 0 ∨ j = 1 ∨ j = 2 by omega) with rfl | rfl | rfl <;> rfl
abbrev bn3 : va_E := .inr (3, [.null, .int 0, .int 0, .int 0])
theorem bn3_ok : ∀ j, j < 4 → defaultValue (clTy 3 j) = vp_V [.null, .int 0, .int 0, .int 0] j := by
  intro j hj
  rcases (show j = 0 ∨ j = 1 ∨ j = 2 ∨ j = 3 by omega) with rfl | rfl | rfl | rfl <;> rfl
abbrev bn4 : va_E := .inr (4, [.int 0, .int 0, .int 0, .int 0, .int 0, .int 0, .int 0, .int 0, .int 0, .null, .null, .null, .null, .null])
theorem bn4_ok : ∀ j, j < 14 → defaultValue (clTy 4 j) = vp_V [.int 0, .int 0, .int 0, .int 0, .int 0, .int 0, .int 0, .int 0, .int 0, .null, .null, .null, .null, .null] j := by
  intro j hj
  rcases (show j = 0 ∨ j = 1 ∨ j = 2 ∨ j = 3 ∨ j = 4 ∨ j = 5 ∨ j = 6 ∨ j = 7 ∨ j = 8 ∨ j = 9 ∨ j = 10 ∨ j = 11 ∨ j = 12 ∨ j = 13 by omega) with rfl | rfl | rfl | rfl | rfl | rfl | rfl | rfl | rfl | rfl | rfl | rfl | rfl | rfl <;> rfl
section CT
variable {E : AEnv} {Y : MI} {d k n pc pc' idx : Nat} {ls : List (Option Value)} {st : List Value} {l as : List va_E} {x : va_E} {Ψ : Pst}
/-- new in the middle -/
theorem go_newM {ci N m : Nat} {C0 : String} {T : u_T} {fs : List Value} (hd : Dc Y pc (.new idx) pc') (hcl : vwCl[ci]? = some (C0, T, N)) (hlk : Cond.classLink Y.1.cls idx C0 ∈ BW) (hin : Cond.instantiable C0 N ∈ BW) (hini : Cond.initialized C0 ∈ BW) (hfs : ∀ j, j < N → defaultValue (clTy ci j) = vp_V fs j) (hno : fs.map (cV E) = fs) (hm : as.length = m) (hlen : l.length + (m + 1) < BIGN)
    (K : Go E Y d k n pc' ls (.ref (l ++ x :: as).length :: st) ((l ++ x :: as) ++ [.inr (ci, fs)]) Ψ) : Go E Y d (1 + k) (N + n) pc ls st (l ++ x :: as) Ψ :=
  go_new hd hcl hlk hin hini hfs hno (by rw [len_mid hm]; exact hlen) K
theorem c_newPlan (hl : l.length + 4 < BIGN) (hl2 : l.length + 1 + 3 < BIGN) (hd : 2 ≤ d) : Calls E mX2_init d 3 15 [.ref l.length] (l ++ [bn2]) (RV (fun h' => ∃ cs, h' = l ++ cs ∧ cs.length = 4 ∧ PlIs h' l.length 0 0)) := by
  refine Calls.of (ls := [some (.ref l.length)]) (by decide +kernel) rfl (Nat.le_of_ble_eq_true rfl) (cat_ok rfl) ?_
  refine go_aload_0 (DX2_init.at 0 rfl) ?_
  refine go_objInit (DX2_init.at 1 rfl) (BW_i 190 (by decide +kernel) rfl) (BW_i 57 (by decide +kernel) rfl) (BW_i 58 (by decide +kernel) rfl) (by omega) (Nat.le_of_ble_eq_true rfl) ?_
  refine go_aload_0 (DX2_init.at 2 rfl) ?_
  refine go_newM (ci := 0) (N := 3) (k := 2) (n := 12) (m := 0) (DX2_init.at 3 rfl) rfl (BW_i 191 (by decide +kernel) rfl) (BW_i 192 (by decide +kernel) rfl) (BW_i 46 (by decide +kernel) rfl) bn0_ok rfl rfl (by omega) ?_
  refine go_dup (DX2_init.at 4 rfl) rfl ?_
  refine go_callI (k1 := 2) (n1 := 12) (k := 0) (n := 0) (As := []) (DX2_init.at 5 rfl) nX2_11 vX0_init (by omega) (c_newBasis (by rw [len_mid rfl]; exact hl2) (by omega)) rfl (Nat.le_of_ble_eq_true rfl) (fun h9 q9 => ?_)
  obtain ⟨cs, rfl, hcs, hB⟩ := q9
  rw [len_mid (m := 0) rfl, List.append_assoc, List.cons_append, List.nil_append] at *
  refine go_finM (DX2_init.at 6 rfl) gX2_12 rfl (by decide) rfl rfl rfl (Nat.le_of_ble_eq_true rfl) (fun w hw => by subst hw; exact ⟨rfl, rfl⟩) ?_
  refine go_aload_0 (DX2_init.at 7 rfl) ?_
  refine go_iconst (v := nI 0) (DX2_init.at 8 rfl) (by decide) ?_
  refine go_putM (DX2_init.at 9 rfl) fX2_18 rfl rfl (Nat.le_of_ble_eq_true rfl) (fun w hw => by subst hw; exact ⟨rfl, rfl⟩) ?_
  refine go_aload_0 (DX2_init.at 10 rfl) ?_
  refine go_iconst (v := nI 0) (DX2_init.at 11 rfl) (by decide) ?_
  refine go_putM (DX2_init.at 12 rfl) fX2_22 rfl rfl (Nat.le_of_ble_eq_true rfl) (fun w hw => by subst hw; exact ⟨rfl, rfl⟩) ?_
  exact go_return (DX2_init.at 13 rfl) rfl (RV.mk ⟨_, rfl, by rw [List.length_cons, hcs], get_mid, 0, _, _, hB.ext (by have := Ext.mid (l := l) (as := cs) (cs := []) (x := bn2) (y := .inr (2, [.ref (l.length + 1), .int 0, .int 0])); rw [List.append_nil] at this; exact this) (by omega)⟩)

end CT
