/-! THE TEXT, read by the class -/
abbrev orO (b : Nat) (o : Nat → Int32) : va_E := .inr (1, [.ref (b + 1), .int (o 1), .int (o 2), .int (o 3), .int (o 4), .int (o 5), .int (o 6), .int (o 7), .int (o 8)])
/-- Orders at b: o 1 .. o 8: length, place, count, kind, stripe, cell, node, value; X the signs -/
def OrAt (h : List va_E) (b : Nat) (o : Nat → Int32) (X : Nat → Int32) : Prop := h[b]? = some (orO b o) ∧ h[b + 1]? = some (.inl (1, 60, .inl X))
def OrU (h : List va_E) (b : Nat) (o : Nat → Int32) (X : Nat → Int32) (h' : List va_E) : Prop := OrAt h' b o X ∧ Only b (b + 2) h h'
theorem OrAt.obj {h : List va_E} {b : Nat} {o : Nat → Int32} {X : Nat → Int32} (hO : OrAt h b o X) (o' : Nat → Int32) : OrU h b o' X (h.set b (orO b o')) := ⟨⟨get_set hO.1, by rw [List.getElem?_set_ne (by omega)]; exact hO.2⟩, Only.set (by omega) (by omega)⟩
theorem OrAt.keep {h h1 : List va_E} {b lo hi : Nat} {o : Nat → Int32} {X : Nat → Int32} (hB : OrAt h b o X) (hO : Only lo hi h h1) (hd : b + 2 ≤ lo ∨ hi ≤ b) : OrAt h1 b o X := ⟨hO.at (by omega) hB.1, hO.at (by omega) hB.2⟩
theorem OrU.then {h h1 h2 : List va_E} {b : Nat} {o1 o2 : Nat → Int32} {X1 X2 : Nat → Int32} (u1 : OrU h b o1 X1 h1) (u2 : OrU h1 b o2 X2 h2) : OrU h b o2 X2 h2 := ⟨u2.1, u1.2.trans u2.2⟩
/-- the text: N signs Y -/
def TxtIs (X : Nat → Int32) (Y : Nat → Nat) (N : Nat) : Prop := N ≤ 60 ∧ ∀ j, j < N → X j = nI (Y j) ∧ Y j < 65536
abbrev dgt (Y : Nat → Nat) (N p : Nat) : Prop := p < N ∧ 48 ≤ Y p ∧ Y p ≤ 57
section OR
variable {E : AEnv} {Y : MI} {d k n pc pc' idx : Nat} {ls : List (Option Value)} {st : List Value} {h : List va_E} {b : Nat} {o X : Nat → Int32} {Ψ : Pst}
theorem go_putOr {kf : Nat} {x : Int32} (hd : Dc Y pc (.putfield idx) pc') (hF : FLk Y.1.cls idx 1 kf) (hk : 1 ≤ kf ∧ kf < 9) (hO : OrAt h b o X) (K : ∀ h1, OrU h b (upd o kf x) X h1 → Go E Y d k n pc' ls st h1 Ψ) : Go E Y d k n pc ls (.int x :: .ref b :: st) h Ψ := by
  have K' := K _ (hO.obj (upd o kf x))
  rcases (show kf = 1 ∨ kf = 2 ∨ kf = 3 ∨ kf = 4 ∨ kf = 5 ∨ kf = 6 ∨ kf = 7 ∨ kf = 8 by omega) with rfl | rfl | rfl | rfl | rfl | rfl | rfl | rfl <;>
    exact go_putfield hd hF rfl rfl hO.1 (Nat.le_of_ble_eq_true rfl) (fun w hw => by subst hw; exact ⟨rfl, rfl⟩) K'
theorem c_goToStart_ (hO : OrAt h b o X) : Calls E mX1_goToStart d 0 0 [.ref b] h (RV (OrU h b (upd o 2 (nI 0)) X)) := by
  refine Calls.of (ls := [some (.ref b)]) (by decide +kernel) rfl (Nat.le_of_ble_eq_true rfl) (cat_ok rfl) ?_
  refine go_aload_0 (DX1_goToStart.at 0 rfl) ?_
  refine go_iconst (v := nI 0) (DX1_goToStart.at 1 rfl) (by decide) ?_
  refine go_putOr (DX1_goToStart.at 2 rfl) fX1_19 (by decide) hO (fun h2 q2 => ?_)
  exact go_return (DX1_goToStart.at 3 rfl) rfl (RV.mk q2)
theorem c_sign {Yt : Nat → Nat} {N p : Nat} (hO : OrAt h b o X) (hT : TxtIs X Yt N) (hN : o 1 = nI N) (hp : o 2 = nI p) (hp2 : p < 2 ^ 30) : Calls E mX1_sign d 0 0 [.ref b] h (RX (if p < N then nI (Yt p) else (-1)) h) := by
  refine Calls.of (ls := [some (.ref b)]) (by decide +kernel) rfl (Nat.le_of_ble_eq_true rfl) (cat_ok rfl) ?_
  have hN60 := hT.1
  refine go_aload_0 (DX1_sign.at 0 rfl) ?_
  refine go_getfield (DX1_sign.at 1 rfl) fX1_19 hO.1 rfl ?_
  rw [hp]
  refine go_if_lt 42 (DX1_sign.at 2 rfl) (by decide) (fun c4 => absurd c4 (nI_pos (by omega))) (fun c4 => ?_)
  refine go_aload_0 (DX1_sign.at 3 rfl) ?_
  refine go_getfield (DX1_sign.at 4 rfl) fX1_19 hO.1 rfl ?_
  rw [hp]
  refine go_aload_0 (DX1_sign.at 5 rfl) ?_
  refine go_getfield (DX1_sign.at 6 rfl) fX1_15 hO.1 rfl ?_
  rw [hN]
  refine go_icmp_ge 42 (DX1_sign.at 7 rfl) (by decide) (fun c15 => ?_) (fun c15 => ?_)
  · rw [nI_leI (by omega) (by omega)] at c15
    refine go_iconst (v := (-1)) (DX1_sign.at 20 rfl) (by decide) ?_
    exact go_iret (DX1_sign.at 21 rfl) rfl rfl (RX.mk (by first | (rw [if_neg (by omega)]; done) | (rw [if_pos (show p < N by omega), nI_cl (by omega)]; exact (hT.2 p (by omega)).1)) rfl)
  · rw [nI_leI (by omega) (by omega)] at c15
    refine go_aload_0 (DX1_sign.at 8 rfl) ?_
    refine go_getfield (DX1_sign.at 9 rfl) fX1_19 hO.1 rfl ?_
    rw [hp]
    refine go_aload_0 (DX1_sign.at 10 rfl) ?_
    refine go_getfield (DX1_sign.at 11 rfl) fX1_9 hO.1 rfl ?_
    refine go_alenC (DX1_sign.at 12 rfl) hO.2 rfl ?_
    refine go_icmp_ge 42 (DX1_sign.at 13 rfl) (by decide) (fun c27 => absurd c27 (nI_ge (a := p) (b := 60) (by omega) (by decide))) (fun c27 => ?_)
    refine go_aload_0 (DX1_sign.at 14 rfl) ?_
    refine go_getfield (DX1_sign.at 15 rfl) fX1_9 hO.1 rfl ?_
    refine go_aload_0 (DX1_sign.at 16 rfl) ?_
    refine go_getfield (DX1_sign.at 17 rfl) fX1_19 hO.1 rfl ?_
    rw [hp]
    refine go_caload (DX1_sign.at 18 rfl) hO.2 (vp_in_nI (show p < 60 by omega) (by decide)) ?_
    refine go_goto 43 (DX1_sign.at 19 rfl) (by decide) ?_
    exact go_iret (DX1_sign.at 21 rfl) rfl rfl (RX.mk (by first | (rw [if_neg (by omega)]; done) | (rw [if_pos (show p < N by omega), nI_cl (by omega)]; exact (hT.2 p (by omega)).1)) rfl)

theorem c_pass {Yt : Nat → Nat} {N p : Nat} (hO : OrAt h b o X) (hT : TxtIs X Yt N) (hN : o 1 = nI N) (hp : o 2 = nI p) (hp2 : p < 2 ^ 30) {wn : Nat} (hw : wn < 65536) (hd : 1 ≤ d) : Calls E mX1_pass d 0 0 [.ref b, .int (nI wn)] h (RI (fun x h' => (p < N ∧ Yt p = wn ∧ x = nI 1 ∧ OrU h b (upd o 2 (nI (p + 1))) X h') ∨ (¬ (p < N ∧ Yt p = wn) ∧ x = nI 0 ∧ h' = h))) := by
  refine Calls.of (ls := [some (.ref b), some (.int (nI wn))]) (by decide +kernel) rfl (Nat.le_of_ble_eq_true rfl) (cat_ok rfl) ?_
  have hN60 := hT.1
  have key : (if p < N then nI (Yt p) else (-1)) = nI wn ↔ p < N ∧ Yt p = wn := by
    by_cases q : p < N
    · rw [if_pos q, nI_eq (by have := (hT.2 p q).2; omega) (by omega)]
      exact ⟨fun e => ⟨q, e⟩, fun e => e.2⟩
    · rw [if_neg q]
      constructor
      · intro e
        rw [m1_nI] at e
        have := congrArg (fun z : Int32 => z.toInt) e
        rw [nI_toInt (show wn < 2 ^ 31 by omega)] at this
        exact absurd this (by
          rw [show (nI 4294967295).toInt = -1 from by decide]
          omega)
      · intro e; exact absurd e.1 q
  refine go_aload_0 (DX1_pass.at 0 rfl) ?_
  refine go_cVx0 (DX1_pass.at 1 rfl) nX1_51 vX1_sign (by omega) (c_sign hO hT hN hp hp2) hO.1 rfl (Nat.le_of_ble_eq_true rfl) ?_
  refine go_iload_1 (DX1_pass.at 2 rfl) ?_
  refine go_icmp_eq 10 (DX1_pass.at 3 rfl) (by decide) (fun c5 => ?_) (fun c5 => ?_)
  · rw [key] at c5
    refine go_aload_0 (DX1_pass.at 6 rfl) ?_
    refine go_dup (DX1_pass.at 7 rfl) rfl ?_
    refine go_getfield (DX1_pass.at 8 rfl) fX1_19 hO.1 rfl ?_
    rw [hp]
    refine go_iconst (v := nI 1) (DX1_pass.at 9 rfl) (by decide) ?_
    refine go_iadd (DX1_pass.at 10 rfl) ?_
    rw [nI_add]
    refine go_putOr (DX1_pass.at 11 rfl) fX1_19 (by decide) hO (fun h17 q17 => ?_)
    refine go_iconst (v := nI 1) (DX1_pass.at 12 rfl) (by decide) ?_
    exact go_iret (DX1_pass.at 13 rfl) rfl rfl (RI.mk (Or.inl ⟨c5.1, c5.2, rfl, q17⟩))
  · rw [key] at c5
    refine go_iconst (v := nI 0) (DX1_pass.at 4 rfl) (by decide) ?_
    exact go_iret (DX1_pass.at 5 rfl) rfl rfl (RI.mk (Or.inr ⟨c5, rfl, rfl⟩))

theorem c_readDigit {Yt : Nat → Nat} {N p : Nat} (hO : OrAt h b o X) (hT : TxtIs X Yt N) (hN : o 1 = nI N) (hp : o 2 = nI p) (hp2 : p < 2 ^ 30) (hd : 1 ≤ d) : Calls E mX1_readDigit d 0 0 [.ref b] h (RI (fun x h' => (dgt Yt N p ∧ x = nI (Yt p - 48) ∧ OrU h b (upd o 2 (nI (p + 1))) X h') ∨ (¬ dgt Yt N p ∧ x = (-1) ∧ h' = h))) := by
  have hN60 := hT.1
  by_cases q : p < N
  · have hY := (hT.2 p q).2
    have es : (if p < N then nI (Yt p) else (-1)) = nI (Yt p) := if_pos q
    have hsg := c_sign (E := E) (d := d - 1) hO hT hN hp hp2
    rw [es] at hsg
    refine Calls.of (ls := [some (.ref b), none]) (by decide +kernel) rfl (Nat.le_of_ble_eq_true rfl) (cat_ok rfl) ?_
    refine go_aload_0 (DX1_readDigit.at 0 rfl) ?_
    refine go_cVx0 (DX1_readDigit.at 1 rfl) nX1_51 vX1_sign (by omega) hsg hO.1 rfl (Nat.le_of_ble_eq_true rfl) ?_
    refine go_istore_1 (DX1_readDigit.at 2 rfl) ?_
    refine go_iload_1 (DX1_readDigit.at 3 rfl) ?_
    refine go_bipush (v := nI 48) (DX1_readDigit.at 4 rfl) (by decide) ?_
    refine go_icmp_lt 17 (DX1_readDigit.at 5 rfl) (by decide) (fun c8 => ?_) (fun c8 => ?_)
    · rw [nI_ltI (by omega) (by omega)] at c8
      refine go_iconst (v := (-1)) (DX1_readDigit.at 9 rfl) (by decide) ?_
      exact go_iret (DX1_readDigit.at 10 rfl) rfl rfl (RI.mk (Or.inr ⟨fun z => by omega, rfl, rfl⟩))
    · rw [nI_ltI (by omega) (by omega)] at c8
      refine go_iload_1 (DX1_readDigit.at 6 rfl) ?_
      refine go_bipush (v := nI 57) (DX1_readDigit.at 7 rfl) (by decide) ?_
      refine go_icmp_le 19 (DX1_readDigit.at 8 rfl) (by decide) (fun c14 => ?_) (fun c14 => ?_)
      · rw [nI_leI (by omega) (by omega)] at c14
        refine go_aload_0 (DX1_readDigit.at 11 rfl) ?_
        refine go_dup (DX1_readDigit.at 12 rfl) rfl ?_
        refine go_getfield (DX1_readDigit.at 13 rfl) fX1_19 hO.1 rfl ?_
        rw [hp]
        refine go_iconst (v := nI 1) (DX1_readDigit.at 14 rfl) (by decide) ?_
        refine go_iadd (DX1_readDigit.at 15 rfl) ?_
        rw [nI_add]
        refine go_putOr (DX1_readDigit.at 16 rfl) fX1_19 (by decide) hO (fun h26 q26 => ?_)
        refine go_iload_1 (DX1_readDigit.at 17 rfl) ?_
        refine go_bipush (v := nI 48) (DX1_readDigit.at 18 rfl) (by decide) ?_
        refine go_isub (DX1_readDigit.at 19 rfl) ?_
        rw [pk_sub (by omega)]
        exact go_iret (DX1_readDigit.at 20 rfl) rfl rfl (RI.mk (Or.inl ⟨⟨q, by omega, c14⟩, rfl, q26⟩))
      · rw [nI_leI (by omega) (by omega)] at c14
        refine go_iconst (v := (-1)) (DX1_readDigit.at 9 rfl) (by decide) ?_
        exact go_iret (DX1_readDigit.at 10 rfl) rfl rfl (RI.mk (Or.inr ⟨fun z => by omega, rfl, rfl⟩))
  · have es : (if p < N then nI (Yt p) else (-1)) = (-1) := if_neg q
    have hsg := c_sign (E := E) (d := d - 1) hO hT hN hp hp2
    rw [es] at hsg
    refine Calls.of (ls := [some (.ref b), none]) (by decide +kernel) rfl (Nat.le_of_ble_eq_true rfl) (cat_ok rfl) ?_
    refine go_aload_0 (DX1_readDigit.at 0 rfl) ?_
    refine go_cVx0 (DX1_readDigit.at 1 rfl) nX1_51 vX1_sign (by omega) hsg hO.1 rfl (Nat.le_of_ble_eq_true rfl) ?_
    refine go_istore_1 (DX1_readDigit.at 2 rfl) ?_
    refine go_iload_1 (DX1_readDigit.at 3 rfl) ?_
    refine go_bipush (v := nI 48) (DX1_readDigit.at 4 rfl) (by decide) ?_
    refine go_icmp_lt 17 (DX1_readDigit.at 5 rfl) (by decide) (fun c8 => ?_) (fun c8 => absurd (by decide) c8)
    refine go_iconst (v := (-1)) (DX1_readDigit.at 9 rfl) (by decide) ?_
    exact go_iret (DX1_readDigit.at 10 rfl) rfl rfl (RI.mk (Or.inr ⟨fun z => q z.1, rfl, rfl⟩))

/-- the number at p, and where it ends -/
def nmv (Y : Nat → Nat) (N p : Nat) : Nat := if Y p = 48 then 0 else if p + 1 < N ∧ 48 ≤ Y (p + 1) ∧ Y (p + 1) ≤ 57 then 10 * (Y p - 48) + (Y (p + 1) - 48) else Y p - 48
def nme (Y : Nat → Nat) (N p : Nat) : Nat := if Y p = 48 then p + 1 else if p + 1 < N ∧ 48 ≤ Y (p + 1) ∧ Y (p + 1) ≤ 57 then p + 2 else p + 1
theorem c_readNumber {Yt : Nat → Nat} {N p : Nat} (hO : OrAt h b o X) (hT : TxtIs X Yt N) (hN : o 1 = nI N) (hp : o 2 = nI p) (hp2 : p < 2 ^ 30) (hd : 2 ≤ d) : Calls E mX1_readNumber d 0 0 [.ref b] h (RI (fun x h' => (dgt Yt N p ∧ x = nI (nmv Yt N p) ∧ OrU h b (upd o 2 (nI (nme Yt N p))) X h') ∨ (¬ dgt Yt N p ∧ x = (-1) ∧ h' = h))) := by
  refine Calls.of (ls := [some (.ref b), none, none]) (by decide +kernel) rfl (Nat.le_of_ble_eq_true rfl) (cat_ok rfl) ?_
  refine go_aload_0 (DX1_readNumber.at 0 rfl) ?_
  refine go_cVi0 (DX1_readNumber.at 1 rfl) nX1_58 vX1_readDigit (by omega) (c_readDigit hO hT hN hp hp2 (by omega)) hO.1 rfl (Nat.le_of_ble_eq_true rfl) (fun x1 h1 q1 => ?_)
  rcases q1 with ⟨g1, rfl, u1⟩ | ⟨g1, rfl, rfl⟩
  · have hN60 := hT.1
    have g0 : p < N := g1.1
    have g2 : 48 ≤ Yt p := g1.2.1
    have g3 : Yt p ≤ 57 := g1.2.2
    have hne : ¬ nI (Yt p - 48) = (-1) := by
      intro e
      have := congrArg (fun z : Int32 => z.toInt) e
      rw [nI_toInt (by omega)] at this
      exact absurd this (by rw [show ((-1 : Int32)).toInt = -1 from by decide]; omega)
    refine go_istore_1 (DX1_readNumber.at 2 rfl) ?_
    refine go_iload_1 (DX1_readNumber.at 3 rfl) ?_
    refine go_iconst (v := (-1)) (DX1_readNumber.at 4 rfl) (by decide) ?_
    refine go_icmp_eq 14 (DX1_readNumber.at 5 rfl) (by decide) (fun c7 => absurd c7 hne) (fun c7 => ?_)
    refine go_iload_1 (DX1_readNumber.at 6 rfl) ?_
    refine go_if_ne 16 (DX1_readNumber.at 7 rfl) (by decide) (fun c11 => ?_) (fun c11 => ?_)
    · rw [nI_eq0 (by omega)] at c11
      have z : ¬ Yt p = 48 := by omega
      refine go_aload_0 (DX1_readNumber.at 10 rfl) ?_
      refine go_cVi0 (DX1_readNumber.at 11 rfl) nX1_58 vX1_readDigit (by omega) (c_readDigit (p := p + 1) u1.1 hT hN rfl (by omega) (by omega)) u1.1.1 rfl (Nat.le_of_ble_eq_true rfl) (fun x2 h2 q2 => ?_)
      rcases q2 with ⟨k1, rfl, u2⟩ | ⟨k1, rfl, rfl⟩
      · have k2 : p + 1 < N := k1.1
        have k3 : 48 ≤ Yt (p + 1) := k1.2.1
        have k4 : Yt (p + 1) ≤ 57 := k1.2.2
        have hn2 : ¬ nI (Yt (p + 1) - 48) = (-1) := by
          intro e
          have := congrArg (fun z : Int32 => z.toInt) e
          rw [nI_toInt (by omega)] at this
          exact absurd this (by rw [show ((-1 : Int32)).toInt = -1 from by decide]; omega)
        refine go_istore_2 (DX1_readNumber.at 12 rfl) ?_
        refine go_iload_2 (DX1_readNumber.at 13 rfl) ?_
        refine go_iconst (v := (-1)) (DX1_readNumber.at 14 rfl) (by decide) ?_
        refine go_icmp_ne 30 (DX1_readNumber.at 15 rfl) (by decide) (fun c23 => ?_) (fun c23 => absurd c23 hn2)
        refine go_bipush (v := nI 10) (DX1_readNumber.at 18 rfl) (by decide) ?_
        refine go_iload_1 (DX1_readNumber.at 19 rfl) ?_
        refine go_imul (DX1_readNumber.at 20 rfl) ?_
        rw [pk_mul]
        refine go_iload_2 (DX1_readNumber.at 21 rfl) ?_
        refine go_iadd (DX1_readNumber.at 22 rfl) ?_
        rw [nI_add]
        exact go_iret (DX1_readNumber.at 23 rfl) rfl rfl (RI.mk (Or.inl ⟨g1, by rw [nmv, if_neg z, if_pos ⟨k2, k3, k4⟩], by rw [nme, if_neg z, if_pos ⟨k2, k3, k4⟩]; have u := u1.then u2; rw [show upd (upd o 2 (nI (p + 1))) 2 (nI (p + 1 + 1)) = upd o 2 (nI (p + 2)) from by funext i; unfold upd; split <;> rfl] at u; exact u⟩))
      · refine go_istore_2 (DX1_readNumber.at 12 rfl) ?_
        refine go_iload_2 (DX1_readNumber.at 13 rfl) ?_
        refine go_iconst (v := (-1)) (DX1_readNumber.at 14 rfl) (by decide) ?_
        refine go_icmp_ne 30 (DX1_readNumber.at 15 rfl) (by decide) (fun c23 => absurd rfl c23) (fun c23 => ?_)
        refine go_iload_1 (DX1_readNumber.at 16 rfl) ?_
        refine go_goto 36 (DX1_readNumber.at 17 rfl) (by decide) ?_
        exact go_iret (DX1_readNumber.at 23 rfl) rfl rfl (RI.mk (Or.inl ⟨g1, by rw [nmv, if_neg z, if_neg (show ¬ (p + 1 < N ∧ 48 ≤ Yt (p + 1) ∧ Yt (p + 1) ≤ 57) from k1)], by rw [nme, if_neg z, if_neg (show ¬ (p + 1 < N ∧ 48 ≤ Yt (p + 1) ∧ Yt (p + 1) ≤ 57) from k1)]; exact u1⟩))
    · rw [nI_eq0 (by omega)] at c11
      have z : Yt p = 48 := by omega
      refine go_iload_1 (DX1_readNumber.at 8 rfl) ?_
      exact go_iret (DX1_readNumber.at 9 rfl) rfl rfl (RI.mk (Or.inl ⟨g1, by rw [nmv, if_pos z, c11], by rw [nme, if_pos z]; exact u1⟩))
  · refine go_istore_1 (DX1_readNumber.at 2 rfl) ?_
    refine go_iload_1 (DX1_readNumber.at 3 rfl) ?_
    refine go_iconst (v := (-1)) (DX1_readNumber.at 4 rfl) (by decide) ?_
    refine go_icmp_eq 14 (DX1_readNumber.at 5 rfl) (by decide) (fun c7 => ?_) (fun c7 => absurd rfl c7)
    refine go_iload_1 (DX1_readNumber.at 8 rfl) ?_
    exact go_iret (DX1_readNumber.at 9 rfl) rfl rfl (RI.mk (Or.inr ⟨g1, rfl, rfl⟩))

theorem c_append {N : Nat} {x : Int32} (hO : OrAt h b o X) (hN : o 1 = nI N) (hN2 : N ≤ 60) : Calls E mX1_append d 0 0 [.ref b, .int x] h (RI (fun r h' => (N < 60 ∧ r = nI (N + 1) ∧ OrU h b (upd o 1 (nI (N + 1))) (upd X N (vp_nar .char x)) h') ∨ (N = 60 ∧ r = (-3) ∧ h' = h))) := by
  refine Calls.of (ls := [some (.ref b), some (.int x)]) (by decide +kernel) rfl (Nat.le_of_ble_eq_true rfl) (cat_ok rfl) ?_
  refine go_aload_0 (DX1_append.at 0 rfl) ?_
  refine go_getfield (DX1_append.at 1 rfl) fX1_15 hO.1 rfl ?_
  rw [hN]
  refine go_if_lt 19 (DX1_append.at 2 rfl) (by decide) (fun c4 => absurd c4 (nI_pos (by omega))) (fun c4 => ?_)
  refine go_aload_0 (DX1_append.at 3 rfl) ?_
  refine go_getfield (DX1_append.at 4 rfl) fX1_15 hO.1 rfl ?_
  rw [hN]
  refine go_aload_0 (DX1_append.at 5 rfl) ?_
  refine go_getfield (DX1_append.at 6 rfl) fX1_9 hO.1 rfl ?_
  refine go_alenC (v := nI 60) (DX1_append.at 7 rfl) hO.2 rfl ?_
  refine go_icmp_lt 22 (DX1_append.at 8 rfl) (by decide) (fun c16 => ?_) (fun c16 => ?_)
  · rw [nI_ltI (by omega) (by decide)] at c16
    refine go_aload_0 (DX1_append.at 11 rfl) ?_
    refine go_getfield (DX1_append.at 12 rfl) fX1_9 hO.1 rfl ?_
    refine go_aload_0 (DX1_append.at 13 rfl) ?_
    refine go_getfield (DX1_append.at 14 rfl) fX1_15 hO.1 rfl ?_
    rw [hN]
    refine go_iload_1 (DX1_append.at 15 rfl) ?_
    refine go_castore (DX1_append.at 16 rfl) hO.2 (vp_in_nI c16 (by decide)) ?_
    rw [nI_cl (by omega)]
    have u31 : OrU h b o (upd X N (vp_nar .char x)) (h.set (b + 1) (.inl (1, 60, .inl (upd X N (vp_nar .char x))))) := ⟨⟨by rw [List.getElem?_set_ne (by omega)]; exact hO.1, get_set hO.2⟩, Only.set (by omega) (by omega)⟩
    refine go_aload_0 (DX1_append.at 17 rfl) ?_
    refine go_dup (DX1_append.at 18 rfl) rfl ?_
    refine go_getfield (DX1_append.at 19 rfl) fX1_15 u31.1.1 rfl ?_
    rw [hN]
    refine go_iconst (v := nI 1) (DX1_append.at 20 rfl) (by decide) ?_
    refine go_iadd (DX1_append.at 21 rfl) ?_
    rw [nI_add]
    refine go_putOr (DX1_append.at 22 rfl) fX1_15 (by decide) u31.1 (fun h39 q39 => ?_)
    refine go_aload_0 (DX1_append.at 23 rfl) ?_
    refine go_getfield (DX1_append.at 24 rfl) fX1_15 q39.1.1 rfl ?_
    exact go_iret (DX1_append.at 25 rfl) rfl rfl (RI.mk (Or.inl ⟨c16, rfl, u31.then q39⟩))
  · rw [nI_ltI (by omega) (by decide)] at c16
    refine go_bipush (v := (-3)) (DX1_append.at 9 rfl) (by decide) ?_
    exact go_iret (DX1_append.at 10 rfl) rfl rfl (RI.mk (Or.inr ⟨by omega, rfl, rfl⟩))

end OR
