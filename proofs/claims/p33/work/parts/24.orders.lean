/-! THE TEXT, read by the class -/
abbrev orO (b : Nat) (o : Nat → Int32) : va_E := .inr (1, [.ref (b + 1), .int (o 1), .int (o 2), .int (o 3), .int (o 4), .int (o 5), .int (o 6), .int (o 7), .int (o 8)])
/-- Orders at b: o 1 .. o 8: length, place, count, kind, stripe, cell, node, value; X the signs -/
def OrAt (h : List va_E) (b : Nat) (o : Nat → Int32) (X : Nat → Int32) : Prop := h[b]? = some (orO b o) ∧ h[b + 1]? = some (.inl (1, 60, .inl X))
def OrU (h : List va_E) (b : Nat) (o : Nat → Int32) (X : Nat → Int32) (h' : List va_E) : Prop := OrAt h' b o X ∧ Only b (b + 2) h h'
theorem OrAt.obj {h : List va_E} {b : Nat} {o : Nat → Int32} {X : Nat → Int32} (hO : OrAt h b o X) (o' : Nat → Int32) : OrU h b o' X (h.set b (orO b o')) := ⟨⟨get_set hO.1, by rw [List.getElem?_set_ne (by omega)]; exact hO.2⟩, Only.set (by omega) (by omega)⟩
theorem OrAt.keep {h h1 : List va_E} {b lo hi : Nat} {o : Nat → Int32} {X : Nat → Int32} (hB : OrAt h b o X) (hO : Only lo hi h h1) (hd : b + 2 ≤ lo ∨ hi ≤ b) : OrAt h1 b o X := ⟨hO.at (by omega) hB.1, hO.at (by omega) hB.2⟩
theorem OrU.then {h h1 h2 : List va_E} {b : Nat} {o1 o2 : Nat → Int32} {X1 X2 : Nat → Int32} (u1 : OrU h b o1 X1 h1) (u2 : OrU h1 b o2 X2 h2) : OrU h b o2 X2 h2 := ⟨u2.1, u1.2.trans u2.2⟩
/-- the text: N signs Y -/
def TxtIs (X : Nat → Int32) (Y : Nat → Nat) (N : Nat) : Prop := N ≤ 60 ∧ ∀ j, j < N → X j = nI (Y j) ∧ Y j < 65536
abbrev dgt (Y : Nat → Nat) (N p : Nat) : Prop := p < N ∧ 48 ≤ Y p ∧ Y p ≤ 57
section OR
variable {E : AEnv} {Y : MI} {d k n pc pc' idx : Nat} {ls : List (Option Value)} {st : List Value} {h : List va_E} {b : Nat} {o X : Nat → Int32} {Ψ : Pst}
theorem go_putOr {kf : Nat} {x : Int32} (hd : Dc Y pc (.putfield idx) pc') (hF : FLk Y.1.cls idx 1 kf) (hk : 1 ≤ kf ∧ kf < 9) (hO : OrAt h b o X) (K : ∀ h1, OrU h b (upd o kf x) X h1 → Go E Y d k n pc' ls st h1 Ψ) : Go E Y d k n pc ls (.int x :: .ref b :: st) h Ψ := by
  have K' := K _ (hO.obj (upd o kf x))
  rcases (show kf = 1 ∨ kf = 2 ∨ kf = 3 ∨ kf = 4 ∨ kf = 5 ∨ kf = 6 ∨ kf = 7 ∨ kf = 8 by omega) with rfl | rfl | rfl | rfl | rfl | rfl | rfl | rfl <;>
    exact go_putfield hd hF rfl rfl hO.1 (Nat.le_of_ble_eq_true rfl) (fun w hw => by subst hw; exact ⟨rfl, rfl⟩) K'
/-- the number at p, and where it ends -/
def nmv (Y : Nat → Nat) (N p : Nat) : Nat := if Y p = 48 then 0 else if p + 1 < N ∧ 48 ≤ Y (p + 1) ∧ Y (p + 1) ≤ 57 then 10 * (Y p - 48) + (Y (p + 1) - 48) else Y p - 48
def nme (Y : Nat → Nat) (N p : Nat) : Nat := if Y p = 48 then p + 1 else if p + 1 < N ∧ 48 ≤ Y (p + 1) ∧ Y (p + 1) ≤ 57 then p + 2 else p + 1
end OR
