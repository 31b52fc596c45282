/-! THE CLASS'S OBJECT: what it holds, and how it is made -/
abbrev clO (b : Nat) (n t : Int32) : va_E := .inr (5, [.ref (b + 1), .ref (b + 7), .ref (b + 13), .ref (b + 19), .ref (b + 20), .ref (b + 22), .ref (b + 26), .int n, .int t])
abbrev hsA (F : Nat → Option Nat) : va_E := .inl (2, 4, .inr (.inr (.inr (.inr F))))
theorem Ext.mid0 {l as : List va_E} {x y : va_E} : Ext l.length (l ++ x :: as) (l ++ y :: as) := by
  intro i e hi he
  rw [← set_mid (x := x), List.getElem?_set_ne (by omega)]
  exact he
theorem Ext.set {a : Nat} {h : List va_E} {e : va_E} : Ext a h (h.set a e) := fun i e' hi he => by
  rw [List.getElem?_set_ne (by omega)]
  exact he
theorem set_app {α : Type} {l as : List α} {i : Nat} {y : α} : (l ++ as).set (l.length + i) y = l ++ as.set i y := by
  rw [List.set_append_right _ _ (by omega), show l.length + i - l.length = i by omega]
section CT
variable {E : AEnv} {Y : MI} {d k n pc0 pc1 pc2 pc3 pc4 idx : Nat} {ls : List (Option Value)} {st : List Value} {l as : List va_E} {x : va_E} {Ψ : Pst}
theorem go_mkState {m : Nat} (d1 : Dc mX5_init pc0 (.new 7) pc1) (d2 : Dc mX5_init pc1 .dup pc2) (d3 : Dc mX5_init pc2 (.invokespecial 9) pc3) (hm : as.length = m) (hlen : l.length + (m + 8) < BIGN) (hd : 4 ≤ d) (hcat : (st.map fun v => v.category).sum ≤ 7)
    (K : ∀ cs, cs.length = 6 → (∃ σ, StAt (l ++ x :: (as ++ cs)) (l.length + (m + 1)) σ ∧ StNew σ) → Go E mX5_init d k n pc3 ls (.ref (l.length + (m + 1)) :: st) (l ++ x :: (as ++ cs)) Ψ) : Go E mX5_init d (6 + k) (382 + n) pc0 ls st (l ++ x :: as) Ψ := by
  rw [show 6 + k = 1 + (5 + k) by omega, show 382 + n = 14 + (368 + n) by omega]
  refine go_newM (ci := 4) (N := 14) (m := m) d1 rfl (BW_i 59 (by decide +kernel) rfl) (BW_i 60 (by decide +kernel) rfl) (BW_i 42 (by decide +kernel) rfl) bn4_ok rfl hm (by omega) ?_
  refine go_dup d2 rfl ?_
  refine go_callI (k1 := 5) (n1 := 368) (k := k) (n := n) (As := []) d3 nX5_9 vX4_init (by omega) (c_newState (by rw [len_mid hm]; omega) (by omega)) rfl (by rw [List.map_cons, List.sum_cons]; have : (Value.ref (l ++ x :: as).length).category = 1 := rfl; omega) (fun h9 q9 => ?_)
  obtain ⟨cs, σ, rfl, hcs, q1, q2⟩ := q9
  rw [len_mid hm, List.append_assoc, List.cons_append] at *
  exact K cs hcs ⟨σ, q1, q2⟩
theorem go_fiState {m kf : Nat} {fs : List Value} (d1 : Dc mX5_init pc0 (.new 7) pc1) (d2 : Dc mX5_init pc1 .dup pc2) (d3 : Dc mX5_init pc2 (.invokespecial 9) pc3) (d4 : Dc mX5_init pc3 (.putfield idx) pc4) (hF : Jvm.Cond.fieldLink RX5 idx (TX5 kf).1 (TX5 kf).2.1 (TX5 kf).2.2.1 ∈ BW) (hkN : kf < 9) (hfin : (TX5 kf).2.2.2 = true) (hdecl : (TX5 kf).1 = RX5) (hl : kf < fs.length)
    (hty : ∀ a, narrow (clTy 5 kf) (.ref a) = .ref a ∧ fits (clTy 5 kf) (.ref a) = true) (hm : as.length = m) (hlen : l.length + (m + 8) < BIGN) (hd : 4 ≤ d)
    (K : ∀ as', as'.length = m + 6 → Ext l.length (l ++ .inr (5, fs) :: as) (l ++ .inr (5, fs.set kf (.ref (l.length + (m + 1)))) :: as') → (∃ σ, StAt (l ++ .inr (5, fs.set kf (.ref (l.length + (m + 1)))) :: as') (l.length + (m + 1)) σ ∧ StNew σ) → Go E mX5_init d k n pc4 ls [] (l ++ .inr (5, fs.set kf (.ref (l.length + (m + 1)))) :: as') Ψ) : Go E mX5_init d (6 + k) (382 + n) pc0 ls [.ref l.length] (l ++ .inr (5, fs) :: as) Ψ := by
  refine go_mkState d1 d2 d3 hm hlen hd (Nat.le_of_ble_eq_true rfl) (fun cs hcs q => ?_)
  refine go_finM d4 hF rfl hkN hfin rfl hdecl hl (fun w hw => by subst hw; exact hty _) (K (as ++ cs) (by rw [List.length_append, hm, hcs]) Ext.mid ?_)
  obtain ⟨σ, q1, q2⟩ := q
  exact ⟨σ, q1.ext Ext.mid0 (by omega), q2⟩
theorem go_mkOrders {m : Nat} (d1 : Dc mX5_init pc0 (.new 26) pc1) (d2 : Dc mX5_init pc1 .dup pc2) (d3 : Dc mX5_init pc2 (.invokespecial 28) pc3) (hm : as.length = m) (hlen : l.length + (m + 8) < BIGN) (hd : 2 ≤ d) (hcat : (st.map fun v => v.category).sum ≤ 7)
    (K : ∀ cs, cs.length = 2 → (OrAt (l ++ x :: (as ++ cs)) (l.length + (m + 1)) (fun _ => 0) (fun _ => 0)) → Go E mX5_init d k n pc3 ls (.ref (l.length + (m + 1)) :: st) (l ++ x :: (as ++ cs)) Ψ) : Go E mX5_init d (2 + k) (69 + n) pc0 ls st (l ++ x :: as) Ψ := by
  rw [show 2 + k = 1 + (1 + k) by omega, show 69 + n = 9 + (60 + n) by omega]
  refine go_newM (ci := 1) (N := 9) (m := m) d1 rfl (BW_i 149 (by decide +kernel) rfl) (BW_i 150 (by decide +kernel) rfl) (BW_i 44 (by decide +kernel) rfl) bn1_ok rfl hm (by omega) ?_
  refine go_dup d2 rfl ?_
  refine go_callI (k1 := 1) (n1 := 60) (k := k) (n := n) (As := []) d3 nX5_28 vX1_init (by omega) (c_newOrders (by rw [len_mid hm]; omega) (by omega)) rfl (by rw [List.map_cons, List.sum_cons]; have : (Value.ref (l ++ x :: as).length).category = 1 := rfl; omega) (fun h9 q9 => ?_)
  obtain ⟨cs, rfl, hcs, q1⟩ := q9
  rw [len_mid hm, List.append_assoc, List.cons_append] at *
  exact K cs hcs q1
theorem go_fiOrders {m kf : Nat} {fs : List Value} (d1 : Dc mX5_init pc0 (.new 26) pc1) (d2 : Dc mX5_init pc1 .dup pc2) (d3 : Dc mX5_init pc2 (.invokespecial 28) pc3) (d4 : Dc mX5_init pc3 (.putfield idx) pc4) (hF : Jvm.Cond.fieldLink RX5 idx (TX5 kf).1 (TX5 kf).2.1 (TX5 kf).2.2.1 ∈ BW) (hkN : kf < 9) (hfin : (TX5 kf).2.2.2 = true) (hdecl : (TX5 kf).1 = RX5) (hl : kf < fs.length)
    (hty : ∀ a, narrow (clTy 5 kf) (.ref a) = .ref a ∧ fits (clTy 5 kf) (.ref a) = true) (hm : as.length = m) (hlen : l.length + (m + 8) < BIGN) (hd : 2 ≤ d)
    (K : ∀ as', as'.length = m + 2 → Ext l.length (l ++ .inr (5, fs) :: as) (l ++ .inr (5, fs.set kf (.ref (l.length + (m + 1)))) :: as') → (OrAt (l ++ .inr (5, fs.set kf (.ref (l.length + (m + 1)))) :: as') (l.length + (m + 1)) (fun _ => 0) (fun _ => 0)) → Go E mX5_init d k n pc4 ls [] (l ++ .inr (5, fs.set kf (.ref (l.length + (m + 1)))) :: as') Ψ) : Go E mX5_init d (2 + k) (69 + n) pc0 ls [.ref l.length] (l ++ .inr (5, fs) :: as) Ψ := by
  refine go_mkOrders d1 d2 d3 hm hlen hd (Nat.le_of_ble_eq_true rfl) (fun cs hcs q => ?_)
  refine go_finM d4 hF rfl hkN hfin rfl hdecl hl (fun w hw => by subst hw; exact hty _) (K (as ++ cs) (by rw [List.length_append, hm, hcs]) Ext.mid ?_)
  have q1 := q
  exact q1.ext Ext.mid0 (by omega)
theorem go_mkPlan {m : Nat} (d1 : Dc mX5_init pc0 (.new 33) pc1) (d2 : Dc mX5_init pc1 .dup pc2) (d3 : Dc mX5_init pc2 (.invokespecial 35) pc3) (hm : as.length = m) (hlen : l.length + (m + 8) < BIGN) (hd : 3 ≤ d) (hcat : (st.map fun v => v.category).sum ≤ 7)
    (K : ∀ cs, cs.length = 4 → (PlIs (l ++ x :: (as ++ cs)) (l.length + (m + 1)) 0 0) → Go E mX5_init d k n pc3 ls (.ref (l.length + (m + 1)) :: st) (l ++ x :: (as ++ cs)) Ψ) : Go E mX5_init d (4 + k) (18 + n) pc0 ls st (l ++ x :: as) Ψ := by
  rw [show 4 + k = 1 + (3 + k) by omega, show 18 + n = 3 + (15 + n) by omega]
  refine go_newM (ci := 2) (N := 3) (m := m) d1 rfl (BW_i 185 (by decide +kernel) rfl) (BW_i 186 (by decide +kernel) rfl) (BW_i 45 (by decide +kernel) rfl) bn2_ok rfl hm (by omega) ?_
  refine go_dup d2 rfl ?_
  refine go_callI (k1 := 3) (n1 := 15) (k := k) (n := n) (As := []) d3 nX5_35 vX2_init (by omega) (c_newPlan (by rw [len_mid hm]; omega) (by rw [len_mid hm]; omega) (by omega)) rfl (by rw [List.map_cons, List.sum_cons]; have : (Value.ref (l ++ x :: as).length).category = 1 := rfl; omega) (fun h9 q9 => ?_)
  obtain ⟨cs, rfl, hcs, q1⟩ := q9
  rw [len_mid hm, List.append_assoc, List.cons_append] at *
  exact K cs hcs q1
theorem go_fiPlan {m kf : Nat} {fs : List Value} (d1 : Dc mX5_init pc0 (.new 33) pc1) (d2 : Dc mX5_init pc1 .dup pc2) (d3 : Dc mX5_init pc2 (.invokespecial 35) pc3) (d4 : Dc mX5_init pc3 (.putfield idx) pc4) (hF : Jvm.Cond.fieldLink RX5 idx (TX5 kf).1 (TX5 kf).2.1 (TX5 kf).2.2.1 ∈ BW) (hkN : kf < 9) (hfin : (TX5 kf).2.2.2 = true) (hdecl : (TX5 kf).1 = RX5) (hl : kf < fs.length)
    (hty : ∀ a, narrow (clTy 5 kf) (.ref a) = .ref a ∧ fits (clTy 5 kf) (.ref a) = true) (hm : as.length = m) (hlen : l.length + (m + 8) < BIGN) (hd : 3 ≤ d)
    (K : ∀ as', as'.length = m + 4 → Ext l.length (l ++ .inr (5, fs) :: as) (l ++ .inr (5, fs.set kf (.ref (l.length + (m + 1)))) :: as') → (PlIs (l ++ .inr (5, fs.set kf (.ref (l.length + (m + 1)))) :: as') (l.length + (m + 1)) 0 0) → Go E mX5_init d k n pc4 ls [] (l ++ .inr (5, fs.set kf (.ref (l.length + (m + 1)))) :: as') Ψ) : Go E mX5_init d (4 + k) (18 + n) pc0 ls [.ref l.length] (l ++ .inr (5, fs) :: as) Ψ := by
  refine go_mkPlan d1 d2 d3 hm hlen hd (Nat.le_of_ble_eq_true rfl) (fun cs hcs q => ?_)
  refine go_finM d4 hF rfl hkN hfin rfl hdecl hl (fun w hw => by subst hw; exact hty _) (K (as ++ cs) (by rw [List.length_append, hm, hcs]) Ext.mid ?_)
  have q1 := q
  exact q1.ext Ext.mid0 (by omega)
theorem go_mkSearch {m : Nat} (d1 : Dc mX5_init pc0 (.new 40) pc1) (d2 : Dc mX5_init pc1 .dup pc2) (d3 : Dc mX5_init pc2 (.invokespecial 42) pc3) (hm : as.length = m) (hlen : l.length + (m + 8) < BIGN) (hd : 2 ≤ d) (hcat : (st.map fun v => v.category).sum ≤ 7)
    (K : ∀ cs, cs.length = 2 → (SeIs (l ++ x :: (as ++ cs)) (l.length + (m + 1)) 0 0 0 (fun _ => 0)) → Go E mX5_init d k n pc3 ls (.ref (l.length + (m + 1)) :: st) (l ++ x :: (as ++ cs)) Ψ) : Go E mX5_init d (2 + k) (84 + n) pc0 ls st (l ++ x :: as) Ψ := by
  rw [show 2 + k = 1 + (1 + k) by omega, show 84 + n = 4 + (80 + n) by omega]
  refine go_newM (ci := 3) (N := 4) (m := m) d1 rfl (BW_i 220 (by decide +kernel) rfl) (BW_i 221 (by decide +kernel) rfl) (BW_i 47 (by decide +kernel) rfl) bn3_ok rfl hm (by omega) ?_
  refine go_dup d2 rfl ?_
  refine go_callI (k1 := 1) (n1 := 80) (k := k) (n := n) (As := []) d3 nX5_42 vX3_init (by omega) (c_newSearch (by rw [len_mid hm]; omega) (by omega)) rfl (by rw [List.map_cons, List.sum_cons]; have : (Value.ref (l ++ x :: as).length).category = 1 := rfl; omega) (fun h9 q9 => ?_)
  obtain ⟨cs, rfl, hcs, q1⟩ := q9
  rw [len_mid hm, List.append_assoc, List.cons_append] at *
  exact K cs hcs q1
theorem go_fiSearch {m kf : Nat} {fs : List Value} (d1 : Dc mX5_init pc0 (.new 40) pc1) (d2 : Dc mX5_init pc1 .dup pc2) (d3 : Dc mX5_init pc2 (.invokespecial 42) pc3) (d4 : Dc mX5_init pc3 (.putfield idx) pc4) (hF : Jvm.Cond.fieldLink RX5 idx (TX5 kf).1 (TX5 kf).2.1 (TX5 kf).2.2.1 ∈ BW) (hkN : kf < 9) (hfin : (TX5 kf).2.2.2 = true) (hdecl : (TX5 kf).1 = RX5) (hl : kf < fs.length)
    (hty : ∀ a, narrow (clTy 5 kf) (.ref a) = .ref a ∧ fits (clTy 5 kf) (.ref a) = true) (hm : as.length = m) (hlen : l.length + (m + 8) < BIGN) (hd : 2 ≤ d)
    (K : ∀ as', as'.length = m + 2 → Ext l.length (l ++ .inr (5, fs) :: as) (l ++ .inr (5, fs.set kf (.ref (l.length + (m + 1)))) :: as') → (SeIs (l ++ .inr (5, fs.set kf (.ref (l.length + (m + 1)))) :: as') (l.length + (m + 1)) 0 0 0 (fun _ => 0)) → Go E mX5_init d k n pc4 ls [] (l ++ .inr (5, fs.set kf (.ref (l.length + (m + 1)))) :: as') Ψ) : Go E mX5_init d (2 + k) (84 + n) pc0 ls [.ref l.length] (l ++ .inr (5, fs) :: as) Ψ := by
  refine go_mkSearch d1 d2 d3 hm hlen hd (Nat.le_of_ble_eq_true rfl) (fun cs hcs q => ?_)
  refine go_finM d4 hF rfl hkN hfin rfl hdecl hl (fun w hw => by subst hw; exact hty _) (K (as ++ cs) (by rw [List.length_append, hm, hcs]) Ext.mid ?_)
  have q1 := q
  exact q1.ext Ext.mid0 (by omega)
end CT
