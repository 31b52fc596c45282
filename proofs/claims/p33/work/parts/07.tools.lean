/-! CALLS BY THE NUMBER OF ARGUMENTS AND THE KIND OF ANSWER; small tools -/
/-- an int answer / none; an exact answer -/
def RI (P : Int32 → List va_E → Prop) : Pst := fun r h => ∃ x, r = some (.int x) ∧ P x h
def RV (P : List va_E → Prop) : Pst := fun r h => r = none ∧ P h
def RX (v : Int32) (h0 : List va_E) : Pst := fun r h => r = some (.int v) ∧ h = h0
theorem RX.mk {v x : Int32} {h0 h : List va_E} (e : x = v) (eh : h = h0) : RX v h0 (some (.int x)) h := ⟨by rw [e], eh⟩
theorem RI.mk {P : Int32 → List va_E → Prop} {x : Int32} {h : List va_E} (e : P x h) : RI P (some (.int x)) h := ⟨x, rfl, e⟩
theorem RV.mk {P : List va_E → Prop} {h : List va_E} (e : P h) : RV P none h := ⟨rfl, e⟩
theorem cat_ok {args : List Value} (h : args.all (fun v => v.category == 1) = true) : ∀ v ∈ args, v.category = 1 := fun v hv => by
  have h1 := List.all_eq_true.mp h v hv
  simpa using h1
theorem Calls.weaken {E : AEnv} {Y : MI} {d k n : Nat} {args : List Value} {h : List va_E} {Ψ Φ : Pst} (hC : Calls E Y d k n args h Ψ) (hw : ∀ r h', Ψ r h' → Φ r h') : Calls E Y d k n args h Φ := by
  intro l p e h1 h2 h3 s m a below h4 h5 h6 h7
  obtain ⟨nn, o, g1, g2, g3, hq, hL⟩ := hC l p e h1 h2 h3 s m a below h4 h5 h6 h7
  obtain ⟨r, h', hΨ, g4⟩ := hq
  exact ⟨nn, o, g1, g2, g3, ⟨r, h', hw r h' hΨ, g4⟩, hL⟩
section GCN
variable {E : AEnv} {Y : MI} {d k n pc pc' idx : Nat} {ls : List (Option Value)} {rest : List Value} {h h0 : List va_E} {Ψ Ψ1 : Pst} {Y' : MI} {P : Int32 → List va_E → Prop} {PV : List va_E → Prop} {v : Int32}
theorem go_cSx0 (hd : Dc Y pc (.invokestatic idx) pc') (hM : MLk Y.1.cls idx Y' 0) (hst : Cond.static Y'.1 ∈ BW) (hd1 : 1 ≤ d) (hC : Calls E Y' (d - 1) 0 0 [] h (RX v h0)) (hcat : (rest.map fun v => v.category).sum ≤ 8) (K : Go E Y d k n pc' ls (.int v :: rest) h0 Ψ) : Go E Y d k n pc ls (rest) h Ψ := by
  have q := go_callS (k := k) (n := n) (ls := ls) (rest := rest) (Ψ := Ψ) (As := []) hd hM hst hd1 hC rfl hcat (fun r1 h1 q => by rw [q.1, q.2]; exact K)
  rw [Nat.zero_add, Nat.zero_add] at q
  exact q
theorem go_cSi0 (hd : Dc Y pc (.invokestatic idx) pc') (hM : MLk Y.1.cls idx Y' 0) (hst : Cond.static Y'.1 ∈ BW) (hd1 : 1 ≤ d) (hC : Calls E Y' (d - 1) 0 0 [] h (RI P)) (hcat : (rest.map fun v => v.category).sum ≤ 8) (K : ∀ x h1, P x h1 → Go E Y d k n pc' ls (.int x :: rest) h1 Ψ) : Go E Y d k n pc ls (rest) h Ψ := by
  have q := go_callS (k := k) (n := n) (ls := ls) (rest := rest) (Ψ := Ψ) (As := []) hd hM hst hd1 hC rfl hcat (fun r1 h1 q => by obtain ⟨x, rfl, q⟩ := q; exact K x h1 q)
  rw [Nat.zero_add, Nat.zero_add] at q
  exact q
theorem go_cSv0 (hd : Dc Y pc (.invokestatic idx) pc') (hM : MLk Y.1.cls idx Y' 0) (hst : Cond.static Y'.1 ∈ BW) (hd1 : 1 ≤ d) (hC : Calls E Y' (d - 1) 0 0 [] h (RV PV)) (hcat : (rest.map fun v => v.category).sum ≤ 8) (K : ∀ h1, PV h1 → Go E Y d k n pc' ls rest h1 Ψ) : Go E Y d k n pc ls (rest) h Ψ := by
  have q := go_callS (k := k) (n := n) (ls := ls) (rest := rest) (Ψ := Ψ) (As := []) hd hM hst hd1 hC rfl hcat (fun r1 h1 q => by obtain ⟨rfl, q⟩ := q; exact K h1 q)
  rw [Nat.zero_add, Nat.zero_add] at q
  exact q
theorem go_cSx1 {a0 : Value} (hd : Dc Y pc (.invokestatic idx) pc') (hM : MLk Y.1.cls idx Y' 1) (hst : Cond.static Y'.1 ∈ BW) (hd1 : 1 ≤ d) (hC : Calls E Y' (d - 1) 0 0 [a0] h (RX v h0)) (hcat : (rest.map fun v => v.category).sum ≤ 8) (K : Go E Y d k n pc' ls (.int v :: rest) h0 Ψ) : Go E Y d k n pc ls (a0 :: rest) h Ψ := by
  have q := go_callS (k := k) (n := n) (ls := ls) (rest := rest) (Ψ := Ψ) (As := [a0]) hd hM hst hd1 hC rfl hcat (fun r1 h1 q => by rw [q.1, q.2]; exact K)
  rw [Nat.zero_add, Nat.zero_add] at q
  exact q
theorem go_cSi1 {a0 : Value} (hd : Dc Y pc (.invokestatic idx) pc') (hM : MLk Y.1.cls idx Y' 1) (hst : Cond.static Y'.1 ∈ BW) (hd1 : 1 ≤ d) (hC : Calls E Y' (d - 1) 0 0 [a0] h (RI P)) (hcat : (rest.map fun v => v.category).sum ≤ 8) (K : ∀ x h1, P x h1 → Go E Y d k n pc' ls (.int x :: rest) h1 Ψ) : Go E Y d k n pc ls (a0 :: rest) h Ψ := by
  have q := go_callS (k := k) (n := n) (ls := ls) (rest := rest) (Ψ := Ψ) (As := [a0]) hd hM hst hd1 hC rfl hcat (fun r1 h1 q => by obtain ⟨x, rfl, q⟩ := q; exact K x h1 q)
  rw [Nat.zero_add, Nat.zero_add] at q
  exact q
theorem go_cSv1 {a0 : Value} (hd : Dc Y pc (.invokestatic idx) pc') (hM : MLk Y.1.cls idx Y' 1) (hst : Cond.static Y'.1 ∈ BW) (hd1 : 1 ≤ d) (hC : Calls E Y' (d - 1) 0 0 [a0] h (RV PV)) (hcat : (rest.map fun v => v.category).sum ≤ 8) (K : ∀ h1, PV h1 → Go E Y d k n pc' ls rest h1 Ψ) : Go E Y d k n pc ls (a0 :: rest) h Ψ := by
  have q := go_callS (k := k) (n := n) (ls := ls) (rest := rest) (Ψ := Ψ) (As := [a0]) hd hM hst hd1 hC rfl hcat (fun r1 h1 q => by obtain ⟨rfl, q⟩ := q; exact K h1 q)
  rw [Nat.zero_add, Nat.zero_add] at q
  exact q
theorem go_cSx2 {a0 a1 : Value} (hd : Dc Y pc (.invokestatic idx) pc') (hM : MLk Y.1.cls idx Y' 2) (hst : Cond.static Y'.1 ∈ BW) (hd1 : 1 ≤ d) (hC : Calls E Y' (d - 1) 0 0 [a0, a1] h (RX v h0)) (hcat : (rest.map fun v => v.category).sum ≤ 8) (K : Go E Y d k n pc' ls (.int v :: rest) h0 Ψ) : Go E Y d k n pc ls (a1 :: a0 :: rest) h Ψ := by
  have q := go_callS (k := k) (n := n) (ls := ls) (rest := rest) (Ψ := Ψ) (As := [a0, a1]) hd hM hst hd1 hC rfl hcat (fun r1 h1 q => by rw [q.1, q.2]; exact K)
  rw [Nat.zero_add, Nat.zero_add] at q
  exact q
theorem go_cSi2 {a0 a1 : Value} (hd : Dc Y pc (.invokestatic idx) pc') (hM : MLk Y.1.cls idx Y' 2) (hst : Cond.static Y'.1 ∈ BW) (hd1 : 1 ≤ d) (hC : Calls E Y' (d - 1) 0 0 [a0, a1] h (RI P)) (hcat : (rest.map fun v => v.category).sum ≤ 8) (K : ∀ x h1, P x h1 → Go E Y d k n pc' ls (.int x :: rest) h1 Ψ) : Go E Y d k n pc ls (a1 :: a0 :: rest) h Ψ := by
  have q := go_callS (k := k) (n := n) (ls := ls) (rest := rest) (Ψ := Ψ) (As := [a0, a1]) hd hM hst hd1 hC rfl hcat (fun r1 h1 q => by obtain ⟨x, rfl, q⟩ := q; exact K x h1 q)
  rw [Nat.zero_add, Nat.zero_add] at q
  exact q
theorem go_cSv2 {a0 a1 : Value} (hd : Dc Y pc (.invokestatic idx) pc') (hM : MLk Y.1.cls idx Y' 2) (hst : Cond.static Y'.1 ∈ BW) (hd1 : 1 ≤ d) (hC : Calls E Y' (d - 1) 0 0 [a0, a1] h (RV PV)) (hcat : (rest.map fun v => v.category).sum ≤ 8) (K : ∀ h1, PV h1 → Go E Y d k n pc' ls rest h1 Ψ) : Go E Y d k n pc ls (a1 :: a0 :: rest) h Ψ := by
  have q := go_callS (k := k) (n := n) (ls := ls) (rest := rest) (Ψ := Ψ) (As := [a0, a1]) hd hM hst hd1 hC rfl hcat (fun r1 h1 q => by obtain ⟨rfl, q⟩ := q; exact K h1 q)
  rw [Nat.zero_add, Nat.zero_add] at q
  exact q
theorem go_cSx3 {a0 a1 a2 : Value} (hd : Dc Y pc (.invokestatic idx) pc') (hM : MLk Y.1.cls idx Y' 3) (hst : Cond.static Y'.1 ∈ BW) (hd1 : 1 ≤ d) (hC : Calls E Y' (d - 1) 0 0 [a0, a1, a2] h (RX v h0)) (hcat : (rest.map fun v => v.category).sum ≤ 8) (K : Go E Y d k n pc' ls (.int v :: rest) h0 Ψ) : Go E Y d k n pc ls (a2 :: a1 :: a0 :: rest) h Ψ := by
  have q := go_callS (k := k) (n := n) (ls := ls) (rest := rest) (Ψ := Ψ) (As := [a0, a1, a2]) hd hM hst hd1 hC rfl hcat (fun r1 h1 q => by rw [q.1, q.2]; exact K)
  rw [Nat.zero_add, Nat.zero_add] at q
  exact q
theorem go_cSi3 {a0 a1 a2 : Value} (hd : Dc Y pc (.invokestatic idx) pc') (hM : MLk Y.1.cls idx Y' 3) (hst : Cond.static Y'.1 ∈ BW) (hd1 : 1 ≤ d) (hC : Calls E Y' (d - 1) 0 0 [a0, a1, a2] h (RI P)) (hcat : (rest.map fun v => v.category).sum ≤ 8) (K : ∀ x h1, P x h1 → Go E Y d k n pc' ls (.int x :: rest) h1 Ψ) : Go E Y d k n pc ls (a2 :: a1 :: a0 :: rest) h Ψ := by
  have q := go_callS (k := k) (n := n) (ls := ls) (rest := rest) (Ψ := Ψ) (As := [a0, a1, a2]) hd hM hst hd1 hC rfl hcat (fun r1 h1 q => by obtain ⟨x, rfl, q⟩ := q; exact K x h1 q)
  rw [Nat.zero_add, Nat.zero_add] at q
  exact q
theorem go_cSv3 {a0 a1 a2 : Value} (hd : Dc Y pc (.invokestatic idx) pc') (hM : MLk Y.1.cls idx Y' 3) (hst : Cond.static Y'.1 ∈ BW) (hd1 : 1 ≤ d) (hC : Calls E Y' (d - 1) 0 0 [a0, a1, a2] h (RV PV)) (hcat : (rest.map fun v => v.category).sum ≤ 8) (K : ∀ h1, PV h1 → Go E Y d k n pc' ls rest h1 Ψ) : Go E Y d k n pc ls (a2 :: a1 :: a0 :: rest) h Ψ := by
  have q := go_callS (k := k) (n := n) (ls := ls) (rest := rest) (Ψ := Ψ) (As := [a0, a1, a2]) hd hM hst hd1 hC rfl hcat (fun r1 h1 q => by obtain ⟨rfl, q⟩ := q; exact K h1 q)
  rw [Nat.zero_add, Nat.zero_add] at q
  exact q
theorem go_cSx4 {a0 a1 a2 a3 : Value} (hd : Dc Y pc (.invokestatic idx) pc') (hM : MLk Y.1.cls idx Y' 4) (hst : Cond.static Y'.1 ∈ BW) (hd1 : 1 ≤ d) (hC : Calls E Y' (d - 1) 0 0 [a0, a1, a2, a3] h (RX v h0)) (hcat : (rest.map fun v => v.category).sum ≤ 8) (K : Go E Y d k n pc' ls (.int v :: rest) h0 Ψ) : Go E Y d k n pc ls (a3 :: a2 :: a1 :: a0 :: rest) h Ψ := by
  have q := go_callS (k := k) (n := n) (ls := ls) (rest := rest) (Ψ := Ψ) (As := [a0, a1, a2, a3]) hd hM hst hd1 hC rfl hcat (fun r1 h1 q => by rw [q.1, q.2]; exact K)
  rw [Nat.zero_add, Nat.zero_add] at q
  exact q
theorem go_cSi4 {a0 a1 a2 a3 : Value} (hd : Dc Y pc (.invokestatic idx) pc') (hM : MLk Y.1.cls idx Y' 4) (hst : Cond.static Y'.1 ∈ BW) (hd1 : 1 ≤ d) (hC : Calls E Y' (d - 1) 0 0 [a0, a1, a2, a3] h (RI P)) (hcat : (rest.map fun v => v.category).sum ≤ 8) (K : ∀ x h1, P x h1 → Go E Y d k n pc' ls (.int x :: rest) h1 Ψ) : Go E Y d k n pc ls (a3 :: a2 :: a1 :: a0 :: rest) h Ψ := by
  have q := go_callS (k := k) (n := n) (ls := ls) (rest := rest) (Ψ := Ψ) (As := [a0, a1, a2, a3]) hd hM hst hd1 hC rfl hcat (fun r1 h1 q => by obtain ⟨x, rfl, q⟩ := q; exact K x h1 q)
  rw [Nat.zero_add, Nat.zero_add] at q
  exact q
theorem go_cSv4 {a0 a1 a2 a3 : Value} (hd : Dc Y pc (.invokestatic idx) pc') (hM : MLk Y.1.cls idx Y' 4) (hst : Cond.static Y'.1 ∈ BW) (hd1 : 1 ≤ d) (hC : Calls E Y' (d - 1) 0 0 [a0, a1, a2, a3] h (RV PV)) (hcat : (rest.map fun v => v.category).sum ≤ 8) (K : ∀ h1, PV h1 → Go E Y d k n pc' ls rest h1 Ψ) : Go E Y d k n pc ls (a3 :: a2 :: a1 :: a0 :: rest) h Ψ := by
  have q := go_callS (k := k) (n := n) (ls := ls) (rest := rest) (Ψ := Ψ) (As := [a0, a1, a2, a3]) hd hM hst hd1 hC rfl hcat (fun r1 h1 q => by obtain ⟨rfl, q⟩ := q; exact K h1 q)
  rw [Nat.zero_add, Nat.zero_add] at q
  exact q
theorem go_cSx5 {a0 a1 a2 a3 a4 : Value} (hd : Dc Y pc (.invokestatic idx) pc') (hM : MLk Y.1.cls idx Y' 5) (hst : Cond.static Y'.1 ∈ BW) (hd1 : 1 ≤ d) (hC : Calls E Y' (d - 1) 0 0 [a0, a1, a2, a3, a4] h (RX v h0)) (hcat : (rest.map fun v => v.category).sum ≤ 8) (K : Go E Y d k n pc' ls (.int v :: rest) h0 Ψ) : Go E Y d k n pc ls (a4 :: a3 :: a2 :: a1 :: a0 :: rest) h Ψ := by
  have q := go_callS (k := k) (n := n) (ls := ls) (rest := rest) (Ψ := Ψ) (As := [a0, a1, a2, a3, a4]) hd hM hst hd1 hC rfl hcat (fun r1 h1 q => by rw [q.1, q.2]; exact K)
  rw [Nat.zero_add, Nat.zero_add] at q
  exact q
theorem go_cSi5 {a0 a1 a2 a3 a4 : Value} (hd : Dc Y pc (.invokestatic idx) pc') (hM : MLk Y.1.cls idx Y' 5) (hst : Cond.static Y'.1 ∈ BW) (hd1 : 1 ≤ d) (hC : Calls E Y' (d - 1) 0 0 [a0, a1, a2, a3, a4] h (RI P)) (hcat : (rest.map fun v => v.category).sum ≤ 8) (K : ∀ x h1, P x h1 → Go E Y d k n pc' ls (.int x :: rest) h1 Ψ) : Go E Y d k n pc ls (a4 :: a3 :: a2 :: a1 :: a0 :: rest) h Ψ := by
  have q := go_callS (k := k) (n := n) (ls := ls) (rest := rest) (Ψ := Ψ) (As := [a0, a1, a2, a3, a4]) hd hM hst hd1 hC rfl hcat (fun r1 h1 q => by obtain ⟨x, rfl, q⟩ := q; exact K x h1 q)
  rw [Nat.zero_add, Nat.zero_add] at q
  exact q
theorem go_cSv5 {a0 a1 a2 a3 a4 : Value} (hd : Dc Y pc (.invokestatic idx) pc') (hM : MLk Y.1.cls idx Y' 5) (hst : Cond.static Y'.1 ∈ BW) (hd1 : 1 ≤ d) (hC : Calls E Y' (d - 1) 0 0 [a0, a1, a2, a3, a4] h (RV PV)) (hcat : (rest.map fun v => v.category).sum ≤ 8) (K : ∀ h1, PV h1 → Go E Y d k n pc' ls rest h1 Ψ) : Go E Y d k n pc ls (a4 :: a3 :: a2 :: a1 :: a0 :: rest) h Ψ := by
  have q := go_callS (k := k) (n := n) (ls := ls) (rest := rest) (Ψ := Ψ) (As := [a0, a1, a2, a3, a4]) hd hM hst hd1 hC rfl hcat (fun r1 h1 q => by obtain ⟨rfl, q⟩ := q; exact K h1 q)
  rw [Nat.zero_add, Nat.zero_add] at q
  exact q
theorem go_cVx0 {b ci N : Nat} {T : u_T} {fs : List Value} (hd : Dc Y pc (.invokevirtual idx) pc') (hM : MLk Y.1.cls idx Y' 0) (hst : Cond.instanceMethod Y'.1 ∈ BW ∧ Cond.selects Y'.1.cls Y'.1 Y'.1 ∈ BW) (hd1 : 1 ≤ d) (hC : Calls E Y' (d - 1) 0 0 [.ref b] h (RX v h0)) (hrec : h[b]? = some (.inr (ci, fs))) (hci : vwCl[ci]? = some (Y'.1.cls, T, N)) (hcat : (rest.map fun v => v.category).sum ≤ 8) (K : Go E Y d k n pc' ls (.int v :: rest) h0 Ψ) : Go E Y d k n pc ls (.ref b :: rest) h Ψ := by
  have q := go_callV (k := k) (n := n) (ls := ls) (rest := rest) (Ψ := Ψ) (As := []) hd hM hst hd1 hC hrec hci rfl hcat (fun r1 h1 q => by rw [q.1, q.2]; exact K)
  rw [Nat.zero_add, Nat.zero_add] at q
  exact q
theorem go_cVi0 {b ci N : Nat} {T : u_T} {fs : List Value} (hd : Dc Y pc (.invokevirtual idx) pc') (hM : MLk Y.1.cls idx Y' 0) (hst : Cond.instanceMethod Y'.1 ∈ BW ∧ Cond.selects Y'.1.cls Y'.1 Y'.1 ∈ BW) (hd1 : 1 ≤ d) (hC : Calls E Y' (d - 1) 0 0 [.ref b] h (RI P)) (hrec : h[b]? = some (.inr (ci, fs))) (hci : vwCl[ci]? = some (Y'.1.cls, T, N)) (hcat : (rest.map fun v => v.category).sum ≤ 8) (K : ∀ x h1, P x h1 → Go E Y d k n pc' ls (.int x :: rest) h1 Ψ) : Go E Y d k n pc ls (.ref b :: rest) h Ψ := by
  have q := go_callV (k := k) (n := n) (ls := ls) (rest := rest) (Ψ := Ψ) (As := []) hd hM hst hd1 hC hrec hci rfl hcat (fun r1 h1 q => by obtain ⟨x, rfl, q⟩ := q; exact K x h1 q)
  rw [Nat.zero_add, Nat.zero_add] at q
  exact q
theorem go_cVv0 {b ci N : Nat} {T : u_T} {fs : List Value} (hd : Dc Y pc (.invokevirtual idx) pc') (hM : MLk Y.1.cls idx Y' 0) (hst : Cond.instanceMethod Y'.1 ∈ BW ∧ Cond.selects Y'.1.cls Y'.1 Y'.1 ∈ BW) (hd1 : 1 ≤ d) (hC : Calls E Y' (d - 1) 0 0 [.ref b] h (RV PV)) (hrec : h[b]? = some (.inr (ci, fs))) (hci : vwCl[ci]? = some (Y'.1.cls, T, N)) (hcat : (rest.map fun v => v.category).sum ≤ 8) (K : ∀ h1, PV h1 → Go E Y d k n pc' ls rest h1 Ψ) : Go E Y d k n pc ls (.ref b :: rest) h Ψ := by
  have q := go_callV (k := k) (n := n) (ls := ls) (rest := rest) (Ψ := Ψ) (As := []) hd hM hst hd1 hC hrec hci rfl hcat (fun r1 h1 q => by obtain ⟨rfl, q⟩ := q; exact K h1 q)
  rw [Nat.zero_add, Nat.zero_add] at q
  exact q
theorem go_cVx1 {a0 : Value} {b ci N : Nat} {T : u_T} {fs : List Value} (hd : Dc Y pc (.invokevirtual idx) pc') (hM : MLk Y.1.cls idx Y' 1) (hst : Cond.instanceMethod Y'.1 ∈ BW ∧ Cond.selects Y'.1.cls Y'.1 Y'.1 ∈ BW) (hd1 : 1 ≤ d) (hC : Calls E Y' (d - 1) 0 0 [.ref b, a0] h (RX v h0)) (hrec : h[b]? = some (.inr (ci, fs))) (hci : vwCl[ci]? = some (Y'.1.cls, T, N)) (hcat : (rest.map fun v => v.category).sum ≤ 8) (K : Go E Y d k n pc' ls (.int v :: rest) h0 Ψ) : Go E Y d k n pc ls (a0 :: .ref b :: rest) h Ψ := by
  have q := go_callV (k := k) (n := n) (ls := ls) (rest := rest) (Ψ := Ψ) (As := [a0]) hd hM hst hd1 hC hrec hci rfl hcat (fun r1 h1 q => by rw [q.1, q.2]; exact K)
  rw [Nat.zero_add, Nat.zero_add] at q
  exact q
theorem go_cVi1 {a0 : Value} {b ci N : Nat} {T : u_T} {fs : List Value} (hd : Dc Y pc (.invokevirtual idx) pc') (hM : MLk Y.1.cls idx Y' 1) (hst : Cond.instanceMethod Y'.1 ∈ BW ∧ Cond.selects Y'.1.cls Y'.1 Y'.1 ∈ BW) (hd1 : 1 ≤ d) (hC : Calls E Y' (d - 1) 0 0 [.ref b, a0] h (RI P)) (hrec : h[b]? = some (.inr (ci, fs))) (hci : vwCl[ci]? = some (Y'.1.cls, T, N)) (hcat : (rest.map fun v => v.category).sum ≤ 8) (K : ∀ x h1, P x h1 → Go E Y d k n pc' ls (.int x :: rest) h1 Ψ) : Go E Y d k n pc ls (a0 :: .ref b :: rest) h Ψ := by
  have q := go_callV (k := k) (n := n) (ls := ls) (rest := rest) (Ψ := Ψ) (As := [a0]) hd hM hst hd1 hC hrec hci rfl hcat (fun r1 h1 q => by obtain ⟨x, rfl, q⟩ := q; exact K x h1 q)
  rw [Nat.zero_add, Nat.zero_add] at q
  exact q
theorem go_cVv1 {a0 : Value} {b ci N : Nat} {T : u_T} {fs : List Value} (hd : Dc Y pc (.invokevirtual idx) pc') (hM : MLk Y.1.cls idx Y' 1) (hst : Cond.instanceMethod Y'.1 ∈ BW ∧ Cond.selects Y'.1.cls Y'.1 Y'.1 ∈ BW) (hd1 : 1 ≤ d) (hC : Calls E Y' (d - 1) 0 0 [.ref b, a0] h (RV PV)) (hrec : h[b]? = some (.inr (ci, fs))) (hci : vwCl[ci]? = some (Y'.1.cls, T, N)) (hcat : (rest.map fun v => v.category).sum ≤ 8) (K : ∀ h1, PV h1 → Go E Y d k n pc' ls rest h1 Ψ) : Go E Y d k n pc ls (a0 :: .ref b :: rest) h Ψ := by
  have q := go_callV (k := k) (n := n) (ls := ls) (rest := rest) (Ψ := Ψ) (As := [a0]) hd hM hst hd1 hC hrec hci rfl hcat (fun r1 h1 q => by obtain ⟨rfl, q⟩ := q; exact K h1 q)
  rw [Nat.zero_add, Nat.zero_add] at q
  exact q
theorem go_cVx2 {a0 a1 : Value} {b ci N : Nat} {T : u_T} {fs : List Value} (hd : Dc Y pc (.invokevirtual idx) pc') (hM : MLk Y.1.cls idx Y' 2) (hst : Cond.instanceMethod Y'.1 ∈ BW ∧ Cond.selects Y'.1.cls Y'.1 Y'.1 ∈ BW) (hd1 : 1 ≤ d) (hC : Calls E Y' (d - 1) 0 0 [.ref b, a0, a1] h (RX v h0)) (hrec : h[b]? = some (.inr (ci, fs))) (hci : vwCl[ci]? = some (Y'.1.cls, T, N)) (hcat : (rest.map fun v => v.category).sum ≤ 8) (K : Go E Y d k n pc' ls (.int v :: rest) h0 Ψ) : Go E Y d k n pc ls (a1 :: a0 :: .ref b :: rest) h Ψ := by
  have q := go_callV (k := k) (n := n) (ls := ls) (rest := rest) (Ψ := Ψ) (As := [a0, a1]) hd hM hst hd1 hC hrec hci rfl hcat (fun r1 h1 q => by rw [q.1, q.2]; exact K)
  rw [Nat.zero_add, Nat.zero_add] at q
  exact q
theorem go_cVi2 {a0 a1 : Value} {b ci N : Nat} {T : u_T} {fs : List Value} (hd : Dc Y pc (.invokevirtual idx) pc') (hM : MLk Y.1.cls idx Y' 2) (hst : Cond.instanceMethod Y'.1 ∈ BW ∧ Cond.selects Y'.1.cls Y'.1 Y'.1 ∈ BW) (hd1 : 1 ≤ d) (hC : Calls E Y' (d - 1) 0 0 [.ref b, a0, a1] h (RI P)) (hrec : h[b]? = some (.inr (ci, fs))) (hci : vwCl[ci]? = some (Y'.1.cls, T, N)) (hcat : (rest.map fun v => v.category).sum ≤ 8) (K : ∀ x h1, P x h1 → Go E Y d k n pc' ls (.int x :: rest) h1 Ψ) : Go E Y d k n pc ls (a1 :: a0 :: .ref b :: rest) h Ψ := by
  have q := go_callV (k := k) (n := n) (ls := ls) (rest := rest) (Ψ := Ψ) (As := [a0, a1]) hd hM hst hd1 hC hrec hci rfl hcat (fun r1 h1 q => by obtain ⟨x, rfl, q⟩ := q; exact K x h1 q)
  rw [Nat.zero_add, Nat.zero_add] at q
  exact q
theorem go_cVv2 {a0 a1 : Value} {b ci N : Nat} {T : u_T} {fs : List Value} (hd : Dc Y pc (.invokevirtual idx) pc') (hM : MLk Y.1.cls idx Y' 2) (hst : Cond.instanceMethod Y'.1 ∈ BW ∧ Cond.selects Y'.1.cls Y'.1 Y'.1 ∈ BW) (hd1 : 1 ≤ d) (hC : Calls E Y' (d - 1) 0 0 [.ref b, a0, a1] h (RV PV)) (hrec : h[b]? = some (.inr (ci, fs))) (hci : vwCl[ci]? = some (Y'.1.cls, T, N)) (hcat : (rest.map fun v => v.category).sum ≤ 8) (K : ∀ h1, PV h1 → Go E Y d k n pc' ls rest h1 Ψ) : Go E Y d k n pc ls (a1 :: a0 :: .ref b :: rest) h Ψ := by
  have q := go_callV (k := k) (n := n) (ls := ls) (rest := rest) (Ψ := Ψ) (As := [a0, a1]) hd hM hst hd1 hC hrec hci rfl hcat (fun r1 h1 q => by obtain ⟨rfl, q⟩ := q; exact K h1 q)
  rw [Nat.zero_add, Nat.zero_add] at q
  exact q
theorem go_cVx3 {a0 a1 a2 : Value} {b ci N : Nat} {T : u_T} {fs : List Value} (hd : Dc Y pc (.invokevirtual idx) pc') (hM : MLk Y.1.cls idx Y' 3) (hst : Cond.instanceMethod Y'.1 ∈ BW ∧ Cond.selects Y'.1.cls Y'.1 Y'.1 ∈ BW) (hd1 : 1 ≤ d) (hC : Calls E Y' (d - 1) 0 0 [.ref b, a0, a1, a2] h (RX v h0)) (hrec : h[b]? = some (.inr (ci, fs))) (hci : vwCl[ci]? = some (Y'.1.cls, T, N)) (hcat : (rest.map fun v => v.category).sum ≤ 8) (K : Go E Y d k n pc' ls (.int v :: rest) h0 Ψ) : Go E Y d k n pc ls (a2 :: a1 :: a0 :: .ref b :: rest) h Ψ := by
  have q := go_callV (k := k) (n := n) (ls := ls) (rest := rest) (Ψ := Ψ) (As := [a0, a1, a2]) hd hM hst hd1 hC hrec hci rfl hcat (fun r1 h1 q => by rw [q.1, q.2]; exact K)
  rw [Nat.zero_add, Nat.zero_add] at q
  exact q
theorem go_cVi3 {a0 a1 a2 : Value} {b ci N : Nat} {T : u_T} {fs : List Value} (hd : Dc Y pc (.invokevirtual idx) pc') (hM : MLk Y.1.cls idx Y' 3) (hst : Cond.instanceMethod Y'.1 ∈ BW ∧ Cond.selects Y'.1.cls Y'.1 Y'.1 ∈ BW) (hd1 : 1 ≤ d) (hC : Calls E Y' (d - 1) 0 0 [.ref b, a0, a1, a2] h (RI P)) (hrec : h[b]? = some (.inr (ci, fs))) (hci : vwCl[ci]? = some (Y'.1.cls, T, N)) (hcat : (rest.map fun v => v.category).sum ≤ 8) (K : ∀ x h1, P x h1 → Go E Y d k n pc' ls (.int x :: rest) h1 Ψ) : Go E Y d k n pc ls (a2 :: a1 :: a0 :: .ref b :: rest) h Ψ := by
  have q := go_callV (k := k) (n := n) (ls := ls) (rest := rest) (Ψ := Ψ) (As := [a0, a1, a2]) hd hM hst hd1 hC hrec hci rfl hcat (fun r1 h1 q => by obtain ⟨x, rfl, q⟩ := q; exact K x h1 q)
  rw [Nat.zero_add, Nat.zero_add] at q
  exact q
theorem go_cVv3 {a0 a1 a2 : Value} {b ci N : Nat} {T : u_T} {fs : List Value} (hd : Dc Y pc (.invokevirtual idx) pc') (hM : MLk Y.1.cls idx Y' 3) (hst : Cond.instanceMethod Y'.1 ∈ BW ∧ Cond.selects Y'.1.cls Y'.1 Y'.1 ∈ BW) (hd1 : 1 ≤ d) (hC : Calls E Y' (d - 1) 0 0 [.ref b, a0, a1, a2] h (RV PV)) (hrec : h[b]? = some (.inr (ci, fs))) (hci : vwCl[ci]? = some (Y'.1.cls, T, N)) (hcat : (rest.map fun v => v.category).sum ≤ 8) (K : ∀ h1, PV h1 → Go E Y d k n pc' ls rest h1 Ψ) : Go E Y d k n pc ls (a2 :: a1 :: a0 :: .ref b :: rest) h Ψ := by
  have q := go_callV (k := k) (n := n) (ls := ls) (rest := rest) (Ψ := Ψ) (As := [a0, a1, a2]) hd hM hst hd1 hC hrec hci rfl hcat (fun r1 h1 q => by obtain ⟨rfl, q⟩ := q; exact K h1 q)
  rw [Nat.zero_add, Nat.zero_add] at q
  exact q
theorem go_cVx4 {a0 a1 a2 a3 : Value} {b ci N : Nat} {T : u_T} {fs : List Value} (hd : Dc Y pc (.invokevirtual idx) pc') (hM : MLk Y.1.cls idx Y' 4) (hst : Cond.instanceMethod Y'.1 ∈ BW ∧ Cond.selects Y'.1.cls Y'.1 Y'.1 ∈ BW) (hd1 : 1 ≤ d) (hC : Calls E Y' (d - 1) 0 0 [.ref b, a0, a1, a2, a3] h (RX v h0)) (hrec : h[b]? = some (.inr (ci, fs))) (hci : vwCl[ci]? = some (Y'.1.cls, T, N)) (hcat : (rest.map fun v => v.category).sum ≤ 8) (K : Go E Y d k n pc' ls (.int v :: rest) h0 Ψ) : Go E Y d k n pc ls (a3 :: a2 :: a1 :: a0 :: .ref b :: rest) h Ψ := by
  have q := go_callV (k := k) (n := n) (ls := ls) (rest := rest) (Ψ := Ψ) (As := [a0, a1, a2, a3]) hd hM hst hd1 hC hrec hci rfl hcat (fun r1 h1 q => by rw [q.1, q.2]; exact K)
  rw [Nat.zero_add, Nat.zero_add] at q
  exact q
theorem go_cVi4 {a0 a1 a2 a3 : Value} {b ci N : Nat} {T : u_T} {fs : List Value} (hd : Dc Y pc (.invokevirtual idx) pc') (hM : MLk Y.1.cls idx Y' 4) (hst : Cond.instanceMethod Y'.1 ∈ BW ∧ Cond.selects Y'.1.cls Y'.1 Y'.1 ∈ BW) (hd1 : 1 ≤ d) (hC : Calls E Y' (d - 1) 0 0 [.ref b, a0, a1, a2, a3] h (RI P)) (hrec : h[b]? = some (.inr (ci, fs))) (hci : vwCl[ci]? = some (Y'.1.cls, T, N)) (hcat : (rest.map fun v => v.category).sum ≤ 8) (K : ∀ x h1, P x h1 → Go E Y d k n pc' ls (.int x :: rest) h1 Ψ) : Go E Y d k n pc ls (a3 :: a2 :: a1 :: a0 :: .ref b :: rest) h Ψ := by
  have q := go_callV (k := k) (n := n) (ls := ls) (rest := rest) (Ψ := Ψ) (As := [a0, a1, a2, a3]) hd hM hst hd1 hC hrec hci rfl hcat (fun r1 h1 q => by obtain ⟨x, rfl, q⟩ := q; exact K x h1 q)
  rw [Nat.zero_add, Nat.zero_add] at q
  exact q
theorem go_cVv4 {a0 a1 a2 a3 : Value} {b ci N : Nat} {T : u_T} {fs : List Value} (hd : Dc Y pc (.invokevirtual idx) pc') (hM : MLk Y.1.cls idx Y' 4) (hst : Cond.instanceMethod Y'.1 ∈ BW ∧ Cond.selects Y'.1.cls Y'.1 Y'.1 ∈ BW) (hd1 : 1 ≤ d) (hC : Calls E Y' (d - 1) 0 0 [.ref b, a0, a1, a2, a3] h (RV PV)) (hrec : h[b]? = some (.inr (ci, fs))) (hci : vwCl[ci]? = some (Y'.1.cls, T, N)) (hcat : (rest.map fun v => v.category).sum ≤ 8) (K : ∀ h1, PV h1 → Go E Y d k n pc' ls rest h1 Ψ) : Go E Y d k n pc ls (a3 :: a2 :: a1 :: a0 :: .ref b :: rest) h Ψ := by
  have q := go_callV (k := k) (n := n) (ls := ls) (rest := rest) (Ψ := Ψ) (As := [a0, a1, a2, a3]) hd hM hst hd1 hC hrec hci rfl hcat (fun r1 h1 q => by obtain ⟨rfl, q⟩ := q; exact K h1 q)
  rw [Nat.zero_add, Nat.zero_add] at q
  exact q
theorem go_cVx5 {a0 a1 a2 a3 a4 : Value} {b ci N : Nat} {T : u_T} {fs : List Value} (hd : Dc Y pc (.invokevirtual idx) pc') (hM : MLk Y.1.cls idx Y' 5) (hst : Cond.instanceMethod Y'.1 ∈ BW ∧ Cond.selects Y'.1.cls Y'.1 Y'.1 ∈ BW) (hd1 : 1 ≤ d) (hC : Calls E Y' (d - 1) 0 0 [.ref b, a0, a1, a2, a3, a4] h (RX v h0)) (hrec : h[b]? = some (.inr (ci, fs))) (hci : vwCl[ci]? = some (Y'.1.cls, T, N)) (hcat : (rest.map fun v => v.category).sum ≤ 8) (K : Go E Y d k n pc' ls (.int v :: rest) h0 Ψ) : Go E Y d k n pc ls (a4 :: a3 :: a2 :: a1 :: a0 :: .ref b :: rest) h Ψ := by
  have q := go_callV (k := k) (n := n) (ls := ls) (rest := rest) (Ψ := Ψ) (As := [a0, a1, a2, a3, a4]) hd hM hst hd1 hC hrec hci rfl hcat (fun r1 h1 q => by rw [q.1, q.2]; exact K)
  rw [Nat.zero_add, Nat.zero_add] at q
  exact q
theorem go_cVi5 {a0 a1 a2 a3 a4 : Value} {b ci N : Nat} {T : u_T} {fs : List Value} (hd : Dc Y pc (.invokevirtual idx) pc') (hM : MLk Y.1.cls idx Y' 5) (hst : Cond.instanceMethod Y'.1 ∈ BW ∧ Cond.selects Y'.1.cls Y'.1 Y'.1 ∈ BW) (hd1 : 1 ≤ d) (hC : Calls E Y' (d - 1) 0 0 [.ref b, a0, a1, a2, a3, a4] h (RI P)) (hrec : h[b]? = some (.inr (ci, fs))) (hci : vwCl[ci]? = some (Y'.1.cls, T, N)) (hcat : (rest.map fun v => v.category).sum ≤ 8) (K : ∀ x h1, P x h1 → Go E Y d k n pc' ls (.int x :: rest) h1 Ψ) : Go E Y d k n pc ls (a4 :: a3 :: a2 :: a1 :: a0 :: .ref b :: rest) h Ψ := by
  have q := go_callV (k := k) (n := n) (ls := ls) (rest := rest) (Ψ := Ψ) (As := [a0, a1, a2, a3, a4]) hd hM hst hd1 hC hrec hci rfl hcat (fun r1 h1 q => by obtain ⟨x, rfl, q⟩ := q; exact K x h1 q)
  rw [Nat.zero_add, Nat.zero_add] at q
  exact q
theorem go_cVv5 {a0 a1 a2 a3 a4 : Value} {b ci N : Nat} {T : u_T} {fs : List Value} (hd : Dc Y pc (.invokevirtual idx) pc') (hM : MLk Y.1.cls idx Y' 5) (hst : Cond.instanceMethod Y'.1 ∈ BW ∧ Cond.selects Y'.1.cls Y'.1 Y'.1 ∈ BW) (hd1 : 1 ≤ d) (hC : Calls E Y' (d - 1) 0 0 [.ref b, a0, a1, a2, a3, a4] h (RV PV)) (hrec : h[b]? = some (.inr (ci, fs))) (hci : vwCl[ci]? = some (Y'.1.cls, T, N)) (hcat : (rest.map fun v => v.category).sum ≤ 8) (K : ∀ h1, PV h1 → Go E Y d k n pc' ls rest h1 Ψ) : Go E Y d k n pc ls (a4 :: a3 :: a2 :: a1 :: a0 :: .ref b :: rest) h Ψ := by
  have q := go_callV (k := k) (n := n) (ls := ls) (rest := rest) (Ψ := Ψ) (As := [a0, a1, a2, a3, a4]) hd hM hst hd1 hC hrec hci rfl hcat (fun r1 h1 q => by obtain ⟨rfl, q⟩ := q; exact K h1 q)
  rw [Nat.zero_add, Nat.zero_add] at q
  exact q
theorem go_iincN_0 {j : Nat} {st : List Value} (hd : Dc Y pc (.iinc 0 1) pc') (K : Go E Y d k n pc' (some (.int (nI (j + 1))) :: ls) st h Ψ) : Go E Y d k n pc (some (.int (nI j)) :: ls) st h Ψ := go_iinc_0 hd (nI_1 j) K
theorem go_iincN_1 {b0 : Option Value} {j : Nat} {st : List Value} (hd : Dc Y pc (.iinc 1 1) pc') (K : Go E Y d k n pc' (b0 :: some (.int (nI (j + 1))) :: ls) st h Ψ) : Go E Y d k n pc (b0 :: some (.int (nI j)) :: ls) st h Ψ := go_iinc_1 hd (nI_1 j) K
theorem go_iincN_2 {b0 b1 : Option Value} {j : Nat} {st : List Value} (hd : Dc Y pc (.iinc 2 1) pc') (K : Go E Y d k n pc' (b0 :: b1 :: some (.int (nI (j + 1))) :: ls) st h Ψ) : Go E Y d k n pc (b0 :: b1 :: some (.int (nI j)) :: ls) st h Ψ := go_iinc_2 hd (nI_1 j) K
theorem go_iincN_3 {b0 b1 b2 : Option Value} {j : Nat} {st : List Value} (hd : Dc Y pc (.iinc 3 1) pc') (K : Go E Y d k n pc' (b0 :: b1 :: b2 :: some (.int (nI (j + 1))) :: ls) st h Ψ) : Go E Y d k n pc (b0 :: b1 :: b2 :: some (.int (nI j)) :: ls) st h Ψ := go_iinc_3 hd (nI_1 j) K
theorem go_iincN_4 {b0 b1 b2 b3 : Option Value} {j : Nat} {st : List Value} (hd : Dc Y pc (.iinc 4 1) pc') (K : Go E Y d k n pc' (b0 :: b1 :: b2 :: b3 :: some (.int (nI (j + 1))) :: ls) st h Ψ) : Go E Y d k n pc (b0 :: b1 :: b2 :: b3 :: some (.int (nI j)) :: ls) st h Ψ := go_iinc_4 hd (nI_1 j) K
theorem go_iincN_5 {b0 b1 b2 b3 b4 : Option Value} {j : Nat} {st : List Value} (hd : Dc Y pc (.iinc 5 1) pc') (K : Go E Y d k n pc' (b0 :: b1 :: b2 :: b3 :: b4 :: some (.int (nI (j + 1))) :: ls) st h Ψ) : Go E Y d k n pc (b0 :: b1 :: b2 :: b3 :: b4 :: some (.int (nI j)) :: ls) st h Ψ := go_iinc_5 hd (nI_1 j) K
theorem go_iincN_6 {b0 b1 b2 b3 b4 b5 : Option Value} {j : Nat} {st : List Value} (hd : Dc Y pc (.iinc 6 1) pc') (K : Go E Y d k n pc' (b0 :: b1 :: b2 :: b3 :: b4 :: b5 :: some (.int (nI (j + 1))) :: ls) st h Ψ) : Go E Y d k n pc (b0 :: b1 :: b2 :: b3 :: b4 :: b5 :: some (.int (nI j)) :: ls) st h Ψ := go_iinc_6 hd (nI_1 j) K
theorem go_iincN_7 {b0 b1 b2 b3 b4 b5 b6 : Option Value} {j : Nat} {st : List Value} (hd : Dc Y pc (.iinc 7 1) pc') (K : Go E Y d k n pc' (b0 :: b1 :: b2 :: b3 :: b4 :: b5 :: b6 :: some (.int (nI (j + 1))) :: ls) st h Ψ) : Go E Y d k n pc (b0 :: b1 :: b2 :: b3 :: b4 :: b5 :: b6 :: some (.int (nI j)) :: ls) st h Ψ := go_iinc_7 hd (nI_1 j) K
theorem go_iincN_8 {b0 b1 b2 b3 b4 b5 b6 b7 : Option Value} {j : Nat} {st : List Value} (hd : Dc Y pc (.iinc 8 1) pc') (K : Go E Y d k n pc' (b0 :: b1 :: b2 :: b3 :: b4 :: b5 :: b6 :: b7 :: some (.int (nI (j + 1))) :: ls) st h Ψ) : Go E Y d k n pc (b0 :: b1 :: b2 :: b3 :: b4 :: b5 :: b6 :: b7 :: some (.int (nI j)) :: ls) st h Ψ := go_iinc_8 hd (nI_1 j) K
theorem go_iincN_9 {b0 b1 b2 b3 b4 b5 b6 b7 b8 : Option Value} {j : Nat} {st : List Value} (hd : Dc Y pc (.iinc 9 1) pc') (K : Go E Y d k n pc' (b0 :: b1 :: b2 :: b3 :: b4 :: b5 :: b6 :: b7 :: b8 :: some (.int (nI (j + 1))) :: ls) st h Ψ) : Go E Y d k n pc (b0 :: b1 :: b2 :: b3 :: b4 :: b5 :: b6 :: b7 :: b8 :: some (.int (nI j)) :: ls) st h Ψ := go_iinc_9 hd (nI_1 j) K
theorem go_iincN_10 {b0 b1 b2 b3 b4 b5 b6 b7 b8 b9 : Option Value} {j : Nat} {st : List Value} (hd : Dc Y pc (.iinc 10 1) pc') (K : Go E Y d k n pc' (b0 :: b1 :: b2 :: b3 :: b4 :: b5 :: b6 :: b7 :: b8 :: b9 :: some (.int (nI (j + 1))) :: ls) st h Ψ) : Go E Y d k n pc (b0 :: b1 :: b2 :: b3 :: b4 :: b5 :: b6 :: b7 :: b8 :: b9 :: some (.int (nI j)) :: ls) st h Ψ := go_iinc_10 hd (nI_1 j) K
theorem go_iincN_11 {b0 b1 b2 b3 b4 b5 b6 b7 b8 b9 b10 : Option Value} {j : Nat} {st : List Value} (hd : Dc Y pc (.iinc 11 1) pc') (K : Go E Y d k n pc' (b0 :: b1 :: b2 :: b3 :: b4 :: b5 :: b6 :: b7 :: b8 :: b9 :: b10 :: some (.int (nI (j + 1))) :: ls) st h Ψ) : Go E Y d k n pc (b0 :: b1 :: b2 :: b3 :: b4 :: b5 :: b6 :: b7 :: b8 :: b9 :: b10 :: some (.int (nI j)) :: ls) st h Ψ := go_iinc_11 hd (nI_1 j) K
theorem go_iincN_12 {b0 b1 b2 b3 b4 b5 b6 b7 b8 b9 b10 b11 : Option Value} {j : Nat} {st : List Value} (hd : Dc Y pc (.iinc 12 1) pc') (K : Go E Y d k n pc' (b0 :: b1 :: b2 :: b3 :: b4 :: b5 :: b6 :: b7 :: b8 :: b9 :: b10 :: b11 :: some (.int (nI (j + 1))) :: ls) st h Ψ) : Go E Y d k n pc (b0 :: b1 :: b2 :: b3 :: b4 :: b5 :: b6 :: b7 :: b8 :: b9 :: b10 :: b11 :: some (.int (nI j)) :: ls) st h Ψ := go_iinc_12 hd (nI_1 j) K
theorem go_iincN_13 {b0 b1 b2 b3 b4 b5 b6 b7 b8 b9 b10 b11 b12 : Option Value} {j : Nat} {st : List Value} (hd : Dc Y pc (.iinc 13 1) pc') (K : Go E Y d k n pc' (b0 :: b1 :: b2 :: b3 :: b4 :: b5 :: b6 :: b7 :: b8 :: b9 :: b10 :: b11 :: b12 :: some (.int (nI (j + 1))) :: ls) st h Ψ) : Go E Y d k n pc (b0 :: b1 :: b2 :: b3 :: b4 :: b5 :: b6 :: b7 :: b8 :: b9 :: b10 :: b11 :: b12 :: some (.int (nI j)) :: ls) st h Ψ := go_iinc_13 hd (nI_1 j) K
end GCN
/-! numbers -/
theorem nI_z : (0 : Int32) = nI 0 := by decide
theorem nI_one : (1 : Int32) = nI 1 := by decide
theorem nI_cl {n : Nat} (h : n < 2 ^ 31) : (nI n).toNatClampNeg = n := nI_clamp h
theorem nI_le0 {n : Nat} : n < 2 ^ 31 → 0 ≤ nI n := nI_pos'

/-! bits of small numbers (rows of kit/laws/BITS.to-paste begin this) -/
theorem nx_and (a b : Nat) : nI a &&& nI b = nI (a &&& b) := by
  apply Int32.toBitVec_inj.1
  show BitVec.ofNat 32 a &&& BitVec.ofNat 32 b = BitVec.ofNat 32 (a &&& b)
  apply BitVec.eq_of_getLsbD_eq
  intro i hi
  simp [hi]
theorem nx_xor (a b : Nat) : nI a ^^^ nI b = nI (a ^^^ b) := by
  apply Int32.toBitVec_inj.1
  show BitVec.ofNat 32 a ^^^ BitVec.ofNat 32 b = BitVec.ofNat 32 (a ^^^ b)
  apply BitVec.eq_of_getLsbD_eq
  intro i hi
  simp [hi]
theorem nx_or (a b : Nat) : nI a ||| nI b = nI (a ||| b) := by
  apply Int32.toBitVec_inj.1
  show BitVec.ofNat 32 a ||| BitVec.ofNat 32 b = BitVec.ofNat 32 (a ||| b)
  apply BitVec.eq_of_getLsbD_eq
  intro i hi
  simp [hi]
theorem s_l : ∀ n, n < 32 → ((nI n &&& 31).toBitVec.smod 32).toNat = n := by decide +kernel
theorem s_u : ∀ n, n < 32 → (((nI n).toUInt32 &&& Int32.toUInt32 31).toBitVec % 32).toNat = n := by decide +kernel
theorem nx_shr {a k : Nat} (ha : a < 2 ^ 31) (hk : k < 32) : nI a >>> (nI k &&& 31) = nI (a / 2 ^ k) := pk_shrN ha _ k (s_l k hk)
theorem nx_shl {a k : Nat} (hk : k < 32) (h : a * 2 ^ k < 2 ^ 32) : nI a <<< (nI k &&& 31) = nI (a * 2 ^ k) := pk_shlN _ k (s_l k hk) h
theorem nx_ush {a k : Nat} (ha : a < 2 ^ 32) (hk : k < 32) : ((nI a).toUInt32 >>> ((nI k).toUInt32 &&& Int32.toUInt32 31)).toInt32 = nI (a / 2 ^ k) := pk_ushrN ha _ k (s_u k hk)
/-- the bit k of a number -/
theorem nx_bit {a k : Nat} (ha : a < 2 ^ 31) (hk : k < 32) : nI a >>> (nI k &&& 31) &&& nI 1 = nI (a / 2 ^ k % 2) := by
  rw [nx_shr ha hk, nx_and, Nat.and_one_is_mod]
theorem nI_eq0 {a : Nat} (ha : a < 2 ^ 31) : nI a = 0 ↔ a = 0 := by
  rw [nI_z, nI_eq ha (by decide)]
theorem nI_0le {a : Nat} (ha : a < 2 ^ 31) : 0 ≤ nI a := nI_pos' ha
theorem nI_0lt {a : Nat} (ha : a < 2 ^ 31) : 0 < nI a ↔ 0 < a := by
  rw [nI_z, nI_ltI (by decide) ha]
/-- a condition as an int -/
def bI (P : Prop) [Decidable P] : Int32 := if P then 1 else 0
theorem bI_t {P : Prop} [Decidable P] (h : P) : bI P = nI 1 := by rw [bI, if_pos h]; decide
theorem bI_f {P : Prop} [Decidable P] (h : ¬ P) : bI P = nI 0 := by rw [bI, if_neg h]; decide
theorem bI_eq0 {P : Prop} [Decidable P] : bI P = 0 ↔ ¬ P := by
  unfold bI
  by_cases h : P
  · simp [h]
  · simp [h]
theorem bI_nar {P : Prop} [Decidable P] : narrow .boolean (.int (bI P)) = .int (bI P) := by
  by_cases h : P
  · rw [bI_t h]; rfl
  · rw [bI_f h]; rfl
