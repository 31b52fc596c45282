/-! LONGS, MORE LOCALS, MORE ARGUMENTS -/
section GL
variable {E : AEnv} {Y : MI} {d k n pc pc' : Nat} {ls : List (Option Value)} {st : List Value} {h : List va_E} {Ψ : Pst}
theorem go_ldc2 {i : Nat} {v : Int64} (hd : Dc Y pc (.ldc2_w i) pc') (hv : Jvm.Cond.constantLong Y.1.cls i v ∈ BW) (K : Go E Y d k n pc' ls (.long v :: st) h Ψ) : Go E Y d k n pc ls st h Ψ := by
  intro p l e R s m args below meth c Q C ret H locs cells slots lsA hI hS hc hs hL
  obtain ⟨rfl, dd⟩ := hd.is (n := 2) rfl
  exact lv_ldc2 C.1 C.2.1 C.2.2.2.1 (C.2.2.2.2.1 _ hv) dd (K p l e R s m args below meth c Q C ret H locs cells slots lsA hI hS hc hs hL)
theorem go_lmul {x y : Int64} (hd : Dc Y pc (.lmul) pc') (K : Go E Y d k n pc' ls (.long (x * y) :: st) h Ψ) : Go E Y d k n pc ls (.long y :: .long x :: st) h Ψ := by
  intro p l e R s m args below meth c Q C ret H locs cells slots lsA hI hS hc hs hL
  obtain ⟨rfl, dd⟩ := hd.is (n := 0) rfl
  exact lv_lmul C.1 C.2.1 dd (K p l e R s m args below meth c Q C ret H locs cells slots lsA hI hS hc hs hL)
theorem go_ladd {x y : Int64} (hd : Dc Y pc (.ladd) pc') (K : Go E Y d k n pc' ls (.long (x + y) :: st) h Ψ) : Go E Y d k n pc ls (.long y :: .long x :: st) h Ψ := by
  intro p l e R s m args below meth c Q C ret H locs cells slots lsA hI hS hc hs hL
  obtain ⟨rfl, dd⟩ := hd.is (n := 0) rfl
  exact lv_ladd C.1 C.2.1 dd (K p l e R s m args below meth c Q C ret H locs cells slots lsA hI hS hc hs hL)
theorem go_i2l {x : Int32} (hd : Dc Y pc (.i2l) pc') (K : Go E Y d k n pc' ls (.long x.toInt64 :: st) h Ψ) : Go E Y d k n pc ls (.int x :: st) h Ψ := by
  intro p l e R s m args below meth c Q C ret H locs cells slots lsA hI hS hc hs hL
  obtain ⟨rfl, dd⟩ := hd.is (n := 0) rfl
  exact lv_i2l C.1 C.2.1 dd rfl (K p l e R s m args below meth c Q C ret H locs cells slots lsA hI hS hc hs hL)
theorem go_lcmp {x y : Int64} (hd : Dc Y pc (.lcmp) pc') (K : Go E Y d k n pc' ls (.int (lg_cmp x y) :: st) h Ψ) : Go E Y d k n pc ls (.long y :: .long x :: st) h Ψ := by
  intro p l e R s m args below meth c Q C ret H locs cells slots lsA hI hS hc hs hL
  obtain ⟨rfl, dd⟩ := hd.is (n := 0) rfl
  exact W.lcmp C.1 C.2.1 dd (K p l e R s m args below meth c Q C ret H locs cells slots lsA hI hS hc hs hL)
theorem go_lloadn {i : Fin 4} {x : Int64} (hd : Dc Y pc (.lload_n i) pc') (hi : ls[(i : Nat)]? = some (some (.long x))) (hj : ls[(i : Nat) + 1]? = some none) (K : Go E Y d k n pc' ls (.long x :: st) h Ψ) : Go E Y d k n pc ls st h Ψ := by
  intro p l e R s m args below meth c Q C ret H locs cells slots lsA hI hS hc hs hL
  obtain ⟨rfl, dd⟩ := hd.is (n := 0) rfl
  exact lv_lload_n C.1 C.2.1 dd rfl (hL.2.2.2 _ _ hi (Or.inr hj)) (K p l e R s m args below meth c Q C ret H locs cells slots lsA hI hS hc hs hL)
theorem go_lload {i : Nat} {x : Int64} (hd : Dc Y pc (.lload i) pc') (hi : ls[i]? = some (some (.long x))) (hj : ls[i + 1]? = some none) (K : Go E Y d k n pc' ls (.long x :: st) h Ψ) : Go E Y d k n pc ls st h Ψ := by
  intro p l e R s m args below meth c Q C ret H locs cells slots lsA hI hS hc hs hL
  obtain ⟨rfl, dd⟩ := hd.is (n := 1) rfl
  exact lv_lload C.1 C.2.1 dd (hL.2.2.2 _ _ hi (Or.inr hj)) (K p l e R s m args below meth c Q C ret H locs cells slots lsA hI hS hc hs hL)
theorem go_lstoren {i : Fin 4} {x : Int64} (hd : Dc Y pc (.lstore_n i) pc') (hi : (i : Nat) + 1 < ls.length) (K : Go E Y d k n pc' ((ls.set i (some (.long x))).set (i + 1) none) st h Ψ) : Go E Y d k n pc ls (.long x :: st) h Ψ := by
  intro p l e R s m args below meth c Q C ret H locs cells slots lsA hI hS hc hs hL
  obtain ⟨rfl, dd⟩ := hd.is (n := 0) rfl
  exact lv_lstore_n C.1 C.2.1 dd rfl hL.has (Nat.lt_of_lt_of_le hi hL.2.2.1) rfl (fun lsB hB => K p l e R s m args below meth c Q C ret H locs cells slots lsB hI hS hc hs (hL.put2 hB))
theorem go_lstore {i : Nat} {x : Int64} (hd : Dc Y pc (.lstore i) pc') (hi : i + 1 < ls.length) (K : Go E Y d k n pc' ((ls.set i (some (.long x))).set (i + 1) none) st h Ψ) : Go E Y d k n pc ls (.long x :: st) h Ψ := by
  intro p l e R s m args below meth c Q C ret H locs cells slots lsA hI hS hc hs hL
  obtain ⟨rfl, dd⟩ := hd.is (n := 1) rfl
  exact lv_lstore C.1 C.2.1 dd hL.has (Nat.lt_of_lt_of_le hi hL.2.2.1) rfl (fun lsB hB => K p l e R s m args below meth c Q C ret H locs cells slots lsB hI hS hc hs (hL.put2 hB))
theorem go_lret {x : Int64} (hd : Dc Y pc .lreturn pc') (hty : Y.2.2.2 = some .long) (hΨ : Ψ (some (.long x)) h) : Go E Y d k n pc ls [.long x] h Ψ := by
  intro p l e R s m args below meth c Q C ret H locs cells slots lsA hI hS hc hs hL
  obtain ⟨rfl, dd⟩ := hd.is (n := 0) rfl
  exact ret (some (.long x)) h H locs cells slots lsA pc hΨ (Or.inr (Or.inr ⟨x, rfl, hty⟩)) hI hS (by omega) (by omega) dd
theorem go_lload_1 {b0 : Option Value} {x : Int64} (hd : Dc Y pc (.lload_n 1) pc') (K : Go E Y d k n pc' (b0 :: some (.long x) :: none :: ls) (.long x :: st) h Ψ) : Go E Y d k n pc (b0 :: some (.long x) :: none :: ls) st h Ψ := go_lloadn hd rfl rfl K
theorem go_lstore_1 {b0 b1 b2 : Option Value} {x : Int64} (hd : Dc Y pc (.lstore_n 1) pc') (K : Go E Y d k n pc' (b0 :: some (.long x) :: none :: ls) st h Ψ) : Go E Y d k n pc (b0 :: b1 :: b2 :: ls) (.long x :: st) h Ψ := go_lstoren hd (by simp only [List.length_cons]; show 1 + 1 < _; omega) K
theorem go_lload_14 {b0 b1 b2 b3 b4 b5 b6 b7 b8 b9 b10 b11 b12 b13 : Option Value} {x : Int64} (hd : Dc Y pc (.lload 14) pc') (K : Go E Y d k n pc' (b0 :: b1 :: b2 :: b3 :: b4 :: b5 :: b6 :: b7 :: b8 :: b9 :: b10 :: b11 :: b12 :: b13 :: some (.long x) :: none :: ls) (.long x :: st) h Ψ) : Go E Y d k n pc (b0 :: b1 :: b2 :: b3 :: b4 :: b5 :: b6 :: b7 :: b8 :: b9 :: b10 :: b11 :: b12 :: b13 :: some (.long x) :: none :: ls) st h Ψ := go_lload hd rfl rfl K
theorem go_lstore_14 {b0 b1 b2 b3 b4 b5 b6 b7 b8 b9 b10 b11 b12 b13 b14 b15 : Option Value} {x : Int64} (hd : Dc Y pc (.lstore 14) pc') (K : Go E Y d k n pc' (b0 :: b1 :: b2 :: b3 :: b4 :: b5 :: b6 :: b7 :: b8 :: b9 :: b10 :: b11 :: b12 :: b13 :: some (.long x) :: none :: ls) st h Ψ) : Go E Y d k n pc (b0 :: b1 :: b2 :: b3 :: b4 :: b5 :: b6 :: b7 :: b8 :: b9 :: b10 :: b11 :: b12 :: b13 :: b14 :: b15 :: ls) (.long x :: st) h Ψ := go_lstore hd (by simp only [List.length_cons]; show 14 + 1 < _; omega) K
theorem go_iload_14 {b0 b1 b2 b3 b4 b5 b6 b7 b8 b9 b10 b11 b12 b13 : Option Value} {x : Int32} (hd : Dc Y pc (.iload 14) pc') (K : Go E Y d k n pc' (b0 :: b1 :: b2 :: b3 :: b4 :: b5 :: b6 :: b7 :: b8 :: b9 :: b10 :: b11 :: b12 :: b13 :: some (.int x) :: ls) (.int x :: st) h Ψ) : Go E Y d k n pc (b0 :: b1 :: b2 :: b3 :: b4 :: b5 :: b6 :: b7 :: b8 :: b9 :: b10 :: b11 :: b12 :: b13 :: some (.int x) :: ls) st h Ψ := go_iload hd rfl K
theorem go_istore_14 {b0 b1 b2 b3 b4 b5 b6 b7 b8 b9 b10 b11 b12 b13 b14 : Option Value} {x : Int32} (hd : Dc Y pc (.istore 14) pc') (K : Go E Y d k n pc' (b0 :: b1 :: b2 :: b3 :: b4 :: b5 :: b6 :: b7 :: b8 :: b9 :: b10 :: b11 :: b12 :: b13 :: some (.int x) :: ls) st h Ψ) : Go E Y d k n pc (b0 :: b1 :: b2 :: b3 :: b4 :: b5 :: b6 :: b7 :: b8 :: b9 :: b10 :: b11 :: b12 :: b13 :: b14 :: ls) (.int x :: st) h Ψ := go_istore hd (by simp only [List.length_cons]; show 14 < _; omega) K
theorem go_aload_14 {b0 b1 b2 b3 b4 b5 b6 b7 b8 b9 b10 b11 b12 b13 : Option Value} {x : Nat} (hd : Dc Y pc (.aload 14) pc') (K : Go E Y d k n pc' (b0 :: b1 :: b2 :: b3 :: b4 :: b5 :: b6 :: b7 :: b8 :: b9 :: b10 :: b11 :: b12 :: b13 :: some (.ref x) :: ls) (.ref x :: st) h Ψ) : Go E Y d k n pc (b0 :: b1 :: b2 :: b3 :: b4 :: b5 :: b6 :: b7 :: b8 :: b9 :: b10 :: b11 :: b12 :: b13 :: some (.ref x) :: ls) st h Ψ := go_aload hd rfl K
theorem go_astore_14 {b0 b1 b2 b3 b4 b5 b6 b7 b8 b9 b10 b11 b12 b13 b14 : Option Value} {x : Nat} (hd : Dc Y pc (.astore 14) pc') (K : Go E Y d k n pc' (b0 :: b1 :: b2 :: b3 :: b4 :: b5 :: b6 :: b7 :: b8 :: b9 :: b10 :: b11 :: b12 :: b13 :: some (.ref x) :: ls) st h Ψ) : Go E Y d k n pc (b0 :: b1 :: b2 :: b3 :: b4 :: b5 :: b6 :: b7 :: b8 :: b9 :: b10 :: b11 :: b12 :: b13 :: b14 :: ls) (.ref x :: st) h Ψ := go_astore hd (by simp only [List.length_cons]; show 14 < _; omega) K
theorem go_iincN_14 {b0 b1 b2 b3 b4 b5 b6 b7 b8 b9 b10 b11 b12 b13 : Option Value} {j : Nat} {st : List Value} (hd : Dc Y pc (.iinc 14 1) pc') (K : Go E Y d k n pc' (b0 :: b1 :: b2 :: b3 :: b4 :: b5 :: b6 :: b7 :: b8 :: b9 :: b10 :: b11 :: b12 :: b13 :: some (.int (nI (j + 1))) :: ls) st h Ψ) : Go E Y d k n pc (b0 :: b1 :: b2 :: b3 :: b4 :: b5 :: b6 :: b7 :: b8 :: b9 :: b10 :: b11 :: b12 :: b13 :: some (.int (nI j)) :: ls) st h Ψ := go_iinc hd rfl (nI_1 j) K
theorem go_iload_15 {b0 b1 b2 b3 b4 b5 b6 b7 b8 b9 b10 b11 b12 b13 b14 : Option Value} {x : Int32} (hd : Dc Y pc (.iload 15) pc') (K : Go E Y d k n pc' (b0 :: b1 :: b2 :: b3 :: b4 :: b5 :: b6 :: b7 :: b8 :: b9 :: b10 :: b11 :: b12 :: b13 :: b14 :: some (.int x) :: ls) (.int x :: st) h Ψ) : Go E Y d k n pc (b0 :: b1 :: b2 :: b3 :: b4 :: b5 :: b6 :: b7 :: b8 :: b9 :: b10 :: b11 :: b12 :: b13 :: b14 :: some (.int x) :: ls) st h Ψ := go_iload hd rfl K
theorem go_istore_15 {b0 b1 b2 b3 b4 b5 b6 b7 b8 b9 b10 b11 b12 b13 b14 b15 : Option Value} {x : Int32} (hd : Dc Y pc (.istore 15) pc') (K : Go E Y d k n pc' (b0 :: b1 :: b2 :: b3 :: b4 :: b5 :: b6 :: b7 :: b8 :: b9 :: b10 :: b11 :: b12 :: b13 :: b14 :: some (.int x) :: ls) st h Ψ) : Go E Y d k n pc (b0 :: b1 :: b2 :: b3 :: b4 :: b5 :: b6 :: b7 :: b8 :: b9 :: b10 :: b11 :: b12 :: b13 :: b14 :: b15 :: ls) (.int x :: st) h Ψ := go_istore hd (by simp only [List.length_cons]; show 15 < _; omega) K
theorem go_aload_15 {b0 b1 b2 b3 b4 b5 b6 b7 b8 b9 b10 b11 b12 b13 b14 : Option Value} {x : Nat} (hd : Dc Y pc (.aload 15) pc') (K : Go E Y d k n pc' (b0 :: b1 :: b2 :: b3 :: b4 :: b5 :: b6 :: b7 :: b8 :: b9 :: b10 :: b11 :: b12 :: b13 :: b14 :: some (.ref x) :: ls) (.ref x :: st) h Ψ) : Go E Y d k n pc (b0 :: b1 :: b2 :: b3 :: b4 :: b5 :: b6 :: b7 :: b8 :: b9 :: b10 :: b11 :: b12 :: b13 :: b14 :: some (.ref x) :: ls) st h Ψ := go_aload hd rfl K
theorem go_astore_15 {b0 b1 b2 b3 b4 b5 b6 b7 b8 b9 b10 b11 b12 b13 b14 b15 : Option Value} {x : Nat} (hd : Dc Y pc (.astore 15) pc') (K : Go E Y d k n pc' (b0 :: b1 :: b2 :: b3 :: b4 :: b5 :: b6 :: b7 :: b8 :: b9 :: b10 :: b11 :: b12 :: b13 :: b14 :: some (.ref x) :: ls) st h Ψ) : Go E Y d k n pc (b0 :: b1 :: b2 :: b3 :: b4 :: b5 :: b6 :: b7 :: b8 :: b9 :: b10 :: b11 :: b12 :: b13 :: b14 :: b15 :: ls) (.ref x :: st) h Ψ := go_astore hd (by simp only [List.length_cons]; show 15 < _; omega) K
theorem go_iincN_15 {b0 b1 b2 b3 b4 b5 b6 b7 b8 b9 b10 b11 b12 b13 b14 : Option Value} {j : Nat} {st : List Value} (hd : Dc Y pc (.iinc 15 1) pc') (K : Go E Y d k n pc' (b0 :: b1 :: b2 :: b3 :: b4 :: b5 :: b6 :: b7 :: b8 :: b9 :: b10 :: b11 :: b12 :: b13 :: b14 :: some (.int (nI (j + 1))) :: ls) st h Ψ) : Go E Y d k n pc (b0 :: b1 :: b2 :: b3 :: b4 :: b5 :: b6 :: b7 :: b8 :: b9 :: b10 :: b11 :: b12 :: b13 :: b14 :: some (.int (nI j)) :: ls) st h Ψ := go_iinc hd rfl (nI_1 j) K
theorem go_iload_16 {b0 b1 b2 b3 b4 b5 b6 b7 b8 b9 b10 b11 b12 b13 b14 b15 : Option Value} {x : Int32} (hd : Dc Y pc (.iload 16) pc') (K : Go E Y d k n pc' (b0 :: b1 :: b2 :: b3 :: b4 :: b5 :: b6 :: b7 :: b8 :: b9 :: b10 :: b11 :: b12 :: b13 :: b14 :: b15 :: some (.int x) :: ls) (.int x :: st) h Ψ) : Go E Y d k n pc (b0 :: b1 :: b2 :: b3 :: b4 :: b5 :: b6 :: b7 :: b8 :: b9 :: b10 :: b11 :: b12 :: b13 :: b14 :: b15 :: some (.int x) :: ls) st h Ψ := go_iload hd rfl K
theorem go_istore_16 {b0 b1 b2 b3 b4 b5 b6 b7 b8 b9 b10 b11 b12 b13 b14 b15 b16 : Option Value} {x : Int32} (hd : Dc Y pc (.istore 16) pc') (K : Go E Y d k n pc' (b0 :: b1 :: b2 :: b3 :: b4 :: b5 :: b6 :: b7 :: b8 :: b9 :: b10 :: b11 :: b12 :: b13 :: b14 :: b15 :: some (.int x) :: ls) st h Ψ) : Go E Y d k n pc (b0 :: b1 :: b2 :: b3 :: b4 :: b5 :: b6 :: b7 :: b8 :: b9 :: b10 :: b11 :: b12 :: b13 :: b14 :: b15 :: b16 :: ls) (.int x :: st) h Ψ := go_istore hd (by simp only [List.length_cons]; show 16 < _; omega) K
theorem go_aload_16 {b0 b1 b2 b3 b4 b5 b6 b7 b8 b9 b10 b11 b12 b13 b14 b15 : Option Value} {x : Nat} (hd : Dc Y pc (.aload 16) pc') (K : Go E Y d k n pc' (b0 :: b1 :: b2 :: b3 :: b4 :: b5 :: b6 :: b7 :: b8 :: b9 :: b10 :: b11 :: b12 :: b13 :: b14 :: b15 :: some (.ref x) :: ls) (.ref x :: st) h Ψ) : Go E Y d k n pc (b0 :: b1 :: b2 :: b3 :: b4 :: b5 :: b6 :: b7 :: b8 :: b9 :: b10 :: b11 :: b12 :: b13 :: b14 :: b15 :: some (.ref x) :: ls) st h Ψ := go_aload hd rfl K
theorem go_astore_16 {b0 b1 b2 b3 b4 b5 b6 b7 b8 b9 b10 b11 b12 b13 b14 b15 b16 : Option Value} {x : Nat} (hd : Dc Y pc (.astore 16) pc') (K : Go E Y d k n pc' (b0 :: b1 :: b2 :: b3 :: b4 :: b5 :: b6 :: b7 :: b8 :: b9 :: b10 :: b11 :: b12 :: b13 :: b14 :: b15 :: some (.ref x) :: ls) st h Ψ) : Go E Y d k n pc (b0 :: b1 :: b2 :: b3 :: b4 :: b5 :: b6 :: b7 :: b8 :: b9 :: b10 :: b11 :: b12 :: b13 :: b14 :: b15 :: b16 :: ls) (.ref x :: st) h Ψ := go_astore hd (by simp only [List.length_cons]; show 16 < _; omega) K
theorem go_iincN_16 {b0 b1 b2 b3 b4 b5 b6 b7 b8 b9 b10 b11 b12 b13 b14 b15 : Option Value} {j : Nat} {st : List Value} (hd : Dc Y pc (.iinc 16 1) pc') (K : Go E Y d k n pc' (b0 :: b1 :: b2 :: b3 :: b4 :: b5 :: b6 :: b7 :: b8 :: b9 :: b10 :: b11 :: b12 :: b13 :: b14 :: b15 :: some (.int (nI (j + 1))) :: ls) st h Ψ) : Go E Y d k n pc (b0 :: b1 :: b2 :: b3 :: b4 :: b5 :: b6 :: b7 :: b8 :: b9 :: b10 :: b11 :: b12 :: b13 :: b14 :: b15 :: some (.int (nI j)) :: ls) st h Ψ := go_iinc hd rfl (nI_1 j) K
def RLg (P : Int64 → List va_E → Prop) : Pst := fun r h => ∃ x, r = some (.long x) ∧ P x h
theorem RLg.mk {P : Int64 → List va_E → Prop} {x : Int64} {h : List va_E} (e : P x h) : RLg P (some (.long x)) h := ⟨x, rfl, e⟩
theorem go_cSl1 {idx : Nat} {Y' : MI} {rest : List Value} {P : Int64 → List va_E → Prop} {a0 : Value} (hd : Dc Y pc (.invokestatic idx) pc') (hM : MLk Y.1.cls idx Y' 1) (hst : Cond.static Y'.1 ∈ BW) (hd1 : 1 ≤ d) (hC : Calls E Y' (d - 1) 0 0 [a0] h (RLg P)) (hcat : (rest.map fun v => v.category).sum ≤ 8) (K : ∀ x h1, P x h1 → Go E Y d k n pc' ls (.long x :: rest) h1 Ψ) : Go E Y d k n pc ls (a0 :: rest) h Ψ := by
  have q := go_callS (k := k) (n := n) (ls := ls) (rest := rest) (Ψ := Ψ) (As := [a0]) hd hM hst hd1 hC rfl hcat (fun r1 h1 q => by obtain ⟨x, rfl, q⟩ := q; exact K x h1 q)
  rw [Nat.zero_add, Nat.zero_add] at q
  exact q
theorem go_cSi6 {idx : Nat} {Y' : MI} {rest : List Value} {P : Int32 → List va_E → Prop} {a0 a1 a2 a3 a4 a5 : Value} (hd : Dc Y pc (.invokestatic idx) pc') (hM : MLk Y.1.cls idx Y' 6) (hst : Cond.static Y'.1 ∈ BW) (hd1 : 1 ≤ d) (hC : Calls E Y' (d - 1) 0 0 [a0, a1, a2, a3, a4, a5] h (RI P)) (hcat : (rest.map fun v => v.category).sum ≤ 8) (K : ∀ x h1, P x h1 → Go E Y d k n pc' ls (.int x :: rest) h1 Ψ) : Go E Y d k n pc ls (a5 :: a4 :: a3 :: a2 :: a1 :: a0 :: rest) h Ψ := by
  have q := go_callS (k := k) (n := n) (ls := ls) (rest := rest) (Ψ := Ψ) (As := [a0, a1, a2, a3, a4, a5]) hd hM hst hd1 hC rfl hcat (fun r1 h1 q => by obtain ⟨x, rfl, q⟩ := q; exact K x h1 q)
  rw [Nat.zero_add, Nat.zero_add] at q
  exact q
theorem go_cSv6 {idx : Nat} {Y' : MI} {rest : List Value} {PV : List va_E → Prop} {a0 a1 a2 a3 a4 a5 : Value} (hd : Dc Y pc (.invokestatic idx) pc') (hM : MLk Y.1.cls idx Y' 6) (hst : Cond.static Y'.1 ∈ BW) (hd1 : 1 ≤ d) (hC : Calls E Y' (d - 1) 0 0 [a0, a1, a2, a3, a4, a5] h (RV PV)) (hcat : (rest.map fun v => v.category).sum ≤ 8) (K : ∀ h1, PV h1 → Go E Y d k n pc' ls rest h1 Ψ) : Go E Y d k n pc ls (a5 :: a4 :: a3 :: a2 :: a1 :: a0 :: rest) h Ψ := by
  have q := go_callS (k := k) (n := n) (ls := ls) (rest := rest) (Ψ := Ψ) (As := [a0, a1, a2, a3, a4, a5]) hd hM hst hd1 hC rfl hcat (fun r1 h1 q => by obtain ⟨rfl, q⟩ := q; exact K h1 q)
  rw [Nat.zero_add, Nat.zero_add] at q
  exact q
theorem go_cSi7 {idx : Nat} {Y' : MI} {rest : List Value} {P : Int32 → List va_E → Prop} {a0 a1 a2 a3 a4 a5 a6 : Value} (hd : Dc Y pc (.invokestatic idx) pc') (hM : MLk Y.1.cls idx Y' 7) (hst : Cond.static Y'.1 ∈ BW) (hd1 : 1 ≤ d) (hC : Calls E Y' (d - 1) 0 0 [a0, a1, a2, a3, a4, a5, a6] h (RI P)) (hcat : (rest.map fun v => v.category).sum ≤ 8) (K : ∀ x h1, P x h1 → Go E Y d k n pc' ls (.int x :: rest) h1 Ψ) : Go E Y d k n pc ls (a6 :: a5 :: a4 :: a3 :: a2 :: a1 :: a0 :: rest) h Ψ := by
  have q := go_callS (k := k) (n := n) (ls := ls) (rest := rest) (Ψ := Ψ) (As := [a0, a1, a2, a3, a4, a5, a6]) hd hM hst hd1 hC rfl hcat (fun r1 h1 q => by obtain ⟨x, rfl, q⟩ := q; exact K x h1 q)
  rw [Nat.zero_add, Nat.zero_add] at q
  exact q
theorem go_cSv7 {idx : Nat} {Y' : MI} {rest : List Value} {PV : List va_E → Prop} {a0 a1 a2 a3 a4 a5 a6 : Value} (hd : Dc Y pc (.invokestatic idx) pc') (hM : MLk Y.1.cls idx Y' 7) (hst : Cond.static Y'.1 ∈ BW) (hd1 : 1 ≤ d) (hC : Calls E Y' (d - 1) 0 0 [a0, a1, a2, a3, a4, a5, a6] h (RV PV)) (hcat : (rest.map fun v => v.category).sum ≤ 8) (K : ∀ h1, PV h1 → Go E Y d k n pc' ls rest h1 Ψ) : Go E Y d k n pc ls (a6 :: a5 :: a4 :: a3 :: a2 :: a1 :: a0 :: rest) h Ψ := by
  have q := go_callS (k := k) (n := n) (ls := ls) (rest := rest) (Ψ := Ψ) (As := [a0, a1, a2, a3, a4, a5, a6]) hd hM hst hd1 hC rfl hcat (fun r1 h1 q => by obtain ⟨rfl, q⟩ := q; exact K h1 q)
  rw [Nat.zero_add, Nat.zero_add] at q
  exact q
theorem go_cSi8 {idx : Nat} {Y' : MI} {rest : List Value} {P : Int32 → List va_E → Prop} {a0 a1 a2 a3 a4 a5 a6 a7 : Value} (hd : Dc Y pc (.invokestatic idx) pc') (hM : MLk Y.1.cls idx Y' 8) (hst : Cond.static Y'.1 ∈ BW) (hd1 : 1 ≤ d) (hC : Calls E Y' (d - 1) 0 0 [a0, a1, a2, a3, a4, a5, a6, a7] h (RI P)) (hcat : (rest.map fun v => v.category).sum ≤ 8) (K : ∀ x h1, P x h1 → Go E Y d k n pc' ls (.int x :: rest) h1 Ψ) : Go E Y d k n pc ls (a7 :: a6 :: a5 :: a4 :: a3 :: a2 :: a1 :: a0 :: rest) h Ψ := by
  have q := go_callS (k := k) (n := n) (ls := ls) (rest := rest) (Ψ := Ψ) (As := [a0, a1, a2, a3, a4, a5, a6, a7]) hd hM hst hd1 hC rfl hcat (fun r1 h1 q => by obtain ⟨x, rfl, q⟩ := q; exact K x h1 q)
  rw [Nat.zero_add, Nat.zero_add] at q
  exact q
theorem go_cSv8 {idx : Nat} {Y' : MI} {rest : List Value} {PV : List va_E → Prop} {a0 a1 a2 a3 a4 a5 a6 a7 : Value} (hd : Dc Y pc (.invokestatic idx) pc') (hM : MLk Y.1.cls idx Y' 8) (hst : Cond.static Y'.1 ∈ BW) (hd1 : 1 ≤ d) (hC : Calls E Y' (d - 1) 0 0 [a0, a1, a2, a3, a4, a5, a6, a7] h (RV PV)) (hcat : (rest.map fun v => v.category).sum ≤ 8) (K : ∀ h1, PV h1 → Go E Y d k n pc' ls rest h1 Ψ) : Go E Y d k n pc ls (a7 :: a6 :: a5 :: a4 :: a3 :: a2 :: a1 :: a0 :: rest) h Ψ := by
  have q := go_callS (k := k) (n := n) (ls := ls) (rest := rest) (Ψ := Ψ) (As := [a0, a1, a2, a3, a4, a5, a6, a7]) hd hM hst hd1 hC rfl hcat (fun r1 h1 q => by obtain ⟨rfl, q⟩ := q; exact K h1 q)
  rw [Nat.zero_add, Nat.zero_add] at q
  exact q
end GL
theorem lL_59 : Jvm.Cond.constantLong RL 59 11 ∈ BW := BW_mem (by decide +kernel) rfl
theorem lL_61 : Jvm.Cond.constantLong RL 61 31 ∈ BW := BW_mem (by decide +kernel) rfl
theorem lL_69 : Jvm.Cond.constantLong RL 69 37 ∈ BW := BW_mem (by decide +kernel) rfl
theorem lL_74 : Jvm.Cond.constantLong RL 74 41 ∈ BW := BW_mem (by decide +kernel) rfl
theorem kL_7 : Jvm.Cond.constant RL 7 40503 ∈ BW := BW_mem (by decide +kernel) rfl
theorem kL_8 : Jvm.Cond.constant RL 8 2890553 ∈ BW := BW_mem (by decide +kernel) rfl
theorem kL_9 : Jvm.Cond.constant RL 9 2147483647 ∈ BW := BW_mem (by decide +kernel) rfl
