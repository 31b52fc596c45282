/-! THE RULES OF Go: an instruction each. A rule takes the instruction (Dc), what it needs, and the goal behind it. -/
section GR
variable {E : AEnv} {Y : MI} {d k n pc pc' : Nat} {ls : List (Option Value)} {st : List Value} {h : List va_E} {Ψ : Pst}
theorem go_iconst {i : Int} {v : Int32} (hd : Dc Y pc (.iconst i) pc') (hv : Int32.ofInt i = v) (K : Go E Y d k n pc' ls (.int v :: st) h Ψ) : Go E Y d k n pc ls st h Ψ := by
  intro p l e R s m args below meth c Q C ret H locs cells slots lsA hI hS hc hs hL
  obtain ⟨rfl, dd⟩ := hd.is (n := 0) rfl
  exact lv_iconst C.1 C.2.1 dd hv (K p l e R s m args below meth c Q C ret H locs cells slots lsA hI hS hc hs hL)
theorem go_bipush {i : Int} {v : Int32} (hd : Dc Y pc (.bipush i) pc') (hv : (Int8.ofInt i).toInt32 = v) (K : Go E Y d k n pc' ls (.int v :: st) h Ψ) : Go E Y d k n pc ls st h Ψ := by
  intro p l e R s m args below meth c Q C ret H locs cells slots lsA hI hS hc hs hL
  obtain ⟨rfl, dd⟩ := hd.is (n := 1) rfl
  exact lv_bipush C.1 C.2.1 dd hv (K p l e R s m args below meth c Q C ret H locs cells slots lsA hI hS hc hs hL)
theorem go_sipush {i : Int} {v : Int32} (hd : Dc Y pc (.sipush i) pc') (hv : (Int16.ofInt i).toInt32 = v) (K : Go E Y d k n pc' ls (.int v :: st) h Ψ) : Go E Y d k n pc ls st h Ψ := by
  intro p l e R s m args below meth c Q C ret H locs cells slots lsA hI hS hc hs hL
  obtain ⟨rfl, dd⟩ := hd.is (n := 2) rfl
  exact lv_sipush C.1 C.2.1 dd hv (K p l e R s m args below meth c Q C ret H locs cells slots lsA hI hS hc hs hL)
theorem go_ldc {i : Nat} {v : Int32} (hd : Dc Y pc (.ldc i) pc') (hv : Jvm.Cond.constant Y.1.cls i v ∈ BW) (K : Go E Y d k n pc' ls (.int v :: st) h Ψ) : Go E Y d k n pc ls st h Ψ := by
  intro p l e R s m args below meth c Q C ret H locs cells slots lsA hI hS hc hs hL
  obtain ⟨rfl, dd⟩ := hd.is (n := 1) rfl
  exact lv_ldc C.1 C.2.1 C.2.2.2.1 (C.2.2.2.2.1 _ hv) dd (K p l e R s m args below meth c Q C ret H locs cells slots lsA hI hS hc hs hL)
theorem go_ldcw {i : Nat} {v : Int32} (hd : Dc Y pc (.ldc_w i) pc') (hv : Jvm.Cond.constant Y.1.cls i v ∈ BW) (K : Go E Y d k n pc' ls (.int v :: st) h Ψ) : Go E Y d k n pc ls st h Ψ := by
  intro p l e R s m args below meth c Q C ret H locs cells slots lsA hI hS hc hs hL
  obtain ⟨rfl, dd⟩ := hd.is (n := 2) rfl
  exact lv_ldcw C.1 C.2.1 C.2.2.2.1 (C.2.2.2.2.1 _ hv) dd (K p l e R s m args below meth c Q C ret H locs cells slots lsA hI hS hc hs hL)
theorem go_iadd {x y : Int32} (hd : Dc Y pc (.iadd) pc') (K : Go E Y d k n pc' ls (.int (x + y) :: st) h Ψ) : Go E Y d k n pc ls (.int y :: .int x :: st) h Ψ := by
  intro p l e R s m args below meth c Q C ret H locs cells slots lsA hI hS hc hs hL
  obtain ⟨rfl, dd⟩ := hd.is (n := 0) rfl
  exact lv_iadd C.1 C.2.1 dd (K p l e R s m args below meth c Q C ret H locs cells slots lsA hI hS hc hs hL)
theorem go_isub {x y : Int32} (hd : Dc Y pc (.isub) pc') (K : Go E Y d k n pc' ls (.int (x - y) :: st) h Ψ) : Go E Y d k n pc ls (.int y :: .int x :: st) h Ψ := by
  intro p l e R s m args below meth c Q C ret H locs cells slots lsA hI hS hc hs hL
  obtain ⟨rfl, dd⟩ := hd.is (n := 0) rfl
  exact lv_isub C.1 C.2.1 dd (K p l e R s m args below meth c Q C ret H locs cells slots lsA hI hS hc hs hL)
theorem go_imul {x y : Int32} (hd : Dc Y pc (.imul) pc') (K : Go E Y d k n pc' ls (.int (x * y) :: st) h Ψ) : Go E Y d k n pc ls (.int y :: .int x :: st) h Ψ := by
  intro p l e R s m args below meth c Q C ret H locs cells slots lsA hI hS hc hs hL
  obtain ⟨rfl, dd⟩ := hd.is (n := 0) rfl
  exact lv_imul C.1 C.2.1 dd (K p l e R s m args below meth c Q C ret H locs cells slots lsA hI hS hc hs hL)
theorem go_iand {x y : Int32} (hd : Dc Y pc (.iand) pc') (K : Go E Y d k n pc' ls (.int (x &&& y) :: st) h Ψ) : Go E Y d k n pc ls (.int y :: .int x :: st) h Ψ := by
  intro p l e R s m args below meth c Q C ret H locs cells slots lsA hI hS hc hs hL
  obtain ⟨rfl, dd⟩ := hd.is (n := 0) rfl
  exact lv_iand C.1 C.2.1 dd (K p l e R s m args below meth c Q C ret H locs cells slots lsA hI hS hc hs hL)
theorem go_ior {x y : Int32} (hd : Dc Y pc (.ior) pc') (K : Go E Y d k n pc' ls (.int (x ||| y) :: st) h Ψ) : Go E Y d k n pc ls (.int y :: .int x :: st) h Ψ := by
  intro p l e R s m args below meth c Q C ret H locs cells slots lsA hI hS hc hs hL
  obtain ⟨rfl, dd⟩ := hd.is (n := 0) rfl
  exact lv_ior C.1 C.2.1 dd (K p l e R s m args below meth c Q C ret H locs cells slots lsA hI hS hc hs hL)
theorem go_ixor {x y : Int32} (hd : Dc Y pc (.ixor) pc') (K : Go E Y d k n pc' ls (.int (x ^^^ y) :: st) h Ψ) : Go E Y d k n pc ls (.int y :: .int x :: st) h Ψ := by
  intro p l e R s m args below meth c Q C ret H locs cells slots lsA hI hS hc hs hL
  obtain ⟨rfl, dd⟩ := hd.is (n := 0) rfl
  exact lv_ixor C.1 C.2.1 dd (K p l e R s m args below meth c Q C ret H locs cells slots lsA hI hS hc hs hL)
theorem go_ishl {x y : Int32} (hd : Dc Y pc (.ishl) pc') (K : Go E Y d k n pc' ls (.int (x <<< (y &&& 31)) :: st) h Ψ) : Go E Y d k n pc ls (.int y :: .int x :: st) h Ψ := by
  intro p l e R s m args below meth c Q C ret H locs cells slots lsA hI hS hc hs hL
  obtain ⟨rfl, dd⟩ := hd.is (n := 0) rfl
  exact lv_ishl C.1 C.2.1 dd (K p l e R s m args below meth c Q C ret H locs cells slots lsA hI hS hc hs hL)
theorem go_ishr {x y : Int32} (hd : Dc Y pc (.ishr) pc') (K : Go E Y d k n pc' ls (.int (x >>> (y &&& 31)) :: st) h Ψ) : Go E Y d k n pc ls (.int y :: .int x :: st) h Ψ := by
  intro p l e R s m args below meth c Q C ret H locs cells slots lsA hI hS hc hs hL
  obtain ⟨rfl, dd⟩ := hd.is (n := 0) rfl
  exact lv_ishr C.1 C.2.1 dd (K p l e R s m args below meth c Q C ret H locs cells slots lsA hI hS hc hs hL)
theorem go_idiv {x y : Int32} (hd : Dc Y pc (.idiv) pc') (hy : ¬ y = 0) (K : Go E Y d k n pc' ls (.int (x / y) :: st) h Ψ) : Go E Y d k n pc ls (.int y :: .int x :: st) h Ψ := by
  intro p l e R s m args below meth c Q C ret H locs cells slots lsA hI hS hc hs hL
  obtain ⟨rfl, dd⟩ := hd.is (n := 0) rfl
  exact lv_idiv C.1 C.2.1 dd hy (K p l e R s m args below meth c Q C ret H locs cells slots lsA hI hS hc hs hL)
theorem go_irem {x y : Int32} (hd : Dc Y pc (.irem) pc') (hy : ¬ y = 0) (K : Go E Y d k n pc' ls (.int (x - x / y * y) :: st) h Ψ) : Go E Y d k n pc ls (.int y :: .int x :: st) h Ψ := by
  intro p l e R s m args below meth c Q C ret H locs cells slots lsA hI hS hc hs hL
  obtain ⟨rfl, dd⟩ := hd.is (n := 0) rfl
  exact lv_irem C.1 C.2.1 dd hy (K p l e R s m args below meth c Q C ret H locs cells slots lsA hI hS hc hs hL)
theorem go_ineg {x : Int32} (hd : Dc Y pc (.ineg) pc') (K : Go E Y d k n pc' ls (.int (-x) :: st) h Ψ) : Go E Y d k n pc ls (.int x :: st) h Ψ := by
  intro p l e R s m args below meth c Q C ret H locs cells slots lsA hI hS hc hs hL
  obtain ⟨rfl, dd⟩ := hd.is (n := 0) rfl
  exact lv_ineg C.1 C.2.1 dd (K p l e R s m args below meth c Q C ret H locs cells slots lsA hI hS hc hs hL)
theorem go_i2c {x : Int32} (hd : Dc Y pc (.i2c) pc') (K : Go E Y d k n pc' ls (.int (x.toUInt32 % 65536).toInt32 :: st) h Ψ) : Go E Y d k n pc ls (.int x :: st) h Ψ := by
  intro p l e R s m args below meth c Q C ret H locs cells slots lsA hI hS hc hs hL
  obtain ⟨rfl, dd⟩ := hd.is (n := 0) rfl
  exact lv_i2c C.1 C.2.1 dd rfl (K p l e R s m args below meth c Q C ret H locs cells slots lsA hI hS hc hs hL)
theorem go_iushr {x y : Int32} (hd : Dc Y pc (.iushr) pc') (K : Go E Y d k n pc' ls (.int (x.toUInt32 >>> (y.toUInt32 &&& Int32.toUInt32 31)).toInt32 :: st) h Ψ) : Go E Y d k n pc ls (.int y :: .int x :: st) h Ψ := by
  intro p l e R s m args below meth c Q C ret H locs cells slots lsA hI hS hc hs hL
  obtain ⟨rfl, dd⟩ := hd.is (n := 0) rfl
  exact lv_iushr C.1 C.2.1 dd rfl (K p l e R s m args below meth c Q C ret H locs cells slots lsA hI hS hc hs hL)
theorem go_dup {v : Value} (hd : Dc Y pc (.dup) pc') (hv : v.category = 1) (K : Go E Y d k n pc' ls (v :: v :: st) h Ψ) : Go E Y d k n pc ls (v :: st) h Ψ := by
  intro p l e R s m args below meth c Q C ret H locs cells slots lsA hI hS hc hs hL
  obtain ⟨rfl, dd⟩ := hd.is (n := 0) rfl
  exact lv_dup C.1 C.2.1 dd ((cV_cat v).trans hv) (K p l e R s m args below meth c Q C ret H locs cells slots lsA hI hS hc hs hL)
theorem go_pop {v : Value} (hd : Dc Y pc (.pop) pc') (hv : v.category = 1) (K : Go E Y d k n pc' ls st h Ψ) : Go E Y d k n pc ls (v :: st) h Ψ := by
  intro p l e R s m args below meth c Q C ret H locs cells slots lsA hI hS hc hs hL
  obtain ⟨rfl, dd⟩ := hd.is (n := 0) rfl
  exact lv_pop C.1 C.2.1 dd ((cV_cat v).trans hv) (K p l e R s m args below meth c Q C ret H locs cells slots lsA hI hS hc hs hL)
theorem go_dup2 {v w : Value} (hd : Dc Y pc (.dup2) pc') (hv : v.category = 1) (hw : w.category = 1) (K : Go E Y d k n pc' ls (v :: w :: v :: w :: st) h Ψ) : Go E Y d k n pc ls (v :: w :: st) h Ψ := by
  intro p l e R s m args below meth c Q C ret H locs cells slots lsA hI hS hc hs hL
  obtain ⟨rfl, dd⟩ := hd.is (n := 0) rfl
  exact lv_dup2_11 C.1 C.2.1 dd ((cV_cat v).trans hv) ((cV_cat w).trans hw) (K p l e R s m args below meth c Q C ret H locs cells slots lsA hI hS hc hs hL)
theorem go_if_eq {x : Int32} {off : Int} (tgt : Nat) (hd : Dc Y pc (.ifCond .eq off) pc') (ht : (pc : Int) + off = (tgt : Int)) (K1 : x = 0 → Go E Y d k n tgt ls st h Ψ) (K2 : ¬ x = 0 → Go E Y d k n pc' ls st h Ψ) : Go E Y d k n pc ls (.int x :: st) h Ψ := by
  intro p l e R s m args below meth c Q C ret H locs cells slots lsA hI hS hc hs hL
  obtain ⟨rfl, dd⟩ := hd.is (n := 2) rfl
  exact lv_if_eq C.1 C.2.1 dd ht (fun q => K1 q p l e R s m args below meth c Q C ret H locs cells slots lsA hI hS hc hs hL) (fun q => K2 q p l e R s m args below meth c Q C ret H locs cells slots lsA hI hS hc hs hL)
theorem go_if_ne {x : Int32} {off : Int} (tgt : Nat) (hd : Dc Y pc (.ifCond .ne off) pc') (ht : (pc : Int) + off = (tgt : Int)) (K1 : ¬ x = 0 → Go E Y d k n tgt ls st h Ψ) (K2 : x = 0 → Go E Y d k n pc' ls st h Ψ) : Go E Y d k n pc ls (.int x :: st) h Ψ := by
  intro p l e R s m args below meth c Q C ret H locs cells slots lsA hI hS hc hs hL
  obtain ⟨rfl, dd⟩ := hd.is (n := 2) rfl
  exact lv_if_ne C.1 C.2.1 dd ht (fun q => K1 q p l e R s m args below meth c Q C ret H locs cells slots lsA hI hS hc hs hL) (fun q => K2 q p l e R s m args below meth c Q C ret H locs cells slots lsA hI hS hc hs hL)
theorem go_if_lt {x : Int32} {off : Int} (tgt : Nat) (hd : Dc Y pc (.ifCond .lt off) pc') (ht : (pc : Int) + off = (tgt : Int)) (K1 : x < 0 → Go E Y d k n tgt ls st h Ψ) (K2 : ¬ x < 0 → Go E Y d k n pc' ls st h Ψ) : Go E Y d k n pc ls (.int x :: st) h Ψ := by
  intro p l e R s m args below meth c Q C ret H locs cells slots lsA hI hS hc hs hL
  obtain ⟨rfl, dd⟩ := hd.is (n := 2) rfl
  exact lv_if_lt C.1 C.2.1 dd ht (fun q => K1 q p l e R s m args below meth c Q C ret H locs cells slots lsA hI hS hc hs hL) (fun q => K2 q p l e R s m args below meth c Q C ret H locs cells slots lsA hI hS hc hs hL)
theorem go_if_ge {x : Int32} {off : Int} (tgt : Nat) (hd : Dc Y pc (.ifCond .ge off) pc') (ht : (pc : Int) + off = (tgt : Int)) (K1 : 0 ≤ x → Go E Y d k n tgt ls st h Ψ) (K2 : ¬ 0 ≤ x → Go E Y d k n pc' ls st h Ψ) : Go E Y d k n pc ls (.int x :: st) h Ψ := by
  intro p l e R s m args below meth c Q C ret H locs cells slots lsA hI hS hc hs hL
  obtain ⟨rfl, dd⟩ := hd.is (n := 2) rfl
  exact lv_if_ge C.1 C.2.1 dd ht (fun q => K1 q p l e R s m args below meth c Q C ret H locs cells slots lsA hI hS hc hs hL) (fun q => K2 q p l e R s m args below meth c Q C ret H locs cells slots lsA hI hS hc hs hL)
theorem go_if_gt {x : Int32} {off : Int} (tgt : Nat) (hd : Dc Y pc (.ifCond .gt off) pc') (ht : (pc : Int) + off = (tgt : Int)) (K1 : 0 < x → Go E Y d k n tgt ls st h Ψ) (K2 : ¬ 0 < x → Go E Y d k n pc' ls st h Ψ) : Go E Y d k n pc ls (.int x :: st) h Ψ := by
  intro p l e R s m args below meth c Q C ret H locs cells slots lsA hI hS hc hs hL
  obtain ⟨rfl, dd⟩ := hd.is (n := 2) rfl
  exact lv_if_gt C.1 C.2.1 dd ht (fun q => K1 q p l e R s m args below meth c Q C ret H locs cells slots lsA hI hS hc hs hL) (fun q => K2 q p l e R s m args below meth c Q C ret H locs cells slots lsA hI hS hc hs hL)
theorem go_if_le {x : Int32} {off : Int} (tgt : Nat) (hd : Dc Y pc (.ifCond .le off) pc') (ht : (pc : Int) + off = (tgt : Int)) (K1 : x ≤ 0 → Go E Y d k n tgt ls st h Ψ) (K2 : ¬ x ≤ 0 → Go E Y d k n pc' ls st h Ψ) : Go E Y d k n pc ls (.int x :: st) h Ψ := by
  intro p l e R s m args below meth c Q C ret H locs cells slots lsA hI hS hc hs hL
  obtain ⟨rfl, dd⟩ := hd.is (n := 2) rfl
  exact lv_if_le C.1 C.2.1 dd ht (fun q => K1 q p l e R s m args below meth c Q C ret H locs cells slots lsA hI hS hc hs hL) (fun q => K2 q p l e R s m args below meth c Q C ret H locs cells slots lsA hI hS hc hs hL)
theorem go_icmp_eq {x y : Int32} {off : Int} (tgt : Nat) (hd : Dc Y pc (.if_icmp .eq off) pc') (ht : (pc : Int) + off = (tgt : Int)) (K1 : x = y → Go E Y d k n tgt ls st h Ψ) (K2 : ¬ x = y → Go E Y d k n pc' ls st h Ψ) : Go E Y d k n pc ls (.int y :: .int x :: st) h Ψ := by
  intro p l e R s m args below meth c Q C ret H locs cells slots lsA hI hS hc hs hL
  obtain ⟨rfl, dd⟩ := hd.is (n := 2) rfl
  exact lv_icmp_eq C.1 C.2.1 dd ht (fun q => K1 q p l e R s m args below meth c Q C ret H locs cells slots lsA hI hS hc hs hL) (fun q => K2 q p l e R s m args below meth c Q C ret H locs cells slots lsA hI hS hc hs hL)
theorem go_icmp_ne {x y : Int32} {off : Int} (tgt : Nat) (hd : Dc Y pc (.if_icmp .ne off) pc') (ht : (pc : Int) + off = (tgt : Int)) (K1 : ¬ x = y → Go E Y d k n tgt ls st h Ψ) (K2 : x = y → Go E Y d k n pc' ls st h Ψ) : Go E Y d k n pc ls (.int y :: .int x :: st) h Ψ := by
  intro p l e R s m args below meth c Q C ret H locs cells slots lsA hI hS hc hs hL
  obtain ⟨rfl, dd⟩ := hd.is (n := 2) rfl
  exact lv_icmp_ne C.1 C.2.1 dd ht (fun q => K1 q p l e R s m args below meth c Q C ret H locs cells slots lsA hI hS hc hs hL) (fun q => K2 q p l e R s m args below meth c Q C ret H locs cells slots lsA hI hS hc hs hL)
theorem go_icmp_lt {x y : Int32} {off : Int} (tgt : Nat) (hd : Dc Y pc (.if_icmp .lt off) pc') (ht : (pc : Int) + off = (tgt : Int)) (K1 : x < y → Go E Y d k n tgt ls st h Ψ) (K2 : ¬ x < y → Go E Y d k n pc' ls st h Ψ) : Go E Y d k n pc ls (.int y :: .int x :: st) h Ψ := by
  intro p l e R s m args below meth c Q C ret H locs cells slots lsA hI hS hc hs hL
  obtain ⟨rfl, dd⟩ := hd.is (n := 2) rfl
  exact lv_icmp_lt C.1 C.2.1 dd ht (fun q => K1 q p l e R s m args below meth c Q C ret H locs cells slots lsA hI hS hc hs hL) (fun q => K2 q p l e R s m args below meth c Q C ret H locs cells slots lsA hI hS hc hs hL)
theorem go_icmp_ge {x y : Int32} {off : Int} (tgt : Nat) (hd : Dc Y pc (.if_icmp .ge off) pc') (ht : (pc : Int) + off = (tgt : Int)) (K1 : y ≤ x → Go E Y d k n tgt ls st h Ψ) (K2 : ¬ y ≤ x → Go E Y d k n pc' ls st h Ψ) : Go E Y d k n pc ls (.int y :: .int x :: st) h Ψ := by
  intro p l e R s m args below meth c Q C ret H locs cells slots lsA hI hS hc hs hL
  obtain ⟨rfl, dd⟩ := hd.is (n := 2) rfl
  exact lv_icmp_ge C.1 C.2.1 dd ht (fun q => K1 q p l e R s m args below meth c Q C ret H locs cells slots lsA hI hS hc hs hL) (fun q => K2 q p l e R s m args below meth c Q C ret H locs cells slots lsA hI hS hc hs hL)
theorem go_icmp_gt {x y : Int32} {off : Int} (tgt : Nat) (hd : Dc Y pc (.if_icmp .gt off) pc') (ht : (pc : Int) + off = (tgt : Int)) (K1 : y < x → Go E Y d k n tgt ls st h Ψ) (K2 : ¬ y < x → Go E Y d k n pc' ls st h Ψ) : Go E Y d k n pc ls (.int y :: .int x :: st) h Ψ := by
  intro p l e R s m args below meth c Q C ret H locs cells slots lsA hI hS hc hs hL
  obtain ⟨rfl, dd⟩ := hd.is (n := 2) rfl
  exact lv_icmp_gt C.1 C.2.1 dd ht (fun q => K1 q p l e R s m args below meth c Q C ret H locs cells slots lsA hI hS hc hs hL) (fun q => K2 q p l e R s m args below meth c Q C ret H locs cells slots lsA hI hS hc hs hL)
theorem go_icmp_le {x y : Int32} {off : Int} (tgt : Nat) (hd : Dc Y pc (.if_icmp .le off) pc') (ht : (pc : Int) + off = (tgt : Int)) (K1 : x ≤ y → Go E Y d k n tgt ls st h Ψ) (K2 : ¬ x ≤ y → Go E Y d k n pc' ls st h Ψ) : Go E Y d k n pc ls (.int y :: .int x :: st) h Ψ := by
  intro p l e R s m args below meth c Q C ret H locs cells slots lsA hI hS hc hs hL
  obtain ⟨rfl, dd⟩ := hd.is (n := 2) rfl
  exact lv_icmp_le C.1 C.2.1 dd ht (fun q => K1 q p l e R s m args below meth c Q C ret H locs cells slots lsA hI hS hc hs hL) (fun q => K2 q p l e R s m args below meth c Q C ret H locs cells slots lsA hI hS hc hs hL)
theorem go_goto {off : Int} (tgt : Nat) (hd : Dc Y pc (.goto off) pc') (ht : (pc : Int) + off = (tgt : Int)) (K : Go E Y d k n tgt ls st h Ψ) : Go E Y d k n pc ls st h Ψ := by
  intro p l e R s m args below meth c Q C ret H locs cells slots lsA hI hS hc hs hL
  obtain ⟨rfl, dd⟩ := hd.is (n := 2) rfl
  exact lv_goto C.1 C.2.1 dd ht (K p l e R s m args below meth c Q C ret H locs cells slots lsA hI hS hc hs hL)
theorem go_ifnull {off : Int} {a : Nat} (hd : Dc Y pc (.ifnull off) pc') (K : Go E Y d k n pc' ls st h Ψ) : Go E Y d k n pc ls (.ref a :: st) h Ψ := by
  intro p l e R s m args below meth c Q C ret H locs cells slots lsA hI hS hc hs hL
  obtain ⟨rfl, dd⟩ := hd.is (n := 2) rfl
  exact lv_ifnull C.1 C.2.1 dd (K p l e R s m args below meth c Q C ret H locs cells slots lsA hI hS hc hs hL)
theorem go_ifnonnull {off : Int} {a : Nat} (tgt : Nat) (hd : Dc Y pc (.ifnonnull off) pc') (ht : (pc : Int) + off = (tgt : Int)) (K : Go E Y d k n tgt ls st h Ψ) : Go E Y d k n pc ls (.ref a :: st) h Ψ := by
  intro p l e R s m args below meth c Q C ret H locs cells slots lsA hI hS hc hs hL
  obtain ⟨rfl, dd⟩ := hd.is (n := 2) rfl
  exact lv_ifnonnull C.1 C.2.1 dd ht (K p l e R s m args below meth c Q C ret H locs cells slots lsA hI hS hc hs hL)
theorem go_tableOut {dflt lo hi : Int} {offs : Array Int} {x : Int32} (tgt : Nat) (hd : Dc Y pc (.tableswitch dflt lo hi offs) pc') (h1 : x.toInt < lo ∨ hi < x.toInt) (ht : (pc : Int) + dflt = (tgt : Int)) (K : Go E Y d k n tgt ls st h Ψ) : Go E Y d k n pc ls (.int x :: st) h Ψ := by
  intro p l e R s m args below meth c Q C ret H locs cells slots lsA hI hS hc hs hL
  exact lv_tableOut C.1 C.2.1 hd.1 h1 ht (K p l e R s m args below meth c Q C ret H locs cells slots lsA hI hS hc hs hL)
theorem go_tableIn {dflt lo hi : Int} {offs : Array Int} {x : Int32} {off : Int} (tgt : Nat) (hd : Dc Y pc (.tableswitch dflt lo hi offs) pc') (h1 : ¬ x.toInt < lo) (h2 : ¬ hi < x.toInt) (ho : offs[(x.toInt - lo).toNat]? = some off) (ht : (pc : Int) + off = (tgt : Int)) (K : Go E Y d k n tgt ls st h Ψ) : Go E Y d k n pc ls (.int x :: st) h Ψ := by
  intro p l e R s m args below meth c Q C ret H locs cells slots lsA hI hS hc hs hL
  exact lv_tableIn C.1 C.2.1 hd.1 h1 h2 ho ht (K p l e R s m args below meth c Q C ret H locs cells slots lsA hI hS hc hs hL)
theorem go_lookup {dflt : Int} {ps : Array (Int × Int)} {x : Int32} {off : Int} (tgt : Nat) (hd : Dc Y pc (.lookupswitch dflt ps) pc') (hp : (ps.toList.zip (ps.toList.drop 1)).all (fun (a, next) => a.1 < next.1) = true) (ho : Op.lookupswitch.offset ps.toList dflt x.toInt = off) (ht : (pc : Int) + off = (tgt : Int)) (K : Go E Y d k n tgt ls st h Ψ) : Go E Y d k n pc ls (.int x :: st) h Ψ := by
  intro p l e R s m args below meth c Q C ret H locs cells slots lsA hI hS hc hs hL
  exact lv_lookup C.1 C.2.1 hd.1 hp ho ht (K p l e R s m args below meth c Q C ret H locs cells slots lsA hI hS hc hs hL)
theorem LV.get {nL i : Nat} {lsA : Array Slot} {v : Value} (hL : LV E nL ls lsA) (hv : v.category = 1) (hi : ls[i]? = some (some v)) : lsA[i]? = some (.val (cV E v)) := hL.2.2.2 i v hi (Or.inl hv)
theorem LV.has {nL : Nat} {lsA : Array Slot} (hL : LV E nL ls lsA) : lv_has lsA nL ((List.range ls.length).filterMap (fun i => match ls[i]? with | some (some v) => if v.category = 1 ∨ ls[i + 1]? = some none then some (i, cV E v) else none | _ => none)) := by
  obtain ⟨h1, h2, h3, h4⟩ := hL
  refine ⟨h1, h2, fun q hq => ?_⟩
  obtain ⟨i, -, hi⟩ := List.mem_filterMap.mp hq
  split at hi
  · rename_i v hv
    split at hi
    · rename_i hc
      cases hi
      exact h4 i v hv hc
    · cases hi
  · cases hi
theorem LV.put {nL i : Nat} {lsA lsB : Array Slot} {v : Value} (hL : LV E nL ls lsA) (hv : v.category = 1)
    (hB : lv_has lsB nL ((i, cV E v) :: ((List.range ls.length).filterMap (fun i => match ls[i]? with | some (some v) => if v.category = 1 ∨ ls[i + 1]? = some none then some (i, cV E v) else none | _ => none)).filter (fun q => !(q.1 == i) && !(q.1 + 1 == i && q.2.category == 2)))) : LV E nL (ls.set i (some v)) lsB := by
  obtain ⟨h1, h2, h3, h4⟩ := hL
  obtain ⟨b1, b2, b3⟩ := hB
  refine ⟨b1, b2, by rw [List.length_set]; exact h3, fun j w hj hc => ?_⟩
  rw [List.getElem?_set] at hj
  by_cases hij : i = j
  · subst hij
    rw [if_pos rfl] at hj
    split at hj
    · cases hj
      exact b3 (i, cV E v) List.mem_cons_self
    · cases hj
  · rw [if_neg hij] at hj
    have hjl := (List.getElem?_eq_some_iff.mp hj).1
    have hc2 : w.category = 1 ∨ (i ≠ j + 1 ∧ ls[j + 1]? = some none) := by
      rcases hc with hc | hc
      · exact Or.inl hc
      · rw [List.getElem?_set] at hc
        by_cases hij2 : i = j + 1
        · rw [if_pos hij2] at hc
          split at hc <;> cases hc
        · rw [if_neg hij2] at hc
          exact Or.inr ⟨hij2, hc⟩
    have hm : (j, cV E w) ∈ (List.range ls.length).filterMap (fun i => match ls[i]? with | some (some v) => if v.category = 1 ∨ ls[i + 1]? = some none then some (i, cV E v) else none | _ => none) := by
      refine List.mem_filterMap.mpr ⟨j, List.mem_range.mpr hjl, ?_⟩
      rw [hj]
      exact if_pos (hc2.imp id (fun q => q.2))
    refine b3 (j, cV E w) (List.mem_cons_of_mem _ (List.mem_filter.mpr ⟨hm, ?_⟩))
    have e1 : (j == i) = false := by simp; exact fun h => hij h.symm
    rcases hc2 with hc2 | hc2
    · have e2 : ((cV E w).category == 2) = false := by rw [cV_cat, hc2]; rfl
      simp [e1, e2]
    · have e2 : (j + 1 == i) = false := by simp; exact fun h => hc2.1 h.symm
      simp [e1, e2]
theorem LV.put2 {nL i : Nat} {lsA lsB : Array Slot} {x : Int64} (hL : LV E nL ls lsA)
    (hB : lv_has lsB nL ((i, Value.long x) :: ((List.range ls.length).filterMap (fun i => match ls[i]? with | some (some v) => if v.category = 1 ∨ ls[i + 1]? = some none then some (i, cV E v) else none | _ => none)).filter (fun q => !(q.1 == i) && (!(q.1 == i + 1) && !(q.1 + 1 == i && q.2.category == 2))))) : LV E nL ((ls.set i (some (.long x))).set (i + 1) none) lsB := by
  obtain ⟨h1, h2, h3, h4⟩ := hL
  obtain ⟨b1, b2, b3⟩ := hB
  refine ⟨b1, b2, by rw [List.length_set, List.length_set]; exact h3, fun j w hj hc => ?_⟩
  rw [List.getElem?_set] at hj
  by_cases hi1 : i + 1 = j
  · rw [if_pos hi1] at hj
    split at hj <;> cases hj
  rw [if_neg hi1, List.getElem?_set] at hj
  by_cases hij : i = j
  · subst hij
    rw [if_pos rfl] at hj
    split at hj
    · cases hj
      exact b3 (i, Value.long x) List.mem_cons_self
    · cases hj
  · rw [if_neg hij] at hj
    have hjl := (List.getElem?_eq_some_iff.mp hj).1
    have hc2 : w.category = 1 ∨ (i ≠ j + 1 ∧ ls[j + 1]? = some none) := by
      rcases hc with hc | hc
      · exact Or.inl hc
      · rw [List.getElem?_set, if_neg (by omega), List.getElem?_set] at hc
        by_cases hij2 : i = j + 1
        · rw [if_pos hij2] at hc
          split at hc <;> cases hc
        · rw [if_neg hij2] at hc
          exact Or.inr ⟨hij2, hc⟩
    have hm : (j, cV E w) ∈ (List.range ls.length).filterMap (fun i => match ls[i]? with | some (some v) => if v.category = 1 ∨ ls[i + 1]? = some none then some (i, cV E v) else none | _ => none) := by
      refine List.mem_filterMap.mpr ⟨j, List.mem_range.mpr hjl, ?_⟩
      rw [hj]
      exact if_pos (hc2.imp id (fun q => q.2))
    refine b3 (j, cV E w) (List.mem_cons_of_mem _ (List.mem_filter.mpr ⟨hm, ?_⟩))
    have e1 : (j == i) = false := by simp; exact fun h => hij h.symm
    have e3 : (j == i + 1) = false := by simp; exact fun h => hi1 h.symm
    rcases hc2 with hc2 | hc2
    · have e2 : ((cV E w).category == 2) = false := by rw [cV_cat, hc2]; rfl
      simp [e1, e2, e3]
    · have e2 : (j + 1 == i) = false := by simp; exact fun h => hc2.1 h.symm
      simp [e1, e2, e3]
theorem go_iloadn {i : Fin 4} {x : Int32} (hd : Dc Y pc (.iload_n i) pc') (hi : ls[(i : Nat)]? = some (some (.int x))) (K : Go E Y d k n pc' ls (.int x :: st) h Ψ) : Go E Y d k n pc ls st h Ψ := by
  intro p l e R s m args below meth c Q C ret H locs cells slots lsA hI hS hc hs hL
  obtain ⟨rfl, dd⟩ := hd.is (n := 0) rfl
  exact lv_iload_n C.1 C.2.1 dd rfl (hL.get rfl hi) (K p l e R s m args below meth c Q C ret H locs cells slots lsA hI hS hc hs hL)
theorem go_iload {i : Nat} {x : Int32} (hd : Dc Y pc (.iload i) pc') (hi : ls[i]? = some (some (.int x))) (K : Go E Y d k n pc' ls (.int x :: st) h Ψ) : Go E Y d k n pc ls st h Ψ := by
  intro p l e R s m args below meth c Q C ret H locs cells slots lsA hI hS hc hs hL
  obtain ⟨rfl, dd⟩ := hd.is (n := 1) rfl
  exact lv_iload C.1 C.2.1 dd (hL.get rfl hi) (K p l e R s m args below meth c Q C ret H locs cells slots lsA hI hS hc hs hL)
theorem go_istoren {i : Fin 4} {x : Int32} (hd : Dc Y pc (.istore_n i) pc') (hi : (i : Nat) < ls.length) (K : Go E Y d k n pc' (ls.set i (some (.int x))) st h Ψ) : Go E Y d k n pc ls (.int x :: st) h Ψ := by
  intro p l e R s m args below meth c Q C ret H locs cells slots lsA hI hS hc hs hL
  obtain ⟨rfl, dd⟩ := hd.is (n := 0) rfl
  exact lv_istore_n C.1 C.2.1 dd rfl hL.has (Nat.lt_of_lt_of_le hi hL.2.2.1) rfl (fun lsB hB => K p l e R s m args below meth c Q C ret H locs cells slots lsB hI hS hc hs (hL.put (v := .int x) rfl hB))
theorem go_istore {i : Nat} {x : Int32} (hd : Dc Y pc (.istore i) pc') (hi : i < ls.length) (K : Go E Y d k n pc' (ls.set i (some (.int x))) st h Ψ) : Go E Y d k n pc ls (.int x :: st) h Ψ := by
  intro p l e R s m args below meth c Q C ret H locs cells slots lsA hI hS hc hs hL
  obtain ⟨rfl, dd⟩ := hd.is (n := 1) rfl
  exact lv_istore C.1 C.2.1 dd hL.has (Nat.lt_of_lt_of_le hi hL.2.2.1) rfl (fun lsB hB => K p l e R s m args below meth c Q C ret H locs cells slots lsB hI hS hc hs (hL.put (v := .int x) rfl hB))
theorem go_aloadn {i : Fin 4} {x : Nat} (hd : Dc Y pc (.aload_n i) pc') (hi : ls[(i : Nat)]? = some (some (.ref x))) (K : Go E Y d k n pc' ls (.ref x :: st) h Ψ) : Go E Y d k n pc ls st h Ψ := by
  intro p l e R s m args below meth c Q C ret H locs cells slots lsA hI hS hc hs hL
  obtain ⟨rfl, dd⟩ := hd.is (n := 0) rfl
  exact lv_aload_n C.1 C.2.1 dd rfl (hL.get rfl hi) (K p l e R s m args below meth c Q C ret H locs cells slots lsA hI hS hc hs hL)
theorem go_aload {i : Nat} {x : Nat} (hd : Dc Y pc (.aload i) pc') (hi : ls[i]? = some (some (.ref x))) (K : Go E Y d k n pc' ls (.ref x :: st) h Ψ) : Go E Y d k n pc ls st h Ψ := by
  intro p l e R s m args below meth c Q C ret H locs cells slots lsA hI hS hc hs hL
  obtain ⟨rfl, dd⟩ := hd.is (n := 1) rfl
  exact lv_aload C.1 C.2.1 dd (hL.get rfl hi) (K p l e R s m args below meth c Q C ret H locs cells slots lsA hI hS hc hs hL)
theorem go_astoren {i : Fin 4} {x : Nat} (hd : Dc Y pc (.astore_n i) pc') (hi : (i : Nat) < ls.length) (K : Go E Y d k n pc' (ls.set i (some (.ref x))) st h Ψ) : Go E Y d k n pc ls (.ref x :: st) h Ψ := by
  intro p l e R s m args below meth c Q C ret H locs cells slots lsA hI hS hc hs hL
  obtain ⟨rfl, dd⟩ := hd.is (n := 0) rfl
  exact lv_astore_n C.1 C.2.1 dd rfl hL.has (Nat.lt_of_lt_of_le hi hL.2.2.1) rfl (fun lsB hB => K p l e R s m args below meth c Q C ret H locs cells slots lsB hI hS hc hs (hL.put (v := .ref x) rfl hB))
theorem go_astore {i : Nat} {x : Nat} (hd : Dc Y pc (.astore i) pc') (hi : i < ls.length) (K : Go E Y d k n pc' (ls.set i (some (.ref x))) st h Ψ) : Go E Y d k n pc ls (.ref x :: st) h Ψ := by
  intro p l e R s m args below meth c Q C ret H locs cells slots lsA hI hS hc hs hL
  obtain ⟨rfl, dd⟩ := hd.is (n := 1) rfl
  exact lv_astore C.1 C.2.1 dd hL.has (Nat.lt_of_lt_of_le hi hL.2.2.1) rfl (fun lsB hB => K p l e R s m args below meth c Q C ret H locs cells slots lsB hI hS hc hs (hL.put (v := .ref x) rfl hB))
theorem go_iinc {i : Nat} {z : Int} {x v : Int32} (hd : Dc Y pc (.iinc i z) pc') (hi : ls[i]? = some (some (.int x))) (hv : x + Int32.ofInt z = v) (K : Go E Y d k n pc' (ls.set i (some (.int v))) st h Ψ) : Go E Y d k n pc ls st h Ψ := by
  intro p l e R s m args below meth c Q C ret H locs cells slots lsA hI hS hc hs hL
  obtain ⟨rfl, dd⟩ := hd.is (n := 2) rfl
  have hlen := (List.getElem?_eq_some_iff.mp hi).1
  have hh := hL.has
  have hmem : (i, Value.int x) ∈ ((List.range ls.length).filterMap (fun i => match ls[i]? with | some (some v) => if v.category = 1 ∨ ls[i + 1]? = some none then some (i, cV E v) else none | _ => none)) := List.mem_filterMap.mpr ⟨i, List.mem_range.mpr hlen, by rw [hi]; exact if_pos (Or.inl rfl)⟩
  obtain ⟨kk, hkk⟩ := List.getElem?_of_mem hmem
  exact lv_iinc C.1 C.2.1 dd hh hkk hv (Nat.lt_of_lt_of_le hlen hL.2.2.1) rfl (fun lsB hB => K p l e R s m args below meth c Q C ret H locs cells slots lsB hI hS hc hs (hL.put (v := .int v) rfl hB))
theorem go_iload_0 {x : Int32} (hd : Dc Y pc (.iload_n 0) pc') (K : Go E Y d k n pc' (some (.int x) :: ls) (.int x :: st) h Ψ) : Go E Y d k n pc (some (.int x) :: ls) st h Ψ := go_iloadn hd rfl K
theorem go_istore_0 {b0 : Option Value} {x : Int32} (hd : Dc Y pc (.istore_n 0) pc') (K : Go E Y d k n pc' (some (.int x) :: ls) st h Ψ) : Go E Y d k n pc (b0 :: ls) (.int x :: st) h Ψ := go_istoren hd (by simp only [List.length_cons]; show 0 < _; omega) K
theorem go_aload_0 {x : Nat} (hd : Dc Y pc (.aload_n 0) pc') (K : Go E Y d k n pc' (some (.ref x) :: ls) (.ref x :: st) h Ψ) : Go E Y d k n pc (some (.ref x) :: ls) st h Ψ := go_aloadn hd rfl K
theorem go_astore_0 {b0 : Option Value} {x : Nat} (hd : Dc Y pc (.astore_n 0) pc') (K : Go E Y d k n pc' (some (.ref x) :: ls) st h Ψ) : Go E Y d k n pc (b0 :: ls) (.ref x :: st) h Ψ := go_astoren hd (by simp only [List.length_cons]; show 0 < _; omega) K
theorem go_iinc_0 {z : Int} {x v : Int32} (hd : Dc Y pc (.iinc 0 z) pc') (hv : x + Int32.ofInt z = v) (K : Go E Y d k n pc' (some (.int v) :: ls) st h Ψ) : Go E Y d k n pc (some (.int x) :: ls) st h Ψ := go_iinc hd rfl hv K
theorem go_iload_1 {b0 : Option Value} {x : Int32} (hd : Dc Y pc (.iload_n 1) pc') (K : Go E Y d k n pc' (b0 :: some (.int x) :: ls) (.int x :: st) h Ψ) : Go E Y d k n pc (b0 :: some (.int x) :: ls) st h Ψ := go_iloadn hd rfl K
theorem go_istore_1 {b0 b1 : Option Value} {x : Int32} (hd : Dc Y pc (.istore_n 1) pc') (K : Go E Y d k n pc' (b0 :: some (.int x) :: ls) st h Ψ) : Go E Y d k n pc (b0 :: b1 :: ls) (.int x :: st) h Ψ := go_istoren hd (by simp only [List.length_cons]; show 1 < _; omega) K
theorem go_aload_1 {b0 : Option Value} {x : Nat} (hd : Dc Y pc (.aload_n 1) pc') (K : Go E Y d k n pc' (b0 :: some (.ref x) :: ls) (.ref x :: st) h Ψ) : Go E Y d k n pc (b0 :: some (.ref x) :: ls) st h Ψ := go_aloadn hd rfl K
theorem go_astore_1 {b0 b1 : Option Value} {x : Nat} (hd : Dc Y pc (.astore_n 1) pc') (K : Go E Y d k n pc' (b0 :: some (.ref x) :: ls) st h Ψ) : Go E Y d k n pc (b0 :: b1 :: ls) (.ref x :: st) h Ψ := go_astoren hd (by simp only [List.length_cons]; show 1 < _; omega) K
theorem go_iinc_1 {b0 : Option Value} {z : Int} {x v : Int32} (hd : Dc Y pc (.iinc 1 z) pc') (hv : x + Int32.ofInt z = v) (K : Go E Y d k n pc' (b0 :: some (.int v) :: ls) st h Ψ) : Go E Y d k n pc (b0 :: some (.int x) :: ls) st h Ψ := go_iinc hd rfl hv K
theorem go_iload_2 {b0 b1 : Option Value} {x : Int32} (hd : Dc Y pc (.iload_n 2) pc') (K : Go E Y d k n pc' (b0 :: b1 :: some (.int x) :: ls) (.int x :: st) h Ψ) : Go E Y d k n pc (b0 :: b1 :: some (.int x) :: ls) st h Ψ := go_iloadn hd rfl K
theorem go_istore_2 {b0 b1 b2 : Option Value} {x : Int32} (hd : Dc Y pc (.istore_n 2) pc') (K : Go E Y d k n pc' (b0 :: b1 :: some (.int x) :: ls) st h Ψ) : Go E Y d k n pc (b0 :: b1 :: b2 :: ls) (.int x :: st) h Ψ := go_istoren hd (by simp only [List.length_cons]; show 2 < _; omega) K
theorem go_aload_2 {b0 b1 : Option Value} {x : Nat} (hd : Dc Y pc (.aload_n 2) pc') (K : Go E Y d k n pc' (b0 :: b1 :: some (.ref x) :: ls) (.ref x :: st) h Ψ) : Go E Y d k n pc (b0 :: b1 :: some (.ref x) :: ls) st h Ψ := go_aloadn hd rfl K
theorem go_astore_2 {b0 b1 b2 : Option Value} {x : Nat} (hd : Dc Y pc (.astore_n 2) pc') (K : Go E Y d k n pc' (b0 :: b1 :: some (.ref x) :: ls) st h Ψ) : Go E Y d k n pc (b0 :: b1 :: b2 :: ls) (.ref x :: st) h Ψ := go_astoren hd (by simp only [List.length_cons]; show 2 < _; omega) K
theorem go_iinc_2 {b0 b1 : Option Value} {z : Int} {x v : Int32} (hd : Dc Y pc (.iinc 2 z) pc') (hv : x + Int32.ofInt z = v) (K : Go E Y d k n pc' (b0 :: b1 :: some (.int v) :: ls) st h Ψ) : Go E Y d k n pc (b0 :: b1 :: some (.int x) :: ls) st h Ψ := go_iinc hd rfl hv K
theorem go_iload_3 {b0 b1 b2 : Option Value} {x : Int32} (hd : Dc Y pc (.iload_n 3) pc') (K : Go E Y d k n pc' (b0 :: b1 :: b2 :: some (.int x) :: ls) (.int x :: st) h Ψ) : Go E Y d k n pc (b0 :: b1 :: b2 :: some (.int x) :: ls) st h Ψ := go_iloadn hd rfl K
theorem go_istore_3 {b0 b1 b2 b3 : Option Value} {x : Int32} (hd : Dc Y pc (.istore_n 3) pc') (K : Go E Y d k n pc' (b0 :: b1 :: b2 :: some (.int x) :: ls) st h Ψ) : Go E Y d k n pc (b0 :: b1 :: b2 :: b3 :: ls) (.int x :: st) h Ψ := go_istoren hd (by simp only [List.length_cons]; show 3 < _; omega) K
theorem go_aload_3 {b0 b1 b2 : Option Value} {x : Nat} (hd : Dc Y pc (.aload_n 3) pc') (K : Go E Y d k n pc' (b0 :: b1 :: b2 :: some (.ref x) :: ls) (.ref x :: st) h Ψ) : Go E Y d k n pc (b0 :: b1 :: b2 :: some (.ref x) :: ls) st h Ψ := go_aloadn hd rfl K
theorem go_astore_3 {b0 b1 b2 b3 : Option Value} {x : Nat} (hd : Dc Y pc (.astore_n 3) pc') (K : Go E Y d k n pc' (b0 :: b1 :: b2 :: some (.ref x) :: ls) st h Ψ) : Go E Y d k n pc (b0 :: b1 :: b2 :: b3 :: ls) (.ref x :: st) h Ψ := go_astoren hd (by simp only [List.length_cons]; show 3 < _; omega) K
theorem go_iinc_3 {b0 b1 b2 : Option Value} {z : Int} {x v : Int32} (hd : Dc Y pc (.iinc 3 z) pc') (hv : x + Int32.ofInt z = v) (K : Go E Y d k n pc' (b0 :: b1 :: b2 :: some (.int v) :: ls) st h Ψ) : Go E Y d k n pc (b0 :: b1 :: b2 :: some (.int x) :: ls) st h Ψ := go_iinc hd rfl hv K
theorem go_iload_4 {b0 b1 b2 b3 : Option Value} {x : Int32} (hd : Dc Y pc (.iload 4) pc') (K : Go E Y d k n pc' (b0 :: b1 :: b2 :: b3 :: some (.int x) :: ls) (.int x :: st) h Ψ) : Go E Y d k n pc (b0 :: b1 :: b2 :: b3 :: some (.int x) :: ls) st h Ψ := go_iload hd rfl K
theorem go_istore_4 {b0 b1 b2 b3 b4 : Option Value} {x : Int32} (hd : Dc Y pc (.istore 4) pc') (K : Go E Y d k n pc' (b0 :: b1 :: b2 :: b3 :: some (.int x) :: ls) st h Ψ) : Go E Y d k n pc (b0 :: b1 :: b2 :: b3 :: b4 :: ls) (.int x :: st) h Ψ := go_istore hd (by simp only [List.length_cons]; show 4 < _; omega) K
theorem go_aload_4 {b0 b1 b2 b3 : Option Value} {x : Nat} (hd : Dc Y pc (.aload 4) pc') (K : Go E Y d k n pc' (b0 :: b1 :: b2 :: b3 :: some (.ref x) :: ls) (.ref x :: st) h Ψ) : Go E Y d k n pc (b0 :: b1 :: b2 :: b3 :: some (.ref x) :: ls) st h Ψ := go_aload hd rfl K
theorem go_astore_4 {b0 b1 b2 b3 b4 : Option Value} {x : Nat} (hd : Dc Y pc (.astore 4) pc') (K : Go E Y d k n pc' (b0 :: b1 :: b2 :: b3 :: some (.ref x) :: ls) st h Ψ) : Go E Y d k n pc (b0 :: b1 :: b2 :: b3 :: b4 :: ls) (.ref x :: st) h Ψ := go_astore hd (by simp only [List.length_cons]; show 4 < _; omega) K
theorem go_iinc_4 {b0 b1 b2 b3 : Option Value} {z : Int} {x v : Int32} (hd : Dc Y pc (.iinc 4 z) pc') (hv : x + Int32.ofInt z = v) (K : Go E Y d k n pc' (b0 :: b1 :: b2 :: b3 :: some (.int v) :: ls) st h Ψ) : Go E Y d k n pc (b0 :: b1 :: b2 :: b3 :: some (.int x) :: ls) st h Ψ := go_iinc hd rfl hv K
theorem go_iload_5 {b0 b1 b2 b3 b4 : Option Value} {x : Int32} (hd : Dc Y pc (.iload 5) pc') (K : Go E Y d k n pc' (b0 :: b1 :: b2 :: b3 :: b4 :: some (.int x) :: ls) (.int x :: st) h Ψ) : Go E Y d k n pc (b0 :: b1 :: b2 :: b3 :: b4 :: some (.int x) :: ls) st h Ψ := go_iload hd rfl K
theorem go_istore_5 {b0 b1 b2 b3 b4 b5 : Option Value} {x : Int32} (hd : Dc Y pc (.istore 5) pc') (K : Go E Y d k n pc' (b0 :: b1 :: b2 :: b3 :: b4 :: some (.int x) :: ls) st h Ψ) : Go E Y d k n pc (b0 :: b1 :: b2 :: b3 :: b4 :: b5 :: ls) (.int x :: st) h Ψ := go_istore hd (by simp only [List.length_cons]; show 5 < _; omega) K
theorem go_aload_5 {b0 b1 b2 b3 b4 : Option Value} {x : Nat} (hd : Dc Y pc (.aload 5) pc') (K : Go E Y d k n pc' (b0 :: b1 :: b2 :: b3 :: b4 :: some (.ref x) :: ls) (.ref x :: st) h Ψ) : Go E Y d k n pc (b0 :: b1 :: b2 :: b3 :: b4 :: some (.ref x) :: ls) st h Ψ := go_aload hd rfl K
theorem go_astore_5 {b0 b1 b2 b3 b4 b5 : Option Value} {x : Nat} (hd : Dc Y pc (.astore 5) pc') (K : Go E Y d k n pc' (b0 :: b1 :: b2 :: b3 :: b4 :: some (.ref x) :: ls) st h Ψ) : Go E Y d k n pc (b0 :: b1 :: b2 :: b3 :: b4 :: b5 :: ls) (.ref x :: st) h Ψ := go_astore hd (by simp only [List.length_cons]; show 5 < _; omega) K
theorem go_iinc_5 {b0 b1 b2 b3 b4 : Option Value} {z : Int} {x v : Int32} (hd : Dc Y pc (.iinc 5 z) pc') (hv : x + Int32.ofInt z = v) (K : Go E Y d k n pc' (b0 :: b1 :: b2 :: b3 :: b4 :: some (.int v) :: ls) st h Ψ) : Go E Y d k n pc (b0 :: b1 :: b2 :: b3 :: b4 :: some (.int x) :: ls) st h Ψ := go_iinc hd rfl hv K
theorem go_iload_6 {b0 b1 b2 b3 b4 b5 : Option Value} {x : Int32} (hd : Dc Y pc (.iload 6) pc') (K : Go E Y d k n pc' (b0 :: b1 :: b2 :: b3 :: b4 :: b5 :: some (.int x) :: ls) (.int x :: st) h Ψ) : Go E Y d k n pc (b0 :: b1 :: b2 :: b3 :: b4 :: b5 :: some (.int x) :: ls) st h Ψ := go_iload hd rfl K
theorem go_istore_6 {b0 b1 b2 b3 b4 b5 b6 : Option Value} {x : Int32} (hd : Dc Y pc (.istore 6) pc') (K : Go E Y d k n pc' (b0 :: b1 :: b2 :: b3 :: b4 :: b5 :: some (.int x) :: ls) st h Ψ) : Go E Y d k n pc (b0 :: b1 :: b2 :: b3 :: b4 :: b5 :: b6 :: ls) (.int x :: st) h Ψ := go_istore hd (by simp only [List.length_cons]; show 6 < _; omega) K
theorem go_aload_6 {b0 b1 b2 b3 b4 b5 : Option Value} {x : Nat} (hd : Dc Y pc (.aload 6) pc') (K : Go E Y d k n pc' (b0 :: b1 :: b2 :: b3 :: b4 :: b5 :: some (.ref x) :: ls) (.ref x :: st) h Ψ) : Go E Y d k n pc (b0 :: b1 :: b2 :: b3 :: b4 :: b5 :: some (.ref x) :: ls) st h Ψ := go_aload hd rfl K
theorem go_astore_6 {b0 b1 b2 b3 b4 b5 b6 : Option Value} {x : Nat} (hd : Dc Y pc (.astore 6) pc') (K : Go E Y d k n pc' (b0 :: b1 :: b2 :: b3 :: b4 :: b5 :: some (.ref x) :: ls) st h Ψ) : Go E Y d k n pc (b0 :: b1 :: b2 :: b3 :: b4 :: b5 :: b6 :: ls) (.ref x :: st) h Ψ := go_astore hd (by simp only [List.length_cons]; show 6 < _; omega) K
theorem go_iinc_6 {b0 b1 b2 b3 b4 b5 : Option Value} {z : Int} {x v : Int32} (hd : Dc Y pc (.iinc 6 z) pc') (hv : x + Int32.ofInt z = v) (K : Go E Y d k n pc' (b0 :: b1 :: b2 :: b3 :: b4 :: b5 :: some (.int v) :: ls) st h Ψ) : Go E Y d k n pc (b0 :: b1 :: b2 :: b3 :: b4 :: b5 :: some (.int x) :: ls) st h Ψ := go_iinc hd rfl hv K
theorem go_iload_7 {b0 b1 b2 b3 b4 b5 b6 : Option Value} {x : Int32} (hd : Dc Y pc (.iload 7) pc') (K : Go E Y d k n pc' (b0 :: b1 :: b2 :: b3 :: b4 :: b5 :: b6 :: some (.int x) :: ls) (.int x :: st) h Ψ) : Go E Y d k n pc (b0 :: b1 :: b2 :: b3 :: b4 :: b5 :: b6 :: some (.int x) :: ls) st h Ψ := go_iload hd rfl K
theorem go_istore_7 {b0 b1 b2 b3 b4 b5 b6 b7 : Option Value} {x : Int32} (hd : Dc Y pc (.istore 7) pc') (K : Go E Y d k n pc' (b0 :: b1 :: b2 :: b3 :: b4 :: b5 :: b6 :: some (.int x) :: ls) st h Ψ) : Go E Y d k n pc (b0 :: b1 :: b2 :: b3 :: b4 :: b5 :: b6 :: b7 :: ls) (.int x :: st) h Ψ := go_istore hd (by simp only [List.length_cons]; show 7 < _; omega) K
theorem go_aload_7 {b0 b1 b2 b3 b4 b5 b6 : Option Value} {x : Nat} (hd : Dc Y pc (.aload 7) pc') (K : Go E Y d k n pc' (b0 :: b1 :: b2 :: b3 :: b4 :: b5 :: b6 :: some (.ref x) :: ls) (.ref x :: st) h Ψ) : Go E Y d k n pc (b0 :: b1 :: b2 :: b3 :: b4 :: b5 :: b6 :: some (.ref x) :: ls) st h Ψ := go_aload hd rfl K
theorem go_astore_7 {b0 b1 b2 b3 b4 b5 b6 b7 : Option Value} {x : Nat} (hd : Dc Y pc (.astore 7) pc') (K : Go E Y d k n pc' (b0 :: b1 :: b2 :: b3 :: b4 :: b5 :: b6 :: some (.ref x) :: ls) st h Ψ) : Go E Y d k n pc (b0 :: b1 :: b2 :: b3 :: b4 :: b5 :: b6 :: b7 :: ls) (.ref x :: st) h Ψ := go_astore hd (by simp only [List.length_cons]; show 7 < _; omega) K
theorem go_iinc_7 {b0 b1 b2 b3 b4 b5 b6 : Option Value} {z : Int} {x v : Int32} (hd : Dc Y pc (.iinc 7 z) pc') (hv : x + Int32.ofInt z = v) (K : Go E Y d k n pc' (b0 :: b1 :: b2 :: b3 :: b4 :: b5 :: b6 :: some (.int v) :: ls) st h Ψ) : Go E Y d k n pc (b0 :: b1 :: b2 :: b3 :: b4 :: b5 :: b6 :: some (.int x) :: ls) st h Ψ := go_iinc hd rfl hv K
theorem go_iload_8 {b0 b1 b2 b3 b4 b5 b6 b7 : Option Value} {x : Int32} (hd : Dc Y pc (.iload 8) pc') (K : Go E Y d k n pc' (b0 :: b1 :: b2 :: b3 :: b4 :: b5 :: b6 :: b7 :: some (.int x) :: ls) (.int x :: st) h Ψ) : Go E Y d k n pc (b0 :: b1 :: b2 :: b3 :: b4 :: b5 :: b6 :: b7 :: some (.int x) :: ls) st h Ψ := go_iload hd rfl K
theorem go_istore_8 {b0 b1 b2 b3 b4 b5 b6 b7 b8 : Option Value} {x : Int32} (hd : Dc Y pc (.istore 8) pc') (K : Go E Y d k n pc' (b0 :: b1 :: b2 :: b3 :: b4 :: b5 :: b6 :: b7 :: some (.int x) :: ls) st h Ψ) : Go E Y d k n pc (b0 :: b1 :: b2 :: b3 :: b4 :: b5 :: b6 :: b7 :: b8 :: ls) (.int x :: st) h Ψ := go_istore hd (by simp only [List.length_cons]; show 8 < _; omega) K
theorem go_aload_8 {b0 b1 b2 b3 b4 b5 b6 b7 : Option Value} {x : Nat} (hd : Dc Y pc (.aload 8) pc') (K : Go E Y d k n pc' (b0 :: b1 :: b2 :: b3 :: b4 :: b5 :: b6 :: b7 :: some (.ref x) :: ls) (.ref x :: st) h Ψ) : Go E Y d k n pc (b0 :: b1 :: b2 :: b3 :: b4 :: b5 :: b6 :: b7 :: some (.ref x) :: ls) st h Ψ := go_aload hd rfl K
theorem go_astore_8 {b0 b1 b2 b3 b4 b5 b6 b7 b8 : Option Value} {x : Nat} (hd : Dc Y pc (.astore 8) pc') (K : Go E Y d k n pc' (b0 :: b1 :: b2 :: b3 :: b4 :: b5 :: b6 :: b7 :: some (.ref x) :: ls) st h Ψ) : Go E Y d k n pc (b0 :: b1 :: b2 :: b3 :: b4 :: b5 :: b6 :: b7 :: b8 :: ls) (.ref x :: st) h Ψ := go_astore hd (by simp only [List.length_cons]; show 8 < _; omega) K
theorem go_iinc_8 {b0 b1 b2 b3 b4 b5 b6 b7 : Option Value} {z : Int} {x v : Int32} (hd : Dc Y pc (.iinc 8 z) pc') (hv : x + Int32.ofInt z = v) (K : Go E Y d k n pc' (b0 :: b1 :: b2 :: b3 :: b4 :: b5 :: b6 :: b7 :: some (.int v) :: ls) st h Ψ) : Go E Y d k n pc (b0 :: b1 :: b2 :: b3 :: b4 :: b5 :: b6 :: b7 :: some (.int x) :: ls) st h Ψ := go_iinc hd rfl hv K
theorem go_iload_9 {b0 b1 b2 b3 b4 b5 b6 b7 b8 : Option Value} {x : Int32} (hd : Dc Y pc (.iload 9) pc') (K : Go E Y d k n pc' (b0 :: b1 :: b2 :: b3 :: b4 :: b5 :: b6 :: b7 :: b8 :: some (.int x) :: ls) (.int x :: st) h Ψ) : Go E Y d k n pc (b0 :: b1 :: b2 :: b3 :: b4 :: b5 :: b6 :: b7 :: b8 :: some (.int x) :: ls) st h Ψ := go_iload hd rfl K
theorem go_istore_9 {b0 b1 b2 b3 b4 b5 b6 b7 b8 b9 : Option Value} {x : Int32} (hd : Dc Y pc (.istore 9) pc') (K : Go E Y d k n pc' (b0 :: b1 :: b2 :: b3 :: b4 :: b5 :: b6 :: b7 :: b8 :: some (.int x) :: ls) st h Ψ) : Go E Y d k n pc (b0 :: b1 :: b2 :: b3 :: b4 :: b5 :: b6 :: b7 :: b8 :: b9 :: ls) (.int x :: st) h Ψ := go_istore hd (by simp only [List.length_cons]; show 9 < _; omega) K
theorem go_aload_9 {b0 b1 b2 b3 b4 b5 b6 b7 b8 : Option Value} {x : Nat} (hd : Dc Y pc (.aload 9) pc') (K : Go E Y d k n pc' (b0 :: b1 :: b2 :: b3 :: b4 :: b5 :: b6 :: b7 :: b8 :: some (.ref x) :: ls) (.ref x :: st) h Ψ) : Go E Y d k n pc (b0 :: b1 :: b2 :: b3 :: b4 :: b5 :: b6 :: b7 :: b8 :: some (.ref x) :: ls) st h Ψ := go_aload hd rfl K
theorem go_astore_9 {b0 b1 b2 b3 b4 b5 b6 b7 b8 b9 : Option Value} {x : Nat} (hd : Dc Y pc (.astore 9) pc') (K : Go E Y d k n pc' (b0 :: b1 :: b2 :: b3 :: b4 :: b5 :: b6 :: b7 :: b8 :: some (.ref x) :: ls) st h Ψ) : Go E Y d k n pc (b0 :: b1 :: b2 :: b3 :: b4 :: b5 :: b6 :: b7 :: b8 :: b9 :: ls) (.ref x :: st) h Ψ := go_astore hd (by simp only [List.length_cons]; show 9 < _; omega) K
theorem go_iinc_9 {b0 b1 b2 b3 b4 b5 b6 b7 b8 : Option Value} {z : Int} {x v : Int32} (hd : Dc Y pc (.iinc 9 z) pc') (hv : x + Int32.ofInt z = v) (K : Go E Y d k n pc' (b0 :: b1 :: b2 :: b3 :: b4 :: b5 :: b6 :: b7 :: b8 :: some (.int v) :: ls) st h Ψ) : Go E Y d k n pc (b0 :: b1 :: b2 :: b3 :: b4 :: b5 :: b6 :: b7 :: b8 :: some (.int x) :: ls) st h Ψ := go_iinc hd rfl hv K
theorem go_iload_10 {b0 b1 b2 b3 b4 b5 b6 b7 b8 b9 : Option Value} {x : Int32} (hd : Dc Y pc (.iload 10) pc') (K : Go E Y d k n pc' (b0 :: b1 :: b2 :: b3 :: b4 :: b5 :: b6 :: b7 :: b8 :: b9 :: some (.int x) :: ls) (.int x :: st) h Ψ) : Go E Y d k n pc (b0 :: b1 :: b2 :: b3 :: b4 :: b5 :: b6 :: b7 :: b8 :: b9 :: some (.int x) :: ls) st h Ψ := go_iload hd rfl K
theorem go_istore_10 {b0 b1 b2 b3 b4 b5 b6 b7 b8 b9 b10 : Option Value} {x : Int32} (hd : Dc Y pc (.istore 10) pc') (K : Go E Y d k n pc' (b0 :: b1 :: b2 :: b3 :: b4 :: b5 :: b6 :: b7 :: b8 :: b9 :: some (.int x) :: ls) st h Ψ) : Go E Y d k n pc (b0 :: b1 :: b2 :: b3 :: b4 :: b5 :: b6 :: b7 :: b8 :: b9 :: b10 :: ls) (.int x :: st) h Ψ := go_istore hd (by simp only [List.length_cons]; show 10 < _; omega) K
theorem go_aload_10 {b0 b1 b2 b3 b4 b5 b6 b7 b8 b9 : Option Value} {x : Nat} (hd : Dc Y pc (.aload 10) pc') (K : Go E Y d k n pc' (b0 :: b1 :: b2 :: b3 :: b4 :: b5 :: b6 :: b7 :: b8 :: b9 :: some (.ref x) :: ls) (.ref x :: st) h Ψ) : Go E Y d k n pc (b0 :: b1 :: b2 :: b3 :: b4 :: b5 :: b6 :: b7 :: b8 :: b9 :: some (.ref x) :: ls) st h Ψ := go_aload hd rfl K
theorem go_astore_10 {b0 b1 b2 b3 b4 b5 b6 b7 b8 b9 b10 : Option Value} {x : Nat} (hd : Dc Y pc (.astore 10) pc') (K : Go E Y d k n pc' (b0 :: b1 :: b2 :: b3 :: b4 :: b5 :: b6 :: b7 :: b8 :: b9 :: some (.ref x) :: ls) st h Ψ) : Go E Y d k n pc (b0 :: b1 :: b2 :: b3 :: b4 :: b5 :: b6 :: b7 :: b8 :: b9 :: b10 :: ls) (.ref x :: st) h Ψ := go_astore hd (by simp only [List.length_cons]; show 10 < _; omega) K
theorem go_iinc_10 {b0 b1 b2 b3 b4 b5 b6 b7 b8 b9 : Option Value} {z : Int} {x v : Int32} (hd : Dc Y pc (.iinc 10 z) pc') (hv : x + Int32.ofInt z = v) (K : Go E Y d k n pc' (b0 :: b1 :: b2 :: b3 :: b4 :: b5 :: b6 :: b7 :: b8 :: b9 :: some (.int v) :: ls) st h Ψ) : Go E Y d k n pc (b0 :: b1 :: b2 :: b3 :: b4 :: b5 :: b6 :: b7 :: b8 :: b9 :: some (.int x) :: ls) st h Ψ := go_iinc hd rfl hv K
theorem go_iload_11 {b0 b1 b2 b3 b4 b5 b6 b7 b8 b9 b10 : Option Value} {x : Int32} (hd : Dc Y pc (.iload 11) pc') (K : Go E Y d k n pc' (b0 :: b1 :: b2 :: b3 :: b4 :: b5 :: b6 :: b7 :: b8 :: b9 :: b10 :: some (.int x) :: ls) (.int x :: st) h Ψ) : Go E Y d k n pc (b0 :: b1 :: b2 :: b3 :: b4 :: b5 :: b6 :: b7 :: b8 :: b9 :: b10 :: some (.int x) :: ls) st h Ψ := go_iload hd rfl K
theorem go_istore_11 {b0 b1 b2 b3 b4 b5 b6 b7 b8 b9 b10 b11 : Option Value} {x : Int32} (hd : Dc Y pc (.istore 11) pc') (K : Go E Y d k n pc' (b0 :: b1 :: b2 :: b3 :: b4 :: b5 :: b6 :: b7 :: b8 :: b9 :: b10 :: some (.int x) :: ls) st h Ψ) : Go E Y d k n pc (b0 :: b1 :: b2 :: b3 :: b4 :: b5 :: b6 :: b7 :: b8 :: b9 :: b10 :: b11 :: ls) (.int x :: st) h Ψ := go_istore hd (by simp only [List.length_cons]; show 11 < _; omega) K
theorem go_aload_11 {b0 b1 b2 b3 b4 b5 b6 b7 b8 b9 b10 : Option Value} {x : Nat} (hd : Dc Y pc (.aload 11) pc') (K : Go E Y d k n pc' (b0 :: b1 :: b2 :: b3 :: b4 :: b5 :: b6 :: b7 :: b8 :: b9 :: b10 :: some (.ref x) :: ls) (.ref x :: st) h Ψ) : Go E Y d k n pc (b0 :: b1 :: b2 :: b3 :: b4 :: b5 :: b6 :: b7 :: b8 :: b9 :: b10 :: some (.ref x) :: ls) st h Ψ := go_aload hd rfl K
theorem go_astore_11 {b0 b1 b2 b3 b4 b5 b6 b7 b8 b9 b10 b11 : Option Value} {x : Nat} (hd : Dc Y pc (.astore 11) pc') (K : Go E Y d k n pc' (b0 :: b1 :: b2 :: b3 :: b4 :: b5 :: b6 :: b7 :: b8 :: b9 :: b10 :: some (.ref x) :: ls) st h Ψ) : Go E Y d k n pc (b0 :: b1 :: b2 :: b3 :: b4 :: b5 :: b6 :: b7 :: b8 :: b9 :: b10 :: b11 :: ls) (.ref x :: st) h Ψ := go_astore hd (by simp only [List.length_cons]; show 11 < _; omega) K
theorem go_iinc_11 {b0 b1 b2 b3 b4 b5 b6 b7 b8 b9 b10 : Option Value} {z : Int} {x v : Int32} (hd : Dc Y pc (.iinc 11 z) pc') (hv : x + Int32.ofInt z = v) (K : Go E Y d k n pc' (b0 :: b1 :: b2 :: b3 :: b4 :: b5 :: b6 :: b7 :: b8 :: b9 :: b10 :: some (.int v) :: ls) st h Ψ) : Go E Y d k n pc (b0 :: b1 :: b2 :: b3 :: b4 :: b5 :: b6 :: b7 :: b8 :: b9 :: b10 :: some (.int x) :: ls) st h Ψ := go_iinc hd rfl hv K
theorem go_iload_12 {b0 b1 b2 b3 b4 b5 b6 b7 b8 b9 b10 b11 : Option Value} {x : Int32} (hd : Dc Y pc (.iload 12) pc') (K : Go E Y d k n pc' (b0 :: b1 :: b2 :: b3 :: b4 :: b5 :: b6 :: b7 :: b8 :: b9 :: b10 :: b11 :: some (.int x) :: ls) (.int x :: st) h Ψ) : Go E Y d k n pc (b0 :: b1 :: b2 :: b3 :: b4 :: b5 :: b6 :: b7 :: b8 :: b9 :: b10 :: b11 :: some (.int x) :: ls) st h Ψ := go_iload hd rfl K
theorem go_istore_12 {b0 b1 b2 b3 b4 b5 b6 b7 b8 b9 b10 b11 b12 : Option Value} {x : Int32} (hd : Dc Y pc (.istore 12) pc') (K : Go E Y d k n pc' (b0 :: b1 :: b2 :: b3 :: b4 :: b5 :: b6 :: b7 :: b8 :: b9 :: b10 :: b11 :: some (.int x) :: ls) st h Ψ) : Go E Y d k n pc (b0 :: b1 :: b2 :: b3 :: b4 :: b5 :: b6 :: b7 :: b8 :: b9 :: b10 :: b11 :: b12 :: ls) (.int x :: st) h Ψ := go_istore hd (by simp only [List.length_cons]; show 12 < _; omega) K
theorem go_aload_12 {b0 b1 b2 b3 b4 b5 b6 b7 b8 b9 b10 b11 : Option Value} {x : Nat} (hd : Dc Y pc (.aload 12) pc') (K : Go E Y d k n pc' (b0 :: b1 :: b2 :: b3 :: b4 :: b5 :: b6 :: b7 :: b8 :: b9 :: b10 :: b11 :: some (.ref x) :: ls) (.ref x :: st) h Ψ) : Go E Y d k n pc (b0 :: b1 :: b2 :: b3 :: b4 :: b5 :: b6 :: b7 :: b8 :: b9 :: b10 :: b11 :: some (.ref x) :: ls) st h Ψ := go_aload hd rfl K
theorem go_astore_12 {b0 b1 b2 b3 b4 b5 b6 b7 b8 b9 b10 b11 b12 : Option Value} {x : Nat} (hd : Dc Y pc (.astore 12) pc') (K : Go E Y d k n pc' (b0 :: b1 :: b2 :: b3 :: b4 :: b5 :: b6 :: b7 :: b8 :: b9 :: b10 :: b11 :: some (.ref x) :: ls) st h Ψ) : Go E Y d k n pc (b0 :: b1 :: b2 :: b3 :: b4 :: b5 :: b6 :: b7 :: b8 :: b9 :: b10 :: b11 :: b12 :: ls) (.ref x :: st) h Ψ := go_astore hd (by simp only [List.length_cons]; show 12 < _; omega) K
theorem go_iinc_12 {b0 b1 b2 b3 b4 b5 b6 b7 b8 b9 b10 b11 : Option Value} {z : Int} {x v : Int32} (hd : Dc Y pc (.iinc 12 z) pc') (hv : x + Int32.ofInt z = v) (K : Go E Y d k n pc' (b0 :: b1 :: b2 :: b3 :: b4 :: b5 :: b6 :: b7 :: b8 :: b9 :: b10 :: b11 :: some (.int v) :: ls) st h Ψ) : Go E Y d k n pc (b0 :: b1 :: b2 :: b3 :: b4 :: b5 :: b6 :: b7 :: b8 :: b9 :: b10 :: b11 :: some (.int x) :: ls) st h Ψ := go_iinc hd rfl hv K
theorem go_iload_13 {b0 b1 b2 b3 b4 b5 b6 b7 b8 b9 b10 b11 b12 : Option Value} {x : Int32} (hd : Dc Y pc (.iload 13) pc') (K : Go E Y d k n pc' (b0 :: b1 :: b2 :: b3 :: b4 :: b5 :: b6 :: b7 :: b8 :: b9 :: b10 :: b11 :: b12 :: some (.int x) :: ls) (.int x :: st) h Ψ) : Go E Y d k n pc (b0 :: b1 :: b2 :: b3 :: b4 :: b5 :: b6 :: b7 :: b8 :: b9 :: b10 :: b11 :: b12 :: some (.int x) :: ls) st h Ψ := go_iload hd rfl K
theorem go_istore_13 {b0 b1 b2 b3 b4 b5 b6 b7 b8 b9 b10 b11 b12 b13 : Option Value} {x : Int32} (hd : Dc Y pc (.istore 13) pc') (K : Go E Y d k n pc' (b0 :: b1 :: b2 :: b3 :: b4 :: b5 :: b6 :: b7 :: b8 :: b9 :: b10 :: b11 :: b12 :: some (.int x) :: ls) st h Ψ) : Go E Y d k n pc (b0 :: b1 :: b2 :: b3 :: b4 :: b5 :: b6 :: b7 :: b8 :: b9 :: b10 :: b11 :: b12 :: b13 :: ls) (.int x :: st) h Ψ := go_istore hd (by simp only [List.length_cons]; show 13 < _; omega) K
theorem go_aload_13 {b0 b1 b2 b3 b4 b5 b6 b7 b8 b9 b10 b11 b12 : Option Value} {x : Nat} (hd : Dc Y pc (.aload 13) pc') (K : Go E Y d k n pc' (b0 :: b1 :: b2 :: b3 :: b4 :: b5 :: b6 :: b7 :: b8 :: b9 :: b10 :: b11 :: b12 :: some (.ref x) :: ls) (.ref x :: st) h Ψ) : Go E Y d k n pc (b0 :: b1 :: b2 :: b3 :: b4 :: b5 :: b6 :: b7 :: b8 :: b9 :: b10 :: b11 :: b12 :: some (.ref x) :: ls) st h Ψ := go_aload hd rfl K
theorem go_astore_13 {b0 b1 b2 b3 b4 b5 b6 b7 b8 b9 b10 b11 b12 b13 : Option Value} {x : Nat} (hd : Dc Y pc (.astore 13) pc') (K : Go E Y d k n pc' (b0 :: b1 :: b2 :: b3 :: b4 :: b5 :: b6 :: b7 :: b8 :: b9 :: b10 :: b11 :: b12 :: some (.ref x) :: ls) st h Ψ) : Go E Y d k n pc (b0 :: b1 :: b2 :: b3 :: b4 :: b5 :: b6 :: b7 :: b8 :: b9 :: b10 :: b11 :: b12 :: b13 :: ls) (.ref x :: st) h Ψ := go_astore hd (by simp only [List.length_cons]; show 13 < _; omega) K
theorem go_iinc_13 {b0 b1 b2 b3 b4 b5 b6 b7 b8 b9 b10 b11 b12 : Option Value} {z : Int} {x v : Int32} (hd : Dc Y pc (.iinc 13 z) pc') (hv : x + Int32.ofInt z = v) (K : Go E Y d k n pc' (b0 :: b1 :: b2 :: b3 :: b4 :: b5 :: b6 :: b7 :: b8 :: b9 :: b10 :: b11 :: b12 :: some (.int v) :: ls) st h Ψ) : Go E Y d k n pc (b0 :: b1 :: b2 :: b3 :: b4 :: b5 :: b6 :: b7 :: b8 :: b9 :: b10 :: b11 :: b12 :: some (.int x) :: ls) st h Ψ := go_iinc hd rfl hv K
/-- field k of class ci, by the entry idx of class own -/
def FLk (own : String) (idx ci kf : Nat) : Prop := ∃ (C : String) (T : u_T) (N : Nat), vwCl[ci]? = some (C, T, N) ∧ kf < N ∧ (Jvm.Cond.fieldLink own idx (T kf).1 (T kf).2.1 (T kf).2.2.1 ∈ BW ∨ ∃ host, Jvm.Cond.fieldLinkNest own idx (T kf).1 (T kf).2.1 (T kf).2.2.1 host ∈ NW)
/-- what a class's words give, for all classes of the world -/
theorem cl_ok : ∀ (ci : Nat) (q : vw_C), vwCl[ci]? = some q → (∀ w ∈ u_ws q.1 q.2.1 q.2.2, w ∈ BW) := by
  intro ci q hq
  have key : vwCl.all (fun q => (u_ws q.1 q.2.1 q.2.2).all (fun w => decide (w ∈ lw_tbl) && goodWord w)) = true := by decide +kernel
  intro w hw
  have h1 := List.all_eq_true.mp (List.all_eq_true.mp key q (List.mem_of_getElem? hq)) w hw
  simp only [Bool.and_eq_true, decide_eq_true_eq] at h1
  exact BW_mem h1.1 h1.2
def clTy (ci : Nat) : Nat → FieldType := match ci with
  | 0 => tyX0 | 1 => tyX1 | 2 => tyX2 | 3 => tyX3 | 4 => tyX4 | _ => tyX5
theorem clTy_ok : ∀ (ci : Nat) (C : String) (T : u_T) (N : Nat), vwCl[ci]? = some (C, T, N) → (∀ j, j < N → parseFieldDescriptor (T j).2.2.1 = some (clTy ci j)) ∧ (∀ a, a < N → ∀ b, b < N → a ≠ b → (T a).2.1 ≠ (T b).2.1) := by
  intro ci C T N hq
  match ci, hq with
  | 0, hq => cases hq; exact ⟨tyX0_ok, nmX0⟩
  | 1, hq => cases hq; exact ⟨tyX1_ok, nmX1⟩
  | 2, hq => cases hq; exact ⟨tyX2_ok, nmX2⟩
  | 3, hq => cases hq; exact ⟨tyX3_ok, nmX3⟩
  | 4, hq => cases hq; exact ⟨tyX4_ok, nmX4⟩
  | 5, hq => cases hq; exact ⟨tyX5_ok, nmX5⟩
  | i + 6, hq => simp at hq
theorem go_getfield {idx a ci kf : Nat} {fs : List Value} {v : Value} (hd : Dc Y pc (.getfield idx) pc') (hF : FLk Y.1.cls idx ci kf) (hg : h[a]? = some (.inr (ci, fs))) (hv : fs[kf]? = some v) (K : Go E Y d k n pc' ls (v :: st) h Ψ) : Go E Y d k n pc ls (.ref a :: st) h Ψ := by
  intro p l e R s m args below meth c Q C ret H locs cells slots lsA hI hS hc hs hL
  obtain ⟨rfl, dd⟩ := hd.is (n := 2) rfl
  obtain ⟨CN, T, N, f1, f2, f3⟩ := hF
  have hE := C.2.2.2.2.2.1
  have hW := cW_get (E := E) hg
  have hv2 : (fs.map (cV E))[kf]? = some (cV E v) := by rw [List.getElem?_map, hv]; rfl
  show W p l e R s m args below meth c H locs cells slots Q (F0 m pc lsA (.ref (aR E a) :: st.map (cV E)))
  rw [aR_lo hI hg]
  rcases f3 with f3 | ⟨host, f3⟩
  · exact va_get C.1 C.2.1 C.2.2.2.2.1 (cl_ok ci _ f1) C.2.2.2.1 hE.1 hI.2.2 a hW f1 kf f2 (C.2.2.2.2.1 _ f3) (fun x hx => hx) hv2 dd (K p l e R s m args below meth c Q C ret H locs cells slots lsA hI hS hc hs hL)
  · exact va_getN C.1 C.2.1 C.2.2.2.2.1 (cl_ok ci _ f1) C.2.2.2.1 hE.1 hI.2.2 a hW f1 kf f2 (va_Nw.use rfl (hE.2.1 _ f3)) (fun x hx => hx) hv2 dd (K p l e R s m args below meth c Q C ret H locs cells slots lsA hI hS hc hs hL)
theorem Inv.set {H1 H : Heap} {a : Nat} {e : va_E} (hI : Inv E h H) (z : H1.size = H.size) (hP : va_P (ED E) vwCl ((cW E h).set a (EB E + a, cE E e)) H1) : Inv E (h.set a e) H1 := by
  refine ⟨by rw [List.length_set]; exact hI.1, by rw [List.length_set, z]; exact hI.2.1, ?_⟩
  rw [← cW_set]
  exact hP
/-- a field that isn't final -/
theorem go_putfield {idx a ci kf : Nat} {C0 : String} {T : u_T} {N : Nat} {fs : List Value} {v : Value} (hd : Dc Y pc (.putfield idx) pc') (hF : FLk Y.1.cls idx ci kf) (hcl : vwCl[ci]? = some (C0, T, N)) (hfin : (T kf).2.2.2 = false) (hg : h[a]? = some (.inr (ci, fs))) (hl : kf < fs.length)
    (hty : ∀ w : Value, w = cV E v → narrow (clTy ci kf) w = w ∧ fits (clTy ci kf) w = true) (K : Go E Y d k n pc' ls st (h.set a (.inr (ci, fs.set kf v))) Ψ) : Go E Y d k n pc ls (v :: .ref a :: st) h Ψ := by
  intro p l e R s m args below meth c Q C ret H locs cells slots lsA hI hS hc hs hL
  obtain ⟨rfl, dd⟩ := hd.is (n := 2) rfl
  obtain ⟨CN, T', N', f1, f2, f3⟩ := hF
  cases f1.symm.trans hcl
  have hE := C.2.2.2.2.2.1
  have hx := C.1
  have hb := C.2.1
  have hown := C.2.2.2.1
  have hts := C.2.2.2.2.1
  have hin := cl_ok ci _ hcl
  have hK := hE.1
  obtain ⟨hty0, hnm⟩ := clTy_ok ci _ _ _ hcl
  obtain ⟨hn, hfit⟩ := hty _ rfl
  have he := cW_get (E := E) hg
  have hP := hI.2.2
  show W p l e R s m args below meth c H locs cells slots Q (F0 m pc lsA (cV E v :: .ref (aR E a) :: st.map (cV E)))
  rw [aR_lo hI hg]
  have hap := va_apart (own := Y.1.cls) hts hin (clTy ci) hty0 hnm hK hcl
  obtain ⟨r', h1, cell, q1, q2, q3, q4⟩ := hP a _ he
  cases h1.symm.trans hcl
  obtain ⟨hSl, hfc, kC, hkC, hkind⟩ := hK.1 ci _ hcl
  obtain ⟨cf, kf', fi, f, hi, hsl⟩ := hSl kf f2
  have hlay := hts _ (hin _ (u_in_lay f2))
  unfold u_lay at hlay
  rw [if_neg (by rw [hfin]; decide)] at hlay
  have hst := (u_facts hfc hkC (u_lays hts hin f2) hi).1
  have h6 := u_store hfc hkC hkind hlay hi (hty0 kf f2) hn hfit
  have hlen : kf < (fs.map (cV E)).length := by rw [List.length_map]; exact hl
  have fin : ∀ H1 : Heap, H1[EB E + a]? = some (cell.setSlot f.slot (cV E v)) → H1.size = H.size → (∀ q, q ≠ EB E + a → H1[q]? = H[q]?) → W p l e R s m args below meth c H locs cells slots Q (F0 m pc lsA (cV E v :: .ref (EB E + a) :: st.map (cV E))) ∨ W p l e R s m args below meth c H1 (locs ++ [⟨EB E + a, f.slot⟩]) cells slots Q (F0 m (pc + 3) lsA (st.map (cV E))) := by
    intro H1 e1 e2 e3
    refine Or.inr (K p l e R s m args below meth c Q C ret H1 _ cells slots lsA (hI.set e2 ?_) (hS.put e2 e3 (cW_D.2 a _ he)) hc hs hL)
    have e4 := hP.set cW_D he (e := .inr (ci, (fs.map (cV E)).set kf (cV E v))) ⟨_, hcl, t_OB.to (V := updV (vp_V (fs.map (cV E))) kf (cV E v)) ⟨_, e1, q2, q3, by rw [hsl]; exact t_set q4 hap f2 (cV E v)⟩ (fun j _ => vp_updV_set hlen (cV E v) j)⟩ e3
    rw [show (fs.map (cV E)).set kf (cV E v) = (fs.set kf v).map (cV E) from by rw [List.map_set]] at e4
    exact e4
  rcases f3 with f3 | ⟨host, f3⟩
  · refine W.putK hx hb (f := f) ⟨hown, hts _ f3, ⟨_, _, _, hi⟩, hst⟩ (by rw [q2]; exact h6) q1 q3 (by rw [hsl]; exact k2_hasslot (q4 kf f2)) rfl rfl dd fun H1 e1 e2 e3 => ?_
    refine K p l e R s m args below meth c Q C ret H1 _ cells slots lsA (hI.set e2 ?_) (hS.put e2 e3 (cW_D.2 a _ he)) hc hs hL
    have e4 := hP.set cW_D he (e := .inr (ci, (fs.map (cV E)).set kf (cV E v))) ⟨_, hcl, t_OB.to (V := updV (vp_V (fs.map (cV E))) kf (cV E v)) ⟨_, e1, q2, q3, by rw [hsl]; exact t_set q4 hap f2 (cV E v)⟩ (fun j _ => vp_updV_set hlen (cV E v) j)⟩ e3
    rw [show (fs.map (cV E)).set kf (cV E v) = (fs.set kf v).map (cV E) from by rw [List.map_set]] at e4
    exact e4
  · refine va_WputK hx hb (f := f) hown (va_Nw.use rfl (hE.2.1 _ f3)) hi hst (by rw [q2]; exact h6) q1 q3 (by rw [hsl]; exact k2_hasslot (q4 kf f2)) rfl rfl dd fun H1 e1 e2 e3 => ?_
    refine K p l e R s m args below meth c Q C ret H1 _ cells slots lsA (hI.set e2 ?_) (hS.put e2 e3 (cW_D.2 a _ he)) hc hs hL
    have e4 := hP.set cW_D he (e := .inr (ci, (fs.map (cV E)).set kf (cV E v))) ⟨_, hcl, t_OB.to (V := updV (vp_V (fs.map (cV E))) kf (cV E v)) ⟨_, e1, q2, q3, by rw [hsl]; exact t_set q4 hap f2 (cV E v)⟩ (fun j _ => vp_updV_set hlen (cV E v) j)⟩ e3
    rw [show (fs.map (cV E)).set kf (cV E v) = (fs.set kf v).map (cV E) from by rw [List.map_set]] at e4
    exact e4
/-- a final field, in a constructor of its own class -/
theorem go_putfinal {idx a ci kf : Nat} {C0 : String} {T : u_T} {N : Nat} {fs : List Value} {v : Value} (hd : Dc Y pc (.putfield idx) pc') (hF : Jvm.Cond.fieldLink Y.1.cls idx (T kf).1 (T kf).2.1 (T kf).2.2.1 ∈ BW) (hcl : vwCl[ci]? = some (C0, T, N)) (hkN : kf < N) (hfin : (T kf).2.2.2 = true) (hin2 : Y.1.name = "<init>") (hdecl : (T kf).1 = Y.1.cls) (hg : h[a]? = some (.inr (ci, fs))) (hl : kf < fs.length)
    (hty : ∀ w : Value, w = cV E v → narrow (clTy ci kf) w = w ∧ fits (clTy ci kf) w = true) (K : Go E Y d k n pc' ls st (h.set a (.inr (ci, fs.set kf v))) Ψ) : Go E Y d k n pc ls (v :: .ref a :: st) h Ψ := by
  intro p l e R s m args below meth c Q C ret H locs cells slots lsA hI hS hc hs hL
  obtain ⟨rfl, dd⟩ := hd.is (n := 2) rfl
  have hE := C.2.2.2.2.2.1
  have hx := C.1
  have hb := C.2.1
  have hown := C.2.2.2.1
  have hts := C.2.2.2.2.1
  have hin := cl_ok ci _ hcl
  have hK := hE.1
  obtain ⟨hty0, hnm⟩ := clTy_ok ci _ _ _ hcl
  obtain ⟨hn, hfit⟩ := hty _ rfl
  have he := cW_get (E := E) hg
  have hP := hI.2.2
  show W p l e R s m args below meth c H locs cells slots Q (F0 m pc lsA (cV E v :: .ref (aR E a) :: st.map (cV E)))
  rw [aR_lo hI hg]
  have hap := va_apart (own := Y.1.cls) hts hin (clTy ci) hty0 hnm hK hcl
  obtain ⟨r', h1, cell, q1, q2, q3, q4⟩ := hP a _ he
  cases h1.symm.trans hcl
  obtain ⟨hSl, hfc, kC, hkC, hkind⟩ := hK.1 ci _ hcl
  obtain ⟨cf, kf', fi, f, hi, hsl⟩ := hSl kf hkN
  have hlay := hts _ (hin _ (u_in_lay hkN))
  unfold u_lay at hlay
  rw [if_pos hfin] at hlay
  have hst := (u_facts hfc hkC (u_lays hts hin hkN) hi).1
  have hcf : m.cls = cf := by
    obtain ⟨_, _, c', _, _, _, -, -, hf', -, -, -, hown2, -⟩ := Cond.laysFinal_spec hlay
    have e1 : c' = cf := by have := hi.symm.trans hf'; simp at this; exact this.1.symm
    rw [hdecl] at hown2
    rw [← e1]; exact Option.some.inj (hown.symm.trans hown2)
  have h6 := u_fits hfc hkC hkind (Or.inr hlay) hi (hty0 kf hkN) hn hfit
  have hlen : kf < (fs.map (cV E)).length := by rw [List.length_map]; exact hl
  refine W.putFinK hx hb hown (hts _ hF) hi hst hcf (C.2.2.2.2.2.2.2.2.trans hin2) (by rw [q2]; exact h6) q1 q3 (by rw [hsl]; exact k2_hasslot (q4 kf hkN)) rfl rfl dd fun H1 e1 e2 e3 => ?_
  refine K p l e R s m args below meth c Q C ret H1 _ cells slots lsA (hI.set e2 ?_) (hS.put e2 e3 (cW_D.2 a _ he)) hc hs hL
  have e4 := hP.set cW_D he (e := .inr (ci, (fs.map (cV E)).set kf (cV E v))) ⟨_, hcl, t_OB.to (V := updV (vp_V (fs.map (cV E))) kf (cV E v)) ⟨_, e1, q2, q3, by rw [hsl]; exact t_set q4 hap hkN (cV E v)⟩ (fun j _ => vp_updV_set hlen (cV E v) j)⟩ e3
  rw [show (fs.map (cV E)).set kf (cV E v) = (fs.set kf v).map (cV E) from by rw [List.map_set]] at e4
  exact e4
/-- POWERS, INVERSES -/
theorem go_powers {idx : Nat} (hd : Dc Y pc (.getstatic idx) pc') (hF : Jvm.Cond.fieldLink Y.1.cls idx "LocalMenders" "POWERS" "[I" ∈ BW ∨ ∃ host, Jvm.Cond.fieldLinkNest Y.1.cls idx "LocalMenders" "POWERS" "[I" host ∈ NW) (K : Go E Y d k n pc' ls (.ref BIGN :: st) h Ψ) : Go E Y d k n pc ls st h Ψ := by
  intro p l e R s m args below meth c Q C ret H locs cells slots lsA hI hS hc hs hL
  obtain ⟨rfl, dd⟩ := hd.is (n := 2) rfl
  have hE := C.2.2.2.2.2.1
  rcases hF with hF | ⟨host, hF⟩
  · exact va_gets C.1 C.2.1 hE.2.2.2.2.2.2.2.1 hS C.2.2.2.1 (C.2.2.2.2.1 _ hF) (fun x hx => hx) dd (K p l e R s m args below meth c Q C ret H locs cells slots lsA hI hS hc hs hL)
  · exact va_getsN C.1 C.2.1 hE.2.2.2.2.2.2.2.1 hS C.2.2.2.1 (va_Nw.use rfl (hE.2.1 _ hF)) (fun x hx => hx) dd (K p l e R s m args below meth c Q C ret H locs cells slots lsA hI hS hc hs hL)
theorem go_inverses {idx : Nat} (hd : Dc Y pc (.getstatic idx) pc') (hF : Jvm.Cond.fieldLink Y.1.cls idx "LocalMenders" "INVERSES" "[I" ∈ BW ∨ ∃ host, Jvm.Cond.fieldLinkNest Y.1.cls idx "LocalMenders" "INVERSES" "[I" host ∈ NW) (K : Go E Y d k n pc' ls (.ref (BIGN + 1) :: st) h Ψ) : Go E Y d k n pc ls st h Ψ := by
  intro p l e R s m args below meth c Q C ret H locs cells slots lsA hI hS hc hs hL
  obtain ⟨rfl, dd⟩ := hd.is (n := 2) rfl
  have hE := C.2.2.2.2.2.1
  rcases hF with hF | ⟨host, hF⟩
  · exact va_gets C.1 C.2.1 hE.2.2.2.2.2.2.2.2 hS C.2.2.2.1 (C.2.2.2.2.1 _ hF) (fun x hx => hx) dd (K p l e R s m args below meth c Q C ret H locs cells slots lsA hI hS hc hs hL)
  · exact va_getsN C.1 C.2.1 hE.2.2.2.2.2.2.2.2 hS C.2.2.2.1 (va_Nw.use rfl (hE.2.1 _ hF)) (fun x hx => hx) dd (K p l e R s m args below meth c Q C ret H locs cells slots lsA hI hS hc hs hL)
/-! arrays: '.inl (0, n, .inl f)': ints; '.inl (1, ..)': chars; '.inl (2, n, ..)': States -/
/-- an int array that can be read -/
def ArrR (E : AEnv) (h : List va_E) (a n : Nat) (f : Nat → Int32) : Prop :=
  h[a]? = some (.inl (0, n, .inl f)) ∨ (a = BIGN ∧ n = 15 ∧ f = POWf) ∨ (a = BIGN + 1 ∧ n = 16 ∧ f = INVf) ∨ (a = BIGN + 2 ∧ n = (ESc E).1 ∧ f = (ESc E).2)
theorem go_iaload {a N : Nat} {f : Nat → Int32} {i : Int32} (hd : Dc Y pc .iaload pc') (hg : ArrR E h a N f) (hin : vp_in i N) (K : Go E Y d k n pc' ls (.int (f i.toNatClampNeg) :: st) h Ψ) : Go E Y d k n pc ls (.int i :: .ref a :: st) h Ψ := by
  intro p l e R s m args below meth c Q C ret H locs cells slots lsA hI hS hc hs hL
  obtain ⟨rfl, dd⟩ := hd.is (n := 0) rfl
  have hE := C.2.2.2.2.2.1
  rcases hg with hg | ⟨rfl, rfl, rfl⟩ | ⟨rfl, rfl, rfl⟩ | ⟨rfl, rfl, rfl⟩
  · have hW := cW_get (E := E) hg
    show W p l e R s m args below meth c H locs cells slots Q (F0 m pc lsA (.int i :: .ref (aR E a) :: st.map (cV E)))
    rw [aR_lo hI hg]
    exact va_iald C.1 C.2.1 hE.1 hI.2.2 a 0 hW rfl hin dd (K p l e R s m args below meth c Q C ret H locs cells slots lsA hI hS hc hs hL)
  · exact va_ti (v := .int (POWf i.toNatClampNeg)) C.1 C.2.1 hE.2.2.2.2.1 hS hin rfl dd (K p l e R s m args below meth c Q C ret H locs cells slots lsA hI hS hc hs hL)
  · exact va_ti (v := .int (INVf i.toNatClampNeg)) C.1 C.2.1 hE.2.2.2.2.2.1 hS hin rfl dd (K p l e R s m args below meth c Q C ret H locs cells slots lsA hI hS hc hs hL)
  · exact va_ti (v := .int ((ESc E).2 i.toNatClampNeg)) C.1 C.2.1 hE.2.2.2.2.2.2.1 hS hin rfl dd (K p l e R s m args below meth c Q C ret H locs cells slots lsA hI hS hc hs hL)
theorem go_alen {a N : Nat} {f : Nat → Int32} {v : Int32} (hd : Dc Y pc .arraylength pc') (hg : ArrR E h a N f) (hv : Int32.ofNat N = v) (K : Go E Y d k n pc' ls (.int v :: st) h Ψ) : Go E Y d k n pc ls (.ref a :: st) h Ψ := by
  intro p l e R s m args below meth c Q C ret H locs cells slots lsA hI hS hc hs hL
  obtain ⟨rfl, dd⟩ := hd.is (n := 0) rfl
  have hE := C.2.2.2.2.2.1
  rcases hg with hg | ⟨rfl, rfl, rfl⟩ | ⟨rfl, rfl, rfl⟩ | ⟨rfl, rfl, rfl⟩
  · have hW := cW_get (E := E) hg
    show W p l e R s m args below meth c H locs cells slots Q (F0 m pc lsA (.ref (aR E a) :: st.map (cV E)))
    rw [aR_lo hI hg]
    exact va_alen C.1 C.2.1 hE.1 hI.2.2 a 0 hW rfl hv dd (K p l e R s m args below meth c Q C ret H locs cells slots lsA hI hS hc hs hL)
  · exact va_tlen C.1 C.2.1 hE.2.2.2.2.1 hS hv dd (K p l e R s m args below meth c Q C ret H locs cells slots lsA hI hS hc hs hL)
  · exact va_tlen C.1 C.2.1 hE.2.2.2.2.2.1 hS hv dd (K p l e R s m args below meth c Q C ret H locs cells slots lsA hI hS hc hs hL)
  · exact va_tlen C.1 C.2.1 hE.2.2.2.2.2.2.1 hS hv dd (K p l e R s m args below meth c Q C ret H locs cells slots lsA hI hS hc hs hL)
theorem go_alenC {a N : Nat} {f : Nat → Int32} {v : Int32} (hd : Dc Y pc .arraylength pc') (hg : h[a]? = some (.inl (1, N, .inl f))) (hv : Int32.ofNat N = v) (K : Go E Y d k n pc' ls (.int v :: st) h Ψ) : Go E Y d k n pc ls (.ref a :: st) h Ψ := by
  intro p l e R s m args below meth c Q C ret H locs cells slots lsA hI hS hc hs hL
  obtain ⟨rfl, dd⟩ := hd.is (n := 0) rfl
  have hE := C.2.2.2.2.2.1
  have hW := cW_get (E := E) hg
  show W p l e R s m args below meth c H locs cells slots Q (F0 m pc lsA (.ref (aR E a) :: st.map (cV E)))
  rw [aR_lo hI hg]
  exact va_alen C.1 C.2.1 hE.1 hI.2.2 a 1 hW rfl hv dd (K p l e R s m args below meth c Q C ret H locs cells slots lsA hI hS hc hs hL)
theorem go_alenS {a N : Nat} {f : Nat → Option Nat} {v : Int32} (hd : Dc Y pc .arraylength pc') (hg : h[a]? = some (.inl (2, N, .inr (.inr (.inr (.inr f)))))) (hv : Int32.ofNat N = v) (K : Go E Y d k n pc' ls (.int v :: st) h Ψ) : Go E Y d k n pc ls (.ref a :: st) h Ψ := by
  intro p l e R s m args below meth c Q C ret H locs cells slots lsA hI hS hc hs hL
  obtain ⟨rfl, dd⟩ := hd.is (n := 0) rfl
  have hE := C.2.2.2.2.2.1
  have hW := cW_get (E := E) hg
  show W p l e R s m args below meth c H locs cells slots Q (F0 m pc lsA (.ref (aR E a) :: st.map (cV E)))
  rw [aR_lo hI hg]
  exact va_alen C.1 C.2.1 hE.1 hI.2.2 a 2 hW rfl hv dd (K p l e R s m args below meth c Q C ret H locs cells slots lsA hI hS hc hs hL)
theorem go_caload {a N : Nat} {f : Nat → Int32} {i : Int32} (hd : Dc Y pc .caload pc') (hg : h[a]? = some (.inl (1, N, .inl f))) (hin : vp_in i N) (K : Go E Y d k n pc' ls (.int (f i.toNatClampNeg) :: st) h Ψ) : Go E Y d k n pc ls (.int i :: .ref a :: st) h Ψ := by
  intro p l e R s m args below meth c Q C ret H locs cells slots lsA hI hS hc hs hL
  obtain ⟨rfl, dd⟩ := hd.is (n := 0) rfl
  have hE := C.2.2.2.2.2.1
  have hW := cW_get (E := E) hg
  show W p l e R s m args below meth c H locs cells slots Q (F0 m pc lsA (.int i :: .ref (aR E a) :: st.map (cV E)))
  rw [aR_lo hI hg]
  exact va_cald C.1 C.2.1 hE.1 hI.2.2 a 1 hW rfl hin dd (K p l e R s m args below meth c Q C ret H locs cells slots lsA hI hS hc hs hL)
theorem go_aaload {a N b : Nat} {f : Nat → Option Nat} {i : Int32} (hd : Dc Y pc .aaload pc') (hg : h[a]? = some (.inl (2, N, .inr (.inr (.inr (.inr f)))))) (hin : vp_in i N) (hb : f i.toNatClampNeg = some b) (K : Go E Y d k n pc' ls (.ref b :: st) h Ψ) : Go E Y d k n pc ls (.int i :: .ref a :: st) h Ψ := by
  intro p l e R s m args below meth c Q C ret H locs cells slots lsA hI hS hc hs hL
  obtain ⟨rfl, dd⟩ := hd.is (n := 0) rfl
  have hE := C.2.2.2.2.2.1
  have hW := cW_get (E := E) hg
  show W p l e R s m args below meth c H locs cells slots Q (F0 m pc lsA (.int i :: .ref (aR E a) :: st.map (cV E)))
  rw [aR_lo hI hg]
  refine va_aldq C.1 C.2.1 hE.1 hI.2.2 a 2 hW rfl hin dd ?_
  show W p l e R s m args below meth c H locs cells slots Q (F0 m (pc + 1) lsA (va_rf ((f i.toNatClampNeg).map (aR E)) :: st.map (cV E)))
  rw [hb]
  exact (K p l e R s m args below meth c Q C ret H locs cells slots lsA hI hS hc hs hL)
theorem go_iastore {a N : Nat} {f : Nat → Int32} {i x : Int32} (hd : Dc Y pc .iastore pc') (hg : h[a]? = some (.inl (0, N, .inl f))) (hin : vp_in i N) (K : Go E Y d k n pc' ls st (h.set a (.inl (0, N, .inl (upd f i.toNatClampNeg x)))) Ψ) : Go E Y d k n pc ls (.int x :: .int i :: .ref a :: st) h Ψ := by
  intro p l e R s m args below meth c Q C ret H locs cells slots lsA hI hS hc hs hL
  obtain ⟨rfl, dd⟩ := hd.is (n := 0) rfl
  have hE := C.2.2.2.2.2.1
  have he := cW_get (E := E) hg
  have hP := hI.2.2
  show W p l e R s m args below meth c H locs cells slots Q (F0 m pc lsA (.int x :: .int i :: .ref (aR E a) :: st.map (cV E)))
  rw [aR_lo hI hg]
  refine W.iast C.1 C.2.1 (hP a _ he) ((hE.1.2 0 (ETc E 0, .int) rfl).1 N (fun j => .int (f j))) (fun q => by cases q) (by show ¬ (i < 0 ∨ (arrV _ _ _).slots.size ≤ _); rw [arrV_size]; exact hin) rfl rfl dd fun H1 e1 z oq => ?_
  refine K p l e R s m args below meth c Q C ret H1 _ cells slots lsA (hI.set z (hP.set cW_D he ?_ oq)) (hS.put z oq (cW_D.2 a _ he)) hc hs hL
  show H1[EB E + a]? = some (vp_cell _ _)
  rw [e1]
  show some (Cell.setSlot (vp_cell (ETc E 0) (N, .inl f)) _ _) = some (vp_cell (ETc E 0) (N, .inl (upd f i.toNatClampNeg x)))
  rw [vp_cell_i, vp_cell_i, arrV_store]
  congr 2
  funext q
  by_cases hq : q = i.toNatClampNeg
  · subst hq
    simp [updV, upd]
  · simp [updV, upd, hq]
theorem go_castore {a N : Nat} {f : Nat → Int32} {i x : Int32} (hd : Dc Y pc .castore pc') (hg : h[a]? = some (.inl (1, N, .inl f))) (hin : vp_in i N) (K : Go E Y d k n pc' ls st (h.set a (.inl (1, N, .inl (upd f i.toNatClampNeg (vp_nar .char x))))) Ψ) : Go E Y d k n pc ls (.int x :: .int i :: .ref a :: st) h Ψ := by
  intro p l e R s m args below meth c Q C ret H locs cells slots lsA hI hS hc hs hL
  obtain ⟨rfl, dd⟩ := hd.is (n := 0) rfl
  have hE := C.2.2.2.2.2.1
  have he := cW_get (E := E) hg
  have hP := hI.2.2
  show W p l e R s m args below meth c H locs cells slots Q (F0 m pc lsA (.int x :: .int i :: .ref (aR E a) :: st.map (cV E)))
  rw [aR_lo hI hg]
  refine W.cast C.1 C.2.1 (hP a _ he) ((hE.1.2 1 (ETc E 1, .char) rfl).1 N (fun j => .int (f j))) (fun q => by cases q) (by show ¬ (i < 0 ∨ (arrV _ _ _).slots.size ≤ _); rw [arrV_size]; exact hin) rfl rfl dd fun H1 e1 z oq => ?_
  refine K p l e R s m args below meth c Q C ret H1 _ cells slots lsA (hI.set z (hP.set cW_D he ?_ oq)) (hS.put z oq (cW_D.2 a _ he)) hc hs hL
  show H1[EB E + a]? = some (vp_cell _ _)
  rw [e1]
  show some (Cell.setSlot (vp_cell (ETc E 1) (N, .inl f)) _ _) = some (vp_cell (ETc E 1) (N, .inl (upd f i.toNatClampNeg (vp_nar .char x))))
  rw [vp_cell_i, vp_cell_i, arrV_store]
  congr 2
  funext q
  by_cases hq : q = i.toNatClampNeg
  · subst hq
    simp [updV, upd, vp_nar]
    try rfl
  · simp [updV, upd, hq]
theorem go_aastore {a N b : Nat} {f : Nat → Option Nat} {i : Int32} {fs : List Value} (hd : Dc Y pc .aastore pc') (hg : h[a]? = some (.inl (2, N, .inr (.inr (.inr (.inr f)))))) (hin : vp_in i N) (hb : h[b]? = some (.inr (4, fs))) (K : Go E Y d k n pc' ls st (h.set a (.inl (2, N, .inr (.inr (.inr (.inr (va_up f i.toNatClampNeg (some b)))))))) Ψ) : Go E Y d k n pc ls (.ref b :: .int i :: .ref a :: st) h Ψ := by
  intro p l e R s m args below meth c Q C ret H locs cells slots lsA hI hS hc hs hL
  obtain ⟨rfl, dd⟩ := hd.is (n := 0) rfl
  have hE := C.2.2.2.2.2.1
  have hK := hE.1
  have he := cW_get (E := E) hg
  have hv := cW_get (E := E) hb
  have hP := hI.2.2
  have eb := aR_lo hI hb
  show W p l e R s m args below meth c H locs cells slots Q (F0 m pc lsA (.ref (aR E b) :: .int i :: .ref (aR E a) :: st.map (cV E)))
  rw [aR_lo hI hg, eb]
  have hlt : i.toNatClampNeg < N := Nat.not_le.mp fun q => hin (Or.inr q)
  have h0 : ¬ i < 0 := fun q => hin (Or.inl q)
  obtain ⟨r', hr', cellV, g1, g2, g3, -⟩ := hP b _ hv
  have hcls := (hK.1 4 (RX4, TX4, 14) rfl).2
  obtain ⟨kA, comp, k1, k2, k3, -⟩ := (hK.2 2 (ETc E 2, .object RX4) rfl).2
  have hcomp : comp = (ED E).1 4 := Option.some.inj (k3.symm.trans hcls.1)
  subst hcomp
  obtain ⟨kC, hkC, -⟩ := hcls.2
  refine W.aast C.1 C.2.1 (hP a _ he) (fun q h => by cases h) (fun h => by cases h) k1 k2 rfl hkC ⟨h0, by show _ < (arrV _ _ _).slots.size; rw [arrV_size]; exact hlt⟩ g1 (fun q h => by rw [g3] at h; cases h) (by rw [g2]; exact hkC) (by rw [g2]; exact va_assign hcls) rfl rfl dd fun H1 e1 z oq => ?_
  refine K p l e R s m args below meth c Q C ret H1 _ cells slots lsA (hI.set z (hP.set cW_D he ?_ oq)) (hS.put z oq (cW_D.2 a _ he)) hc hs hL
  show H1[EB E + a]? = some (vp_cell _ _)
  rw [e1]
  show some (Cell.setSlot (vp_cell (ETc E 2) (N, .inr (.inr (.inr (.inr (fun j => (f j).map (aR E))))))) _ _) = some (vp_cell (ETc E 2) (N, .inr (.inr (.inr (.inr (fun j => (va_up f i.toNatClampNeg (some b) j).map (aR E)))))))
  rw [vp_cell_q, vp_cell_q, arrV_store]
  congr 2
  funext q
  by_cases hq : q = i.toNatClampNeg
  · subst hq
    simp [updV, va_up, va_rf, eb]
  · simp [updV, va_up, hq]

end GR