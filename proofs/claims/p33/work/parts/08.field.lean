/-! THE FIELD WITH 16 ELEMENTS, as the numbers below 16: sum ^^^, product gm -/
def xt (a : Nat) : Nat := (2 * (a % 8)) ^^^ (3 * (a / 8))
def gm (a x : Nat) : Nat := ((if x % 2 = 1 then a else 0) ^^^ (if x / 2 % 2 = 1 then xt a else 0)) ^^^ ((if x / 4 % 2 = 1 then xt (xt a) else 0) ^^^ (if x / 8 % 2 = 1 then xt (xt (xt a)) else 0))
def gv (a : Nat) : Nat := ([0, 1, 9, 14, 13, 11, 7, 6, 15, 2, 12, 5, 10, 4, 3, 8] : List Nat).getD a 0
/-- the powers of 2 -/
def pw (i : Nat) : Nat := ([1, 2, 4, 8, 3, 6, 12, 11, 5, 10, 7, 14, 15, 13, 9] : List Nat).getD (i % 15) 0
theorem dec1 {P : Nat → Prop} [DecidablePred P] (h : (List.range 16).all (fun a => decide (P a)) = true) {a : Nat} (ha : a < 16) : P a := of_decide_eq_true (List.all_eq_true.mp h a (List.mem_range.mpr ha))
theorem dec2 {P : Nat → Nat → Prop} [∀ a b, Decidable (P a b)] (h : (List.range 16).all (fun a => (List.range 16).all (fun b => decide (P a b))) = true) {a b : Nat} (ha : a < 16) (hb : b < 16) : P a b :=
  of_decide_eq_true (List.all_eq_true.mp (List.all_eq_true.mp h a (List.mem_range.mpr ha)) b (List.mem_range.mpr hb))
theorem dec3 {P : Nat → Nat → Nat → Prop} [∀ a b c, Decidable (P a b c)] (h : (List.range 16).all (fun a => (List.range 16).all (fun b => (List.range 16).all (fun c => decide (P a b c)))) = true) {a b c : Nat} (ha : a < 16) (hb : b < 16) (hc : c < 16) : P a b c :=
  of_decide_eq_true (List.all_eq_true.mp (List.all_eq_true.mp (List.all_eq_true.mp h a (List.mem_range.mpr ha)) b (List.mem_range.mpr hb)) c (List.mem_range.mpr hc))
theorem xt_lt {a : Nat} : a < 16 → xt a < 16 := dec1 (P := fun a => xt a < 16) (by decide +kernel)
theorem gm_lt {a b : Nat} : a < 16 → b < 16 → gm a b < 16 := dec2 (P := fun a b => gm a b < 16) (by decide +kernel)
theorem gm_comm {a b : Nat} : a < 16 → b < 16 → gm a b = gm b a := dec2 (P := fun a b => gm a b = gm b a) (by decide +kernel)
theorem gm_assoc {a b c : Nat} : a < 16 → b < 16 → c < 16 → gm (gm a b) c = gm a (gm b c) := dec3 (P := fun a b c => gm (gm a b) c = gm a (gm b c)) (by decide +kernel)
theorem gm_xor {a b c : Nat} : a < 16 → b < 16 → c < 16 → gm a (b ^^^ c) = gm a b ^^^ gm a c := dec3 (P := fun a b c => gm a (b ^^^ c) = gm a b ^^^ gm a c) (by decide +kernel)
theorem xor_gm {a b c : Nat} : a < 16 → b < 16 → c < 16 → gm (a ^^^ b) c = gm a c ^^^ gm b c := dec3 (P := fun a b c => gm (a ^^^ b) c = gm a c ^^^ gm b c) (by decide +kernel)
theorem xor_lt {a b : Nat} : a < 16 → b < 16 → a ^^^ b < 16 := dec2 (P := fun a b => a ^^^ b < 16) (by decide +kernel)
theorem gm_0 {a : Nat} : a < 16 → gm a 0 = 0 := dec1 (P := fun a => gm a 0 = 0) (by decide +kernel)
theorem gm_0l {a : Nat} : a < 16 → gm 0 a = 0 := dec1 (P := fun a => gm 0 a = 0) (by decide +kernel)
theorem gm_1 {a : Nat} : a < 16 → gm a 1 = a := dec1 (P := fun a => gm a 1 = a) (by decide +kernel)
theorem gm_1l {a : Nat} : a < 16 → gm 1 a = a := dec1 (P := fun a => gm 1 a = a) (by decide +kernel)
theorem gv_lt {a : Nat} : a < 16 → gv a < 16 := dec1 (P := fun a => gv a < 16) (by decide +kernel)
theorem gm_gv {a : Nat} : a < 16 → a ≠ 0 → gm a (gv a) = 1 := dec1 (P := fun a => a ≠ 0 → gm a (gv a) = 1) (by decide +kernel)
theorem gm_eq0 {a b : Nat} : a < 16 → b < 16 → gm a b = 0 → a = 0 ∨ b = 0 := dec2 (P := fun a b => gm a b = 0 → a = 0 ∨ b = 0) (by decide +kernel)
theorem xor_self0 (a : Nat) : a ^^^ a = 0 := Nat.xor_self a
theorem xor_eq0 {a b : Nat} (h : a ^^^ b = 0) : a = b := by
  have h1 : a ^^^ b ^^^ b = 0 ^^^ b := by rw [h]
  rwa [Nat.xor_assoc, Nat.xor_self, Nat.xor_zero, Nat.zero_xor] at h1
theorem pw_lt (i : Nat) : pw i < 16 := by
  have h : (List.range 15).all (fun i => decide (([1, 2, 4, 8, 3, 6, 12, 11, 5, 10, 7, 14, 15, 13, 9] : List Nat).getD i 0 < 16)) = true := by decide +kernel
  exact of_decide_eq_true (List.all_eq_true.mp h (i % 15) (List.mem_range.mpr (Nat.mod_lt _ (by decide))))
theorem pw_ne0 (i : Nat) : pw i ≠ 0 := by
  have h : (List.range 15).all (fun i => decide (([1, 2, 4, 8, 3, 6, 12, 11, 5, 10, 7, 14, 15, 13, 9] : List Nat).getD i 0 ≠ 0)) = true := by decide +kernel
  exact of_decide_eq_true (List.all_eq_true.mp h (i % 15) (List.mem_range.mpr (Nat.mod_lt _ (by decide))))
theorem pw_succ {i : Nat} (h : i < 15) : gm (pw i) 2 = pw (i + 1) := by
  have h1 : (List.range 15).all (fun i => decide (gm (pw i) 2 = pw (i + 1))) = true := by decide +kernel
  exact of_decide_eq_true (List.all_eq_true.mp h1 i (List.mem_range.mpr h))
theorem pw_sq {i : Nat} (h : i < 15) : gm (pw i) (pw i) = pw (2 * i) := by
  have h1 : (List.range 15).all (fun i => decide (gm (pw i) (pw i) = pw (2 * i))) = true := by decide +kernel
  exact of_decide_eq_true (List.all_eq_true.mp h1 i (List.mem_range.mpr h))
/-! vectors of n elements packed in one number, four bits each -/
def pq : Nat → (Nat → Nat) → Nat
  | 0, _ => 0
  | n + 1, v => v 0 + 16 * pq n (fun i => v (i + 1))
theorem pq_lt : ∀ (n : Nat) (v : Nat → Nat), (∀ i, i < n → v i < 16) → pq n v < 16 ^ n
  | 0, _, _ => by simp [pq]
  | n + 1, v, hv => by
    have h1 := hv 0 (by omega)
    have h2 := pq_lt n (fun i => v (i + 1)) (fun i hi => hv (i + 1) (by omega))
    show v 0 + 16 * pq n (fun i => v (i + 1)) < 16 ^ (n + 1)
    rw [Nat.pow_succ]
    omega
theorem pq_congr : ∀ {n : Nat} {u v : Nat → Nat}, (∀ i, i < n → u i = v i) → pq n u = pq n v
  | 0, _, _, _ => rfl
  | n + 1, u, v, h => by
    show u 0 + 16 * pq n (fun i => u (i + 1)) = v 0 + 16 * pq n (fun i => v (i + 1))
    rw [h 0 (by omega), pq_congr (u := fun i => u (i + 1)) (v := fun i => v (i + 1)) (fun i hi => h (i + 1) (by omega))]
theorem op16 (a b c d : Nat) (ha : a < 16) (hc : c < 16) : (a + 16 * b) ^^^ (c + 16 * d) = (a ^^^ c) + 16 * (b ^^^ d) := by
  have e1 : a + 16 * b = 2 ^ 4 * b + a := by omega
  have e2 : c + 16 * d = 2 ^ 4 * d + c := by omega
  have e3 : (a ^^^ c) + 16 * (b ^^^ d) = 2 ^ 4 * (b ^^^ d) + (a ^^^ c) := by omega
  rw [e1, e2, e3]
  have hx : a ^^^ c < 2 ^ 4 := xor_lt ha hc
  apply Nat.eq_of_testBit_eq
  intro i
  rw [Nat.testBit_xor, Nat.testBit_two_pow_mul_add _ (show a < 2 ^ 4 from ha), Nat.testBit_two_pow_mul_add _ (show c < 2 ^ 4 from hc), Nat.testBit_two_pow_mul_add _ hx]
  by_cases hi : i < 4
  · simp [hi, Nat.testBit_xor]
  · simp [hi, Nat.testBit_xor]
theorem and16 (a b c d : Nat) (ha : a < 16) (hc : c < 16) : (a + 16 * b) &&& (c + 16 * d) = (a &&& c) + 16 * (b &&& d) := by
  have e1 : a + 16 * b = 2 ^ 4 * b + a := by omega
  have e2 : c + 16 * d = 2 ^ 4 * d + c := by omega
  have e3 : (a &&& c) + 16 * (b &&& d) = 2 ^ 4 * (b &&& d) + (a &&& c) := by omega
  rw [e1, e2, e3]
  have hx : a &&& c < 2 ^ 4 := Nat.lt_of_le_of_lt Nat.and_le_left ha
  apply Nat.eq_of_testBit_eq
  intro i
  rw [Nat.testBit_and, Nat.testBit_two_pow_mul_add _ (show a < 2 ^ 4 from ha), Nat.testBit_two_pow_mul_add _ (show c < 2 ^ 4 from hc), Nat.testBit_two_pow_mul_add _ hx]
  by_cases hi : i < 4
  · simp [hi, Nat.testBit_and]
  · simp [hi, Nat.testBit_and]
theorem pq_xor : ∀ (n : Nat) (u v : Nat → Nat), (∀ i, i < n → u i < 16) → (∀ i, i < n → v i < 16) → pq n u ^^^ pq n v = pq n (fun i => u i ^^^ v i)
  | 0, _, _, _, _ => by simp [pq]
  | n + 1, u, v, hu, hv => by
    show (u 0 + 16 * pq n (fun i => u (i + 1))) ^^^ (v 0 + 16 * pq n (fun i => v (i + 1))) = _
    rw [op16 _ _ _ _ (hu 0 (by omega)) (hv 0 (by omega)), pq_xor n _ _ (fun i hi => hu (i + 1) (by omega)) (fun i hi => hv (i + 1) (by omega))]
    rfl
theorem pq_mask : ∀ (n : Nat) (u v : Nat → Nat), (∀ i, i < n → u i < 16) → (∀ i, i < n → v i < 16) → pq n u &&& pq n v = pq n (fun i => u i &&& v i)
  | 0, _, _, _, _ => by simp [pq]
  | n + 1, u, v, hu, hv => by
    show (u 0 + 16 * pq n (fun i => u (i + 1))) &&& (v 0 + 16 * pq n (fun i => v (i + 1))) = _
    rw [and16 _ _ _ _ (hu 0 (by omega)) (hv 0 (by omega)), pq_mask n _ _ (fun i hi => hu (i + 1) (by omega)) (fun i hi => hv (i + 1) (by omega))]
    rfl
theorem pq_mul : ∀ (n c : Nat) (v : Nat → Nat), pq n v * c = pq n (fun i => v i * c)
  | 0, _, _ => by simp [pq]
  | n + 1, c, v => by
    show (v 0 + 16 * pq n (fun i => v (i + 1))) * c = v 0 * c + 16 * pq n (fun i => v (i + 1) * c)
    rw [← pq_mul n c (fun i => v (i + 1)), Nat.add_mul, Nat.mul_assoc]
theorem pq_top : ∀ (n : Nat) (v : Nat → Nat), (∀ i, i < n → v i < 16) → (pq n v / 8) &&& pq n (fun _ => 1) = pq n (fun i => v i / 8)
  | 0, _, _ => by simp [pq]
  | n + 1, v, hv => by
    have h0 := hv 0 (by omega)
    have e : (v 0 + 16 * pq n (fun i => v (i + 1))) / 8 = (v 0 / 8 + 2 * (pq n (fun i => v (i + 1)) % 8)) + 16 * (pq n (fun i => v (i + 1)) / 8) := by omega
    show ((v 0 + 16 * pq n (fun i => v (i + 1))) / 8) &&& (1 + 16 * pq n (fun _ => 1)) = v 0 / 8 + 16 * pq n (fun i => v (i + 1) / 8)
    rw [e, and16 _ _ _ _ (by omega) (by omega), pq_top n _ (fun i hi => hv (i + 1) (by omega))]
    have h1 : (v 0 / 8 + 2 * (pq n (fun i => v (i + 1)) % 8)) &&& 1 = v 0 / 8 := by
      rw [Nat.and_one_is_mod]
      omega
    rw [h1]
theorem pq_el : ∀ (n : Nat) (v : Nat → Nat), (∀ i, i < n → v i < 16) → ∀ k, k < n → pq n v / 16 ^ k % 16 = v k
  | 0, _, _, k, hk => by omega
  | n + 1, v, hv, 0, hk => by
    have h0 := hv 0 (by omega)
    show (v 0 + 16 * pq n (fun i => v (i + 1))) / 1 % 16 = v 0
    omega
  | n + 1, v, hv, k + 1, hk => by
    have h0 := hv 0 (by omega)
    have ih := pq_el n (fun i => v (i + 1)) (fun i hi => hv (i + 1) (by omega)) k (by omega)
    show (v 0 + 16 * pq n (fun i => v (i + 1))) / 16 ^ (k + 1) % 16 = v (k + 1)
    rw [Nat.pow_succ, Nat.mul_comm (16 ^ k) 16, ← Nat.div_div_eq_div_mul]
    have e : (v 0 + 16 * pq n (fun i => v (i + 1))) / 16 = pq n (fun i => v (i + 1)) := by omega
    rw [e]
    exact ih
theorem pq_inj {n : Nat} {u v : Nat → Nat} (hu : ∀ i, i < n → u i < 16) (hv : ∀ i, i < n → v i < 16) (h : pq n u = pq n v) : ∀ i, i < n → u i = v i := by
  intro i hi
  rw [← pq_el n u hu i hi, ← pq_el n v hv i hi, h]
theorem pq_0 : ∀ n, pq n (fun _ => 0) = 0
  | 0 => rfl
  | n + 1 => by show 0 + 16 * pq n (fun _ => 0) = 0; rw [pq_0 n]
/-- one step of the class's product: all elements times 2 -/
theorem pq_xt (v : Nat → Nat) (hv : ∀ i, i < 6 → v i < 16) : ((pq 6 v &&& 7829367) * 2) ^^^ (((pq 6 v / 8) &&& 1118481) * 3) = pq 6 (fun i => xt (v i)) := by
  have e7 : 7829367 = pq 6 (fun _ => 7) := by decide
  have e1 : 1118481 = pq 6 (fun _ => 1) := by decide
  rw [e7, e1, pq_mask 6 v _ hv (fun _ _ => by decide), pq_top 6 v hv, pq_mul, pq_mul, pq_xor]
  · refine pq_congr fun i hi => ?_
    exact dec1 (P := fun a => (a &&& 7) * 2 ^^^ a / 8 * 3 = xt a) (by decide +kernel) (hv i hi)
  · intro i hi
    exact dec1 (P := fun a => (a &&& 7) * 2 < 16) (by decide +kernel) (hv i hi)
  · intro i hi
    exact dec1 (P := fun a => a / 8 * 3 < 16) (by decide +kernel) (hv i hi)
