/-! THE SEARCH FOR FATAL SETS -/
/-- a Search at b: how many cells are wanted, sets found, the least nodes, its rows -/
def SeIs (h : List va_E) (b w fd ls : Nat) (rf : Nat → Int32) : Prop := h[b]? = some (.inr (3, [.ref (b + 1), .int (nI w), .int (nI fd), .int (nI ls)])) ∧ h[b + 1]? = some (ar 80 rf)
theorem SeIs.keep {h h1 : List va_E} {b lo hi w fd ls : Nat} {rf : Nat → Int32} (hB : SeIs h b w fd ls rf) (hO : Only lo hi h h1) (hd : b + 2 ≤ lo ∨ hi ≤ b) : SeIs h1 b w fd ls rf := ⟨hO.at (by omega) hB.1, hO.at (by omega) hB.2⟩
theorem SeIs.obj {h : List va_E} {b w fd ls w' fd' ls' : Nat} {rf : Nat → Int32} (hB : SeIs h b w fd ls rf) : SeIs (h.set b (.inr (3, [.ref (b + 1), .int (nI w'), .int (nI fd'), .int (nI ls')]))) b w' fd' ls' rf ∧ Only b (b + 2) h (h.set b (.inr (3, [.ref (b + 1), .int (nI w'), .int (nI fd'), .int (nI ls')]))) :=
  ⟨⟨get_set hB.1, by rw [List.getElem?_set_ne (by omega)]; exact hB.2⟩, Only.set (by omega) (by omega)⟩
theorem SeIs.row {h : List va_E} {b w fd ls : Nat} {rf : Nat → Int32} (hB : SeIs h b w fd ls rf) (f : Nat → Int32) : SeIs (h.set (b + 1) (ar 80 f)) b w fd ls f ∧ Only b (b + 2) h (h.set (b + 1) (ar 80 f)) :=
  ⟨⟨by rw [List.getElem?_set_ne (by omega)]; exact hB.1, get_set hB.2⟩, Only.set (by omega) (by omega)⟩
/-- the least of what was and of f 0 .. f (t - 1); 0 is none yet -/
def nt1 (f : Nat → Nat) : Nat → Nat → Nat
  | 0, ls => ls
  | t + 1, ls => if nt1 f t ls = 0 ∨ f t < nt1 f t ls then f t else nt1 f t ls
theorem nt1_lt {f : Nat → Nat} {B : Nat} (hf : ∀ t, f t < B) : ∀ t {ls}, ls < B → nt1 f t ls < B
  | 0, _, h => h
  | t + 1, _, h => by
    unfold nt1
    split
    · exact hf t
    · exact nt1_lt hf t h
theorem ndv_lt {g s sh t A : Nat} (hn : nc g s ≤ 20) : ndv g s sh t A < 2 ^ 20 := by
  have h1 : ndv g s sh t A ≤ 2 ^ nc g s - 1 := Nat.and_le_right
  have h2 := p20 hn
  have h3 : 0 < 2 ^ nc g s := Nat.two_pow_pos _
  omega
noncomputable def depB (C : Nat → Nat → Nat) (n A : Nat) : Bool := @decide (¬ IndP C A n) (Classical.propDecidable _)
theorem depB_t {C : Nat → Nat → Nat} {n A : Nat} (h : ¬ IndP C A n) : depB C n A = true := @decide_eq_true _ (Classical.propDecidable _) h
theorem depB_f {C : Nat → Nat → Nat} {n A : Nat} (h : IndP C A n) : depB C n A = false := @decide_eq_false _ (Classical.propDecidable _) (fun q => q h)
noncomputable def ntF (C : Nat → Nat → Nat) (g s sh T : Nat) (p : Nat × Nat) (A : Nat) : Nat × Nat := if depB C (nc g s) A then (p.1 + 1, nt1 (fun t => ndv g s sh t A) T p.2) else p
/-- all sets of k more cells from n - m on, beside M -/
def dl (n : Nat) : Nat → Nat → Nat → List Nat
  | 0, k, M => if k = 0 then [M] else []
  | m + 1, k, M => if k = 0 then [M] else dl n m (k - 1) (M ||| 2 ^ (n - m - 1)) ++ dl n m k M
section SE
variable {E : AEnv} {d : Nat} {h : List va_E} {b : Nat} {σ : Rows} {g s T sh : Nat}
end SE
