/-! AN ORDER OF THE TEXT -/
/-- whether an order stands at p, and where it ends, or its first wrong place -/
def ordR (Y : Nat → Nat) (N p : Nat) : Bool × Nat :=
  if p < N ∧ Y p = 110 then (if dgt Y N (p + 1) then (true, nme Y N (p + 1)) else (false, p + 1))
  else if p < N ∧ (Y p = 119 ∨ Y p = 120 ∨ Y p = 109) then
    (if dgt Y N (p + 1) then
      (if p + 2 < N ∧ Y (p + 2) = 46 then
        (if dgt Y N (p + 3) then
          (if Y p = 119 then
            (if nme Y N (p + 3) < N ∧ Y (nme Y N (p + 3)) = 61 then
              (if dgt Y N (nme Y N (p + 3) + 1) then (true, nme Y N (nme Y N (p + 3) + 1)) else (false, nme Y N (p + 3) + 1))
            else (false, nme Y N (p + 3)))
          else (true, nme Y N (p + 3)))
        else (false, p + 3))
      else (false, p + 2))
    else (false, p + 1))
  else (false, p)
theorem nme_le {Y : Nat → Nat} {N p : Nat} (h : p < N) : p + 1 ≤ nme Y N p ∧ nme Y N p ≤ N := by
  unfold nme
  split
  · omega
  · split
    · rename_i q; omega
    · omega
theorem nI_ne1 {v : Nat} (h : v < 2 ^ 31) : ¬ nI v = (-1) := by
  intro e
  have := congrArg (fun z : Int32 => z.toInt) e
  rw [nI_toInt h] at this
  exact absurd this (by rw [show ((-1 : Int32)).toInt = -1 from by decide]; omega)
theorem nmv_lt {Y : Nat → Nat} {N p : Nat} (h : dgt Y N p) : nmv Y N p < 100 := by
  have h1 := h.2.1
  have h2 := h.2.2
  unfold nmv
  split
  · decide
  · split
    · rename_i q; omega
    · omega
section OR
variable {E : AEnv} {d : Nat} {h : List va_E} {b : Nat} {o X : Nat → Int32}
def OrdPost (Yt : Nat → Nat) (N p : Nat) (h : List va_E) (b : Nat) (o X : Nat → Int32) (x : Int32) (h' : List va_E) : Prop :=
  ∃ o', OrU h b o' X h' ∧ o' 1 = o 1 ∧ o' 3 = o 3 ∧ o' 2 = nI (ordR Yt N p).2 ∧
    (((ordR Yt N p).1 = true ∧ x = nI 1 ∧ o' 4 = nI (Yt p) ∧ (Yt p = 110 → o' 7 = nI (nmv Yt N (p + 1))) ∧ (Yt p ≠ 110 → o' 5 = nI (Yt (p + 1) - 48) ∧ o' 6 = nI (nmv Yt N (p + 3)) ∧ (Yt p = 119 → o' 8 = nI (nmv Yt N (nme Yt N (p + 3) + 1))))) ∨
     ((ordR Yt N p).1 = false ∧ x = nI 0))
end OR
