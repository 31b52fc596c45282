/-! THE FAULT OF THE TEXT -/
theorem ordR_ok {Y : Nat → Nat} {N p : Nat} (h : (ordR Y N p).1 = true) : p + 2 ≤ (ordR Y N p).2 ∧ (ordR Y N p).2 ≤ N := by
  revert h
  unfold ordR
  split
  · split
    · rename_i q; intro _; have := nme_le (Y := Y) (N := N) (p := p + 1) q.1; exact ⟨by show p + 2 ≤ nme Y N (p + 1); omega, this.2⟩
    · intro h; cases h
  · split
    · split
      · split
        · split
          · rename_i q3
            have l3 := nme_le (Y := Y) (N := N) (p := p + 3) q3.1
            split
            · split
              · split
                · rename_i q5; intro _; have := nme_le (Y := Y) (N := N) (p := nme Y N (p + 3) + 1) q5.1; exact ⟨by show p + 2 ≤ nme Y N (nme Y N (p + 3) + 1); omega, this.2⟩
                · intro h; cases h
              · intro h; cases h
            · intro _; exact ⟨by show p + 2 ≤ nme Y N (p + 3); omega, l3.2⟩
          · intro h; cases h
        · intro h; cases h
      · intro h; cases h
    · intro h; cases h
theorem ordR_le {Y : Nat → Nat} {N p : Nat} (hp : p ≤ N) : (ordR Y N p).2 ≤ N := by
  unfold ordR
  split
  · rename_i q
    split
    · rename_i q1; exact (nme_le q1.1).2
    · show p + 1 ≤ N; omega
  · split
    · rename_i q
      split
      · rename_i q1
        split
        · rename_i q2
          split
          · rename_i q3
            have l3 := nme_le (Y := Y) (N := N) (p := p + 3) q3.1
            split
            · split
              · rename_i q4
                split
                · rename_i q5; exact (nme_le q5.1).2
                · show nme Y N (p + 3) + 1 ≤ N; omega
              · exact l3.2
            · exact l3.2
          · show p + 3 ≤ N; omega
        · show p + 2 ≤ N; have := q1.1; omega
      · show p + 1 ≤ N; omega
    · exact hp
/-- the fault of the text from p on, if there is one, and how many orders there are; m: more than the signs that are left -/
def ffS (Y : Nat → Nat) (N : Nat) : Nat → Nat → Option Nat × Nat
  | 0, p => (some p, 0)
  | m + 1, p => if (ordR Y N p).1 = false then (some (ordR Y N p).2, 0) else
      if (ordR Y N p).2 < N ∧ Y (ordR Y N p).2 = 59 then ((ffS Y N m ((ordR Y N p).2 + 1)).1, (ffS Y N m ((ordR Y N p).2 + 1)).2 + 1)
      else if (ordR Y N p).2 < N then (some (ordR Y N p).2, 1) else (none, 1)
section OR
variable {E : AEnv} {d : Nat} {h : List va_E} {b : Nat} {o X : Nat → Int32}
end OR
