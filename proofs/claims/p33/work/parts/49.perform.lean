/-! THE CLASS: orders are carried out -/
/-- the order at p -/
noncomputable def exO (Y : Nat → Nat) (N p : Nat) (A : Ab) : Int32 × Ab :=
  if Y p = 110 then lsF A (nI (nmv Y N (p + 1)))
  else if Y p = 119 then wrF A (nI (Y (p + 1) - 48)) (nI (nmv Y N (p + 3))) (nI (nmv Y N (nme Y N (p + 3) + 1)))
  else if Y p = 120 then loF A (nI (Y (p + 1) - 48)) (nI (nmv Y N (p + 3)))
  else mdF A (nI (Y (p + 1) - 48)) (nI (nmv Y N (p + 3)))
/-- an error, that is not NONE -/
def errI (x : Int32) : Prop := x < 0 ∧ x ≠ -5
/-- the orders from p on, so many -/
noncomputable def prG (Y : Nat → Nat) (N : Nat) : Nat → Nat → Ab → Int32 × Ab
  | 0, _, A => (0, A)
  | m + 1, p, A => cI (errI (exO Y N p A).1) (exO Y N p A) (prG Y N m ((ordR Y N p).2 + 1) (exO Y N p A).2)
noncomputable def pfF (Y : Nat → Nat) (N : Nat) (A : Ab) : Int32 × Ab := match (ffS Y N (N + 1) 0).1 with
  | some f => (-100 - nI f, A)
  | none => cI ((prG Y N (ffS Y N (N + 1) 0).2 0 A).1 < 0) (prG Y N (ffS Y N (N + 1) 0).2 0 A) (nI (ffS Y N (N + 1) 0).2, (prG Y N (ffS Y N (N + 1) 0).2 0 A).2)
theorem ordR_kind {Y : Nat → Nat} {N p : Nat} (h : (ordR Y N p).1 = true) : p < N ∧ (Y p = 110 ∨ Y p = 119 ∨ Y p = 120 ∨ Y p = 109) := by
  unfold ordR at h
  by_cases q : p < N ∧ Y p = 110
  · exact ⟨q.1, Or.inl q.2⟩
  · rw [if_neg q] at h
    by_cases q2 : p < N ∧ (Y p = 119 ∨ Y p = 120 ∨ Y p = 109)
    · exact ⟨q2.1, Or.inr q2.2⟩
    · rw [if_neg q2] at h
      cases h
theorem ffS_cnt {Y : Nat → Nat} {N : Nat} : ∀ m p, p ≤ N → (ffS Y N m p).2 ≤ N - p + 1
  | 0, p, _ => Nat.zero_le _
  | m + 1, p, hp => by
    unfold ffS
    by_cases q : (ordR Y N p).1 = false
    · rw [if_pos q]
      exact Nat.zero_le _
    · have ho : (ordR Y N p).1 = true := by
        cases e : (ordR Y N p).1 with
        | true => rfl
        | false => exact absurd e q
      have h1 := ordR_ok ho
      rw [if_neg q]
      by_cases q2 : (ordR Y N p).2 < N ∧ Y (ordR Y N p).2 = 59
      · rw [if_pos q2]
        have ih := ffS_cnt (Y := Y) (N := N) m ((ordR Y N p).2 + 1) (by omega)
        show (ffS Y N m ((ordR Y N p).2 + 1)).2 + 1 ≤ N - p + 1
        omega
      · rw [if_neg q2]
        by_cases q3 : (ordR Y N p).2 < N
        · rw [if_pos q3]
          show 1 ≤ N - p + 1
          omega
        · rw [if_neg q3]
          show 1 ≤ N - p + 1
          omega
theorem prG_no {Y : Nat → Nat} {N m p : Nat} {A : Ab} (h : ¬ errI (exO Y N p A).1) : prG Y N (m + 1) p A = prG Y N m ((ordR Y N p).2 + 1) (exO Y N p A).2 := cI_f h
theorem prG_yes {Y : Nat → Nat} {N m p : Nat} {A : Ab} (h : errI (exO Y N p A).1) : prG Y N (m + 1) p A = exO Y N p A := cI_t h
theorem nI_0x {x : Int32} : nI 0 ≤ x ↔ ¬ x < 0 := Int32.not_lt.symm
section CL
variable {E : AEnv} {d : Nat} {h h' : List va_E} {b : Nat} {A : Ab} {B S : RP} {n : Nat} {Hs : Nat → RP} {tk : Nat} {o X : Nat → Int32} {G : Nat → Option va_E} {Y : Nat → Nat} {N p : Nat}
theorem ffS_le {Y : Nat → Nat} {N f : Nat} (hN : N ≤ 60) (h : (ffS Y N (N + 1) 0).1 = some f) : f ≤ 100 := by
  have key : ∀ m p, p ≤ N → N < p + m → ∀ f, (ffS Y N m p).1 = some f → f ≤ N := by
    intro m
    induction m with
    | zero => intro p h1 h2; omega
    | succ m ih =>
      intro p hp hm f hf
      have hle := ordR_le (Y := Y) hp
      unfold ffS at hf
      by_cases q : (ordR Y N p).1 = false
      · rw [if_pos q] at hf
        cases hf
        exact hle
      · rw [if_neg q] at hf
        have ho : (ordR Y N p).1 = true := by
          cases e : (ordR Y N p).1 with
          | true => rfl
          | false => exact absurd e q
        have h1 := ordR_ok ho
        by_cases q2 : (ordR Y N p).2 < N ∧ Y (ordR Y N p).2 = 59
        · rw [if_pos q2] at hf
          exact ih ((ordR Y N p).2 + 1) (by omega) (by omega) f hf
        · rw [if_neg q2] at hf
          by_cases q3 : (ordR Y N p).2 < N
          · rw [if_pos q3] at hf
            cases hf
            exact hle
          · rw [if_neg q3] at hf
            cases hf
  have := key (N + 1) 0 (Nat.zero_le _) (by omega) f h
  omega
theorem m100 {f : Nat} (h : f ≤ 100) : -100 - nI f < 0 := by
  have hd : (List.range 101).all (fun f => decide (-100 - nI f < 0)) = true := by decide +kernel
  exact of_decide_eq_true (List.all_eq_true.mp hd f (List.mem_range.mpr (by omega)))
end CL
