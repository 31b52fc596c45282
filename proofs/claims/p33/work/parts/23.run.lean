/-! THE SEARCH'S RUN -/
section SE
variable {E : AEnv} {d : Nat} {h : List va_E} {b : Nat} {σ : Rows} {g s T sh : Nat}
end SE
