/-! THE CLASS: the way that would be taken -/
theorem WayX.w {C : Nat → Nat → Nat} {V : Nat → Nat} {g s M c w src X : Nat} (h : WayX C V g s M c w src X) : w = 1 ∨ w = 2 ∨ w = 3 := by
  rcases h with ⟨-, e, -⟩ | ⟨-, -, e, -⟩
  · split at e
    · exact Or.inl e
    · exact Or.inr (Or.inl e)
  · exact Or.inr (Or.inr e)
/-- r is: -1 for no cell, -5 for one that isn't lost, A of the way that is taken, Z if there is none -/
def Asked (C : Nat → Nat → Nat) (V : Nat → Nat → Nat) (Mx : Nat → Nat) (g s T : Nat) (x y : Int32) (A : Nat → Nat → Nat → Int32) (Z r : Int32) : Prop := (¬ (inR x T ∧ inR y (nc g s)) ∧ r = (-1)) ∨ ∃ t c, t < T ∧ c < nc g s ∧ x = nI t ∧ y = nI c ∧ ((¬ bit (Mx t) c ∧ r = (-5)) ∨ (bit (Mx t) c ∧ ((∃ w sc X, WayX C (V t) g s (Mx t) c w sc X ∧ r = A w sc X) ∨ (NoWay C (V t) g s (Mx t) c ∧ r = Z))))
section CL
variable {E : AEnv} {d : Nat} {h h' : List va_E} {b : Nat} {N B S : RP} {n : Nat} {Hs : Nat → RP} {tk : Nat} {o X : Nat → Int32} {G : Nat → Option va_E} {σ : Rows} {g s T sh : Nat}
theorem c_way {x y : Int32} {C : Nat → Nat → Nat} {V : Nat → Nat → Nat} {Mx : Nat → Nat} (hC : ClAt G h b N B S n Hs tk o X) (hS : StAt h (b + 1) σ) (hL : LayX σ g s T sh) (hX : ColX σ (nc g s) C) (hM : ∀ t, t < T → σ 3 t = nI (Mx t) ∧ Mx t < 2 ^ 20) (hV : ∀ t, t < T → ∀ c, c < nc g s → ¬ bit (Mx t) c → σ 2 (t * 20 + c) = nI (V t c) ∧ V t c < 16) (hd : 5 ≤ d) : Calls E mX5_way d 0 0 [.ref b, .int x, .int y] h (RI (fun r h' => ClAt G h' b N B S n Hs tk o X ∧ Asked C V Mx g s T x y (fun w sc v => nI w) 0 r)) := by
  refine Calls.of (ls := [some (.ref b), some (.int x), some (.int y), none]) (by decide +kernel) rfl (Nat.le_of_ble_eq_true rfl) (cat_ok rfl) ?_
  have hpl := hC.2.2.2.2.2.2.2.1
  obtain ⟨s0, t0, hp, r0, cf0, lf0, hB0⟩ := hpl
  refine go_aload_0 (DX5_way.at 0 rfl) ?_
  refine go_getfield (DX5_way.at 1 rfl) fX5_36 hC.1 rfl ?_
  refine go_aload_0 (DX5_way.at 2 rfl) ?_
  refine go_getfield (DX5_way.at 3 rfl) fX5_10 hC.1 rfl ?_
  refine go_iload_1 (DX5_way.at 4 rfl) ?_
  refine go_iload_2 (DX5_way.at 5 rfl) ?_
  refine go_cVi3 (DX5_way.at 6 rfl) nX5_201 vX2_make (by omega) (c_make hp hB0 hS hL hX hM hV (by omega) (by omega)) hp rfl (Nat.le_of_ble_eq_true rfl) (fun x10 h10 q10 => ?_)
  obtain ⟨u, src, out, q1, q⟩ := q10
  have hC2 := hC.toPlan ⟨q1, u⟩
  rcases q with ⟨a1, rfl⟩ | ⟨t, c, ht, hc, rfl, rfl, ⟨a1, rfl⟩ | ⟨a1, ⟨w, sc, X', hW, rfl, rfl, rfl⟩ | ⟨hW, rfl⟩⟩⟩
  · refine go_istore_3 (DX5_way.at 7 rfl) ?_
    refine go_iload_3 (DX5_way.at 8 rfl) ?_
    refine go_bipush (v := (-4)) (DX5_way.at 9 rfl) (by decide) ?_
    refine go_icmp_ne 24 (DX5_way.at 10 rfl) (by decide) (fun c17 => ?_) (fun c17 => absurd c17 (by decide))
    refine go_iload_3 (DX5_way.at 13 rfl) ?_
    exact go_iret (DX5_way.at 14 rfl) rfl rfl (RI.mk ⟨hC2, Or.inl ⟨a1, rfl⟩⟩)
  · refine go_istore_3 (DX5_way.at 7 rfl) ?_
    refine go_iload_3 (DX5_way.at 8 rfl) ?_
    refine go_bipush (v := (-4)) (DX5_way.at 9 rfl) (by decide) ?_
    refine go_icmp_ne 24 (DX5_way.at 10 rfl) (by decide) (fun c17 => ?_) (fun c17 => absurd c17 (by decide))
    refine go_iload_3 (DX5_way.at 13 rfl) ?_
    exact go_iret (DX5_way.at 14 rfl) rfl rfl (RI.mk ⟨hC2, Or.inr ⟨t, c, ht, hc, rfl, rfl, Or.inl ⟨a1, rfl⟩⟩⟩)
  · rcases hW.w with rfl | rfl | rfl
    · refine go_istore_3 (DX5_way.at 7 rfl) ?_
      refine go_iload_3 (DX5_way.at 8 rfl) ?_
      refine go_bipush (v := (-4)) (DX5_way.at 9 rfl) (by decide) ?_
      refine go_icmp_ne 24 (DX5_way.at 10 rfl) (by decide) (fun c17 => ?_) (fun c17 => absurd c17 (by decide))
      refine go_iload_3 (DX5_way.at 13 rfl) ?_
      exact go_iret (DX5_way.at 14 rfl) rfl rfl (RI.mk ⟨hC2, Or.inr ⟨t, c, ht, hc, rfl, rfl, Or.inr ⟨a1, Or.inl ⟨_, _, _, hW, rfl⟩⟩⟩⟩)
    · refine go_istore_3 (DX5_way.at 7 rfl) ?_
      refine go_iload_3 (DX5_way.at 8 rfl) ?_
      refine go_bipush (v := (-4)) (DX5_way.at 9 rfl) (by decide) ?_
      refine go_icmp_ne 24 (DX5_way.at 10 rfl) (by decide) (fun c17 => ?_) (fun c17 => absurd c17 (by decide))
      refine go_iload_3 (DX5_way.at 13 rfl) ?_
      exact go_iret (DX5_way.at 14 rfl) rfl rfl (RI.mk ⟨hC2, Or.inr ⟨t, c, ht, hc, rfl, rfl, Or.inr ⟨a1, Or.inl ⟨_, _, _, hW, rfl⟩⟩⟩⟩)
    · refine go_istore_3 (DX5_way.at 7 rfl) ?_
      refine go_iload_3 (DX5_way.at 8 rfl) ?_
      refine go_bipush (v := (-4)) (DX5_way.at 9 rfl) (by decide) ?_
      refine go_icmp_ne 24 (DX5_way.at 10 rfl) (by decide) (fun c17 => ?_) (fun c17 => absurd c17 (by decide))
      refine go_iload_3 (DX5_way.at 13 rfl) ?_
      exact go_iret (DX5_way.at 14 rfl) rfl rfl (RI.mk ⟨hC2, Or.inr ⟨t, c, ht, hc, rfl, rfl, Or.inr ⟨a1, Or.inl ⟨_, _, _, hW, rfl⟩⟩⟩⟩)
  · refine go_istore_3 (DX5_way.at 7 rfl) ?_
    refine go_iload_3 (DX5_way.at 8 rfl) ?_
    refine go_bipush (v := (-4)) (DX5_way.at 9 rfl) (by decide) ?_
    refine go_icmp_ne 24 (DX5_way.at 10 rfl) (by decide) (fun c17 => absurd rfl c17) (fun c17 => ?_)
    refine go_iconst (v := nI 0) (DX5_way.at 11 rfl) (by decide) ?_
    refine go_goto 25 (DX5_way.at 12 rfl) (by decide) ?_
    exact go_iret (DX5_way.at 14 rfl) rfl rfl (RI.mk ⟨hC2, Or.inr ⟨t, c, ht, hc, rfl, rfl, Or.inr ⟨a1, Or.inr ⟨hW, rfl⟩⟩⟩⟩)

theorem c_mended {x y : Int32} {C : Nat → Nat → Nat} {V : Nat → Nat → Nat} {Mx : Nat → Nat} (hC : ClAt G h b N B S n Hs tk o X) (hS : StAt h (b + 1) σ) (hL : LayX σ g s T sh) (hX : ColX σ (nc g s) C) (hM : ∀ t, t < T → σ 3 t = nI (Mx t) ∧ Mx t < 2 ^ 20) (hV : ∀ t, t < T → ∀ c, c < nc g s → ¬ bit (Mx t) c → σ 2 (t * 20 + c) = nI (V t c) ∧ V t c < 16) (hd : 5 ≤ d) : Calls E mX5_mended d 0 0 [.ref b, .int x, .int y] h (RI (fun r h' => ClAt G h' b N B S n Hs tk o X ∧ Asked C V Mx g s T x y (fun w sc v => nI v) (-4) r)) := by
  refine Calls.of (ls := [some (.ref b), some (.int x), some (.int y), none]) (by decide +kernel) rfl (Nat.le_of_ble_eq_true rfl) (cat_ok rfl) ?_
  have hpl := hC.2.2.2.2.2.2.2.1
  obtain ⟨s0, t0, hp, r0, cf0, lf0, hB0⟩ := hpl
  refine go_aload_0 (DX5_mended.at 0 rfl) ?_
  refine go_getfield (DX5_mended.at 1 rfl) fX5_36 hC.1 rfl ?_
  refine go_aload_0 (DX5_mended.at 2 rfl) ?_
  refine go_getfield (DX5_mended.at 3 rfl) fX5_10 hC.1 rfl ?_
  refine go_iload_1 (DX5_mended.at 4 rfl) ?_
  refine go_iload_2 (DX5_mended.at 5 rfl) ?_
  refine go_cVi3 (DX5_mended.at 6 rfl) nX5_201 vX2_make (by omega) (c_make hp hB0 hS hL hX hM hV (by omega) (by omega)) hp rfl (Nat.le_of_ble_eq_true rfl) (fun x10 h10 q10 => ?_)
  obtain ⟨u, src, out, q1, q⟩ := q10
  have hC2 := hC.toPlan ⟨q1, u⟩
  rcases q with ⟨a1, rfl⟩ | ⟨t, c, ht, hc, rfl, rfl, ⟨a1, rfl⟩ | ⟨a1, ⟨w, sc, X', hW, rfl, rfl, rfl⟩ | ⟨hW, rfl⟩⟩⟩
  · refine go_istore_3 (DX5_mended.at 7 rfl) ?_
    refine go_iload_3 (DX5_mended.at 8 rfl) ?_
    refine go_if_lt 28 (DX5_mended.at 9 rfl) (by decide) (fun c15 => ?_) (fun c15 => absurd (by decide) c15)
    refine go_iload_3 (DX5_mended.at 14 rfl) ?_
    exact go_iret (DX5_mended.at 15 rfl) rfl rfl (RI.mk ⟨hC2, Or.inl ⟨a1, rfl⟩⟩)
  · refine go_istore_3 (DX5_mended.at 7 rfl) ?_
    refine go_iload_3 (DX5_mended.at 8 rfl) ?_
    refine go_if_lt 28 (DX5_mended.at 9 rfl) (by decide) (fun c15 => ?_) (fun c15 => absurd (by decide) c15)
    refine go_iload_3 (DX5_mended.at 14 rfl) ?_
    exact go_iret (DX5_mended.at 15 rfl) rfl rfl (RI.mk ⟨hC2, Or.inr ⟨t, c, ht, hc, rfl, rfl, Or.inl ⟨a1, rfl⟩⟩⟩)
  · rcases hW.w with rfl | rfl | rfl
    · refine go_istore_3 (DX5_mended.at 7 rfl) ?_
      refine go_iload_3 (DX5_mended.at 8 rfl) ?_
      refine go_if_lt 28 (DX5_mended.at 9 rfl) (by decide) (fun c15 => absurd c15 (by decide)) (fun c15 => ?_)
      refine go_aload_0 (DX5_mended.at 10 rfl) ?_
      refine go_getfield (DX5_mended.at 11 rfl) fX5_36 hC2.1 rfl ?_
      refine go_getfield (DX5_mended.at 12 rfl) fX5_213 q1.1 rfl ?_
      refine go_goto 29 (DX5_mended.at 13 rfl) (by decide) ?_
      exact go_iret (DX5_mended.at 15 rfl) rfl rfl (RI.mk ⟨hC2, Or.inr ⟨t, c, ht, hc, rfl, rfl, Or.inr ⟨a1, Or.inl ⟨_, _, _, hW, rfl⟩⟩⟩⟩)
    · refine go_istore_3 (DX5_mended.at 7 rfl) ?_
      refine go_iload_3 (DX5_mended.at 8 rfl) ?_
      refine go_if_lt 28 (DX5_mended.at 9 rfl) (by decide) (fun c15 => absurd c15 (by decide)) (fun c15 => ?_)
      refine go_aload_0 (DX5_mended.at 10 rfl) ?_
      refine go_getfield (DX5_mended.at 11 rfl) fX5_36 hC2.1 rfl ?_
      refine go_getfield (DX5_mended.at 12 rfl) fX5_213 q1.1 rfl ?_
      refine go_goto 29 (DX5_mended.at 13 rfl) (by decide) ?_
      exact go_iret (DX5_mended.at 15 rfl) rfl rfl (RI.mk ⟨hC2, Or.inr ⟨t, c, ht, hc, rfl, rfl, Or.inr ⟨a1, Or.inl ⟨_, _, _, hW, rfl⟩⟩⟩⟩)
    · refine go_istore_3 (DX5_mended.at 7 rfl) ?_
      refine go_iload_3 (DX5_mended.at 8 rfl) ?_
      refine go_if_lt 28 (DX5_mended.at 9 rfl) (by decide) (fun c15 => absurd c15 (by decide)) (fun c15 => ?_)
      refine go_aload_0 (DX5_mended.at 10 rfl) ?_
      refine go_getfield (DX5_mended.at 11 rfl) fX5_36 hC2.1 rfl ?_
      refine go_getfield (DX5_mended.at 12 rfl) fX5_213 q1.1 rfl ?_
      refine go_goto 29 (DX5_mended.at 13 rfl) (by decide) ?_
      exact go_iret (DX5_mended.at 15 rfl) rfl rfl (RI.mk ⟨hC2, Or.inr ⟨t, c, ht, hc, rfl, rfl, Or.inr ⟨a1, Or.inl ⟨_, _, _, hW, rfl⟩⟩⟩⟩)
  · refine go_istore_3 (DX5_mended.at 7 rfl) ?_
    refine go_iload_3 (DX5_mended.at 8 rfl) ?_
    refine go_if_lt 28 (DX5_mended.at 9 rfl) (by decide) (fun c15 => ?_) (fun c15 => absurd (by decide) c15)
    refine go_iload_3 (DX5_mended.at 14 rfl) ?_
    exact go_iret (DX5_mended.at 15 rfl) rfl rfl (RI.mk ⟨hC2, Or.inr ⟨t, c, ht, hc, rfl, rfl, Or.inr ⟨a1, Or.inr ⟨hW, rfl⟩⟩⟩⟩)

end CL
