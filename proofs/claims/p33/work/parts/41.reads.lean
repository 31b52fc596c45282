/-! THE CLASS: how many cells would be read -/
theorem pmv_lt20 {g s T sh c : Nat} (hL : LayOK g s T sh) : pmv g s c < 2 ^ 20 := by
  have hn := hL.nc
  have hgs : g * s ≤ 15 := hL.2.2.2.2.1
  unfold pmv
  split
  · rename_i q
    refine Nat.lt_of_le_of_lt Nat.and_le_left (Nat.or_lt_two_pow ?_ (Nat.pow_lt_pow_right (by decide) (by unfold nc at hn; omega)))
    have h1 : hcv g s c * s + s ≤ 15 := by
      have : hcv g s c * s + s = (hcv g s c + 1) * s := by rw [Nat.add_mul, Nat.one_mul]
      rw [this]
      exact Nat.le_trans (Nat.mul_le_mul_right s q) hgs
    have h2 : (2 ^ s - 1) * 2 ^ (hcv g s c * s) ≤ 2 ^ s * 2 ^ (hcv g s c * s) := Nat.mul_le_mul_right _ (Nat.sub_le _ _)
    rw [← Nat.pow_add] at h2
    exact Nat.lt_of_le_of_lt h2 (Nat.pow_lt_pow_right (by decide) (by omega))
  · exact Nat.lt_of_le_of_lt (Nat.sub_le _ _) (Nat.pow_lt_pow_right (by decide) (by omega))
theorem WayX.src {C : Nat → Nat → Nat} {V : Nat → Nat} {g s T sh M c w src X : Nat} (hL : LayOK g s T sh) (h : WayX C V g s M c w src X) : src < 2 ^ 20 := by
  have hn := hL.nc
  rcases h with ⟨-, -, e, -⟩ | ⟨-, -, -, e, -⟩
  · rw [e]
    exact pmv_lt20 hL
  · rw [e]
    have h2n : 2 ^ nc g s ≤ 2 ^ 20 := Nat.pow_le_pow_right (by decide) hn.2
    have h1 : 1 ≤ 2 ^ nc g s := Nat.one_le_two_pow
    exact Nat.lt_of_le_of_lt Nat.and_le_left (by omega)
section CL
variable {E : AEnv} {d : Nat} {h h' : List va_E} {b : Nat} {N B S : RP} {n : Nat} {Hs : Nat → RP} {tk : Nat} {o X : Nat → Int32} {G : Nat → Option va_E} {σ : Rows} {g s T sh : Nat}
theorem c_reads {x y : Int32} {C : Nat → Nat → Nat} {V : Nat → Nat → Nat} {Mx : Nat → Nat} (hC : ClAt G h b N B S n Hs tk o X) (hS : StAt h (b + 1) σ) (hL : LayX σ g s T sh) (hX : ColX σ (nc g s) C) (hM : ∀ t, t < T → σ 3 t = nI (Mx t) ∧ Mx t < 2 ^ 20) (hV : ∀ t, t < T → ∀ c, c < nc g s → ¬ bit (Mx t) c → σ 2 (t * 20 + c) = nI (V t c) ∧ V t c < 16) (hd : 5 ≤ d) : Calls E mX5_reads d 0 0 [.ref b, .int x, .int y] h (RI (fun r h' => ClAt G h' b N B S n Hs tk o X ∧ Asked C V Mx g s T x y (fun w sc v => nI (pcn sc 20)) (-4) r)) := by
  refine Calls.of (ls := [some (.ref b), some (.int x), some (.int y), none]) (by decide +kernel) rfl (Nat.le_of_ble_eq_true rfl) (cat_ok rfl) ?_
  have hpl := hC.2.2.2.2.2.2.2.1
  obtain ⟨s0, t0, hp, r0, cf0, lf0, hB0⟩ := hpl
  refine go_aload_0 (DX5_reads.at 0 rfl) ?_
  refine go_getfield (DX5_reads.at 1 rfl) fX5_36 hC.1 rfl ?_
  refine go_aload_0 (DX5_reads.at 2 rfl) ?_
  refine go_getfield (DX5_reads.at 3 rfl) fX5_10 hC.1 rfl ?_
  refine go_iload_1 (DX5_reads.at 4 rfl) ?_
  refine go_iload_2 (DX5_reads.at 5 rfl) ?_
  refine go_cVi3 (DX5_reads.at 6 rfl) nX5_201 vX2_make (by omega) (c_make hp hB0 hS hL hX hM hV (by omega) (by omega)) hp rfl (Nat.le_of_ble_eq_true rfl) (fun x10 h10 q10 => ?_)
  obtain ⟨u, src, out, q1, q⟩ := q10
  have hC2 := hC.toPlan ⟨q1, u⟩
  rcases q with ⟨a1, rfl⟩ | ⟨t, c, ht, hc, rfl, rfl, ⟨a1, rfl⟩ | ⟨a1, ⟨w, sc, X', hW, rfl, rfl, rfl⟩ | ⟨hW, rfl⟩⟩⟩
  · refine go_istore_3 (DX5_reads.at 7 rfl) ?_
    refine go_iload_3 (DX5_reads.at 8 rfl) ?_
    refine go_if_lt 31 (DX5_reads.at 9 rfl) (by decide) (fun c15 => ?_) (fun c15 => absurd (by decide) c15)
    refine go_iload_3 (DX5_reads.at 15 rfl) ?_
    exact go_iret (DX5_reads.at 16 rfl) rfl rfl (RI.mk ⟨hC2, Or.inl ⟨a1, rfl⟩⟩)
  · refine go_istore_3 (DX5_reads.at 7 rfl) ?_
    refine go_iload_3 (DX5_reads.at 8 rfl) ?_
    refine go_if_lt 31 (DX5_reads.at 9 rfl) (by decide) (fun c15 => ?_) (fun c15 => absurd (by decide) c15)
    refine go_iload_3 (DX5_reads.at 15 rfl) ?_
    exact go_iret (DX5_reads.at 16 rfl) rfl rfl (RI.mk ⟨hC2, Or.inr ⟨t, c, ht, hc, rfl, rfl, Or.inl ⟨a1, rfl⟩⟩⟩)
  · rcases hW.w with rfl | rfl | rfl
    · refine go_istore_3 (DX5_reads.at 7 rfl) ?_
      refine go_iload_3 (DX5_reads.at 8 rfl) ?_
      refine go_if_lt 31 (DX5_reads.at 9 rfl) (by decide) (fun c15 => absurd c15 (by decide)) (fun c15 => ?_)
      refine go_aload_0 (DX5_reads.at 10 rfl) ?_
      refine go_getfield (DX5_reads.at 11 rfl) fX5_36 hC2.1 rfl ?_
      refine go_getfield (DX5_reads.at 12 rfl) fX5_205 q1.1 rfl ?_
      refine go_cSx1 (DX5_reads.at 13 rfl) nX5_208 vJ6_bitCount_0f7a4 (by omega) (c_bitCount (hW.src hL.2.2.2.2)) (Nat.le_of_ble_eq_true rfl) ?_
      refine go_goto 32 (DX5_reads.at 14 rfl) (by decide) ?_
      exact go_iret (DX5_reads.at 16 rfl) rfl rfl (RI.mk ⟨hC2, Or.inr ⟨t, c, ht, hc, rfl, rfl, Or.inr ⟨a1, Or.inl ⟨_, _, _, hW, rfl⟩⟩⟩⟩)
    · refine go_istore_3 (DX5_reads.at 7 rfl) ?_
      refine go_iload_3 (DX5_reads.at 8 rfl) ?_
      refine go_if_lt 31 (DX5_reads.at 9 rfl) (by decide) (fun c15 => absurd c15 (by decide)) (fun c15 => ?_)
      refine go_aload_0 (DX5_reads.at 10 rfl) ?_
      refine go_getfield (DX5_reads.at 11 rfl) fX5_36 hC2.1 rfl ?_
      refine go_getfield (DX5_reads.at 12 rfl) fX5_205 q1.1 rfl ?_
      refine go_cSx1 (DX5_reads.at 13 rfl) nX5_208 vJ6_bitCount_0f7a4 (by omega) (c_bitCount (hW.src hL.2.2.2.2)) (Nat.le_of_ble_eq_true rfl) ?_
      refine go_goto 32 (DX5_reads.at 14 rfl) (by decide) ?_
      exact go_iret (DX5_reads.at 16 rfl) rfl rfl (RI.mk ⟨hC2, Or.inr ⟨t, c, ht, hc, rfl, rfl, Or.inr ⟨a1, Or.inl ⟨_, _, _, hW, rfl⟩⟩⟩⟩)
    · refine go_istore_3 (DX5_reads.at 7 rfl) ?_
      refine go_iload_3 (DX5_reads.at 8 rfl) ?_
      refine go_if_lt 31 (DX5_reads.at 9 rfl) (by decide) (fun c15 => absurd c15 (by decide)) (fun c15 => ?_)
      refine go_aload_0 (DX5_reads.at 10 rfl) ?_
      refine go_getfield (DX5_reads.at 11 rfl) fX5_36 hC2.1 rfl ?_
      refine go_getfield (DX5_reads.at 12 rfl) fX5_205 q1.1 rfl ?_
      refine go_cSx1 (DX5_reads.at 13 rfl) nX5_208 vJ6_bitCount_0f7a4 (by omega) (c_bitCount (hW.src hL.2.2.2.2)) (Nat.le_of_ble_eq_true rfl) ?_
      refine go_goto 32 (DX5_reads.at 14 rfl) (by decide) ?_
      exact go_iret (DX5_reads.at 16 rfl) rfl rfl (RI.mk ⟨hC2, Or.inr ⟨t, c, ht, hc, rfl, rfl, Or.inr ⟨a1, Or.inl ⟨_, _, _, hW, rfl⟩⟩⟩⟩)
  · refine go_istore_3 (DX5_reads.at 7 rfl) ?_
    refine go_iload_3 (DX5_reads.at 8 rfl) ?_
    refine go_if_lt 31 (DX5_reads.at 9 rfl) (by decide) (fun c15 => ?_) (fun c15 => absurd (by decide) c15)
    refine go_iload_3 (DX5_reads.at 15 rfl) ?_
    exact go_iret (DX5_reads.at 16 rfl) rfl rfl (RI.mk ⟨hC2, Or.inr ⟨t, c, ht, hc, rfl, rfl, Or.inr ⟨a1, Or.inr ⟨hW, rfl⟩⟩⟩⟩)

end CL
