/-! THE CLASS: undo, keep, restore -/
section CL
variable {E : AEnv} {d : Nat} {h h' : List va_E} {b : Nat} {N B S : RP} {n : Nat} {Hs : Nat → RP} {tk : Nat} {o X : Nat → Int32} {G : Nat → Option va_E}
theorem c_undoNone (hC : ClAt G h b N B S 0 Hs tk o X) : Calls E mX5_undo d 0 0 [.ref b] h (RX (-5) h) := by
  refine Calls.of (ls := [some (.ref b)]) (by decide +kernel) rfl (Nat.le_of_ble_eq_true rfl) (cat_ok rfl) ?_
  refine go_aload_0 (DX5_undo.at 0 rfl) ?_
  refine go_getfield (DX5_undo.at 1 rfl) fX5_47 hC.1 rfl ?_
  refine go_if_le 19 (DX5_undo.at 2 rfl) (by decide) (fun c4 => ?_) (fun c4 => absurd (by decide) c4)
  refine go_bipush (v := (-5)) (DX5_undo.at 9 rfl) (by decide) ?_
  exact go_iret (DX5_undo.at 10 rfl) rfl rfl (RX.mk rfl rfl)

theorem c_undo (hC : ClAt G h b N B S (n + 1) Hs tk o X) (hN : RC (Hs n)) (hd : 3 ≤ d) : Calls E mX5_undo d 0 0 [.ref b] h (RI (fun y h' => y = nI n ∧ ClAt G h' b (Hs n) B S n Hs tk o X)) := by
  refine Calls.of (ls := [some (.ref b)]) (by decide +kernel) rfl (Nat.le_of_ble_eq_true rfl) (cat_ok rfl) ?_
  have hn4 := hC.2.1
  obtain ⟨F, p, hF, hp, hj, hs, hst⟩ := hC.2.2.2.2.2.1
  refine go_aload_0 (DX5_undo.at 0 rfl) ?_
  refine go_getfield (DX5_undo.at 1 rfl) fX5_47 hC.1 rfl ?_
  refine go_if_le 19 (DX5_undo.at 2 rfl) (by decide) (fun c4 => absurd c4 (by rw [show (0 : Int32) = nI 0 from rfl, nI_leI (by omega) (by omega)]; omega)) (fun c4 => ?_)
  refine go_aload_0 (DX5_undo.at 3 rfl) ?_
  refine go_getfield (DX5_undo.at 4 rfl) fX5_47 hC.1 rfl ?_
  refine go_aload_0 (DX5_undo.at 5 rfl) ?_
  refine go_getfield (DX5_undo.at 6 rfl) fX5_22 hC.1 rfl ?_
  refine go_alenS (v := nI 4) (DX5_undo.at 7 rfl) hF rfl ?_
  refine go_icmp_le 22 (DX5_undo.at 8 rfl) (by decide) (fun c16 => ?_) (fun c16 => absurd c16 (by rw [nI_leI (by omega) (by decide)]; omega))
  refine go_aload_0 (DX5_undo.at 11 rfl) ?_
  refine go_dup (DX5_undo.at 12 rfl) rfl ?_
  refine go_getfield (DX5_undo.at 13 rfl) fX5_47 hC.1 rfl ?_
  refine go_iconst (v := nI 1) (DX5_undo.at 14 rfl) (by decide) ?_
  refine go_isub (DX5_undo.at 15 rfl) ?_
  rw [pk_sub (by omega), Nat.add_sub_cancel]
  refine go_putfield (DX5_undo.at 16 rfl) fX5_47 rfl rfl hC.1 (Nat.le_of_ble_eq_true rfl) (fun w hw => by subst hw; exact ⟨rfl, rfl⟩) ?_
  have hC2 : ClAt G (h.set b (clO b (nI n) (nI tk))) b N B S n Hs tk o X := hC.toObj (by omega) (fun _ g => by
    obtain ⟨F, p, g1, g2, g3, g4, g5⟩ := g
    exact ⟨F, p, g1, g2, g3, g4, fun i hi => g5 i (by omega)⟩)
  have u2 : Only b (b + 1) h (h.set b (clO b (nI n) (nI tk))) := Only.set (by omega) (by omega)
  have hF2 := u2.at (by omega) hF
  obtain ⟨sg, sn, -⟩ := hC2.2.2.1
  refine go_aload_0 (DX5_undo.at 17 rfl) ?_
  refine go_getfield (DX5_undo.at 18 rfl) fX5_10 hC2.1 rfl ?_
  refine go_aload_0 (DX5_undo.at 19 rfl) ?_
  refine go_getfield (DX5_undo.at 20 rfl) fX5_22 hC2.1 rfl ?_
  refine go_aload_0 (DX5_undo.at 21 rfl) ?_
  refine go_getfield (DX5_undo.at 22 rfl) fX5_47 hC2.1 rfl ?_
  refine go_aaload (DX5_undo.at 23 rfl) hF2 (vp_in_nI (show n < 4 by omega) (by decide)) (by rw [nI_cl (by omega)]; exact (hp n (by omega)).2) ?_
  refine go_cVv1 (DX5_undo.at 24 rfl) nX5_127 vX4_copyFrom (by omega) (c_copyP sn ((hst n (by omega)).keep u2 (by omega)) hN (by omega) (by omega)) sn.1 rfl (Nat.le_of_ble_eq_true rfl) (fun h45 q45 => ?_)
  obtain ⟨σ', u, w⟩ := q45
  have hC3 := hC2.toNow u w
  refine go_aload_0 (DX5_undo.at 25 rfl) ?_
  refine go_getfield (DX5_undo.at 26 rfl) fX5_47 hC3.1 rfl ?_
  exact go_iret (DX5_undo.at 27 rfl) rfl rfl (RI.mk ⟨rfl, hC3⟩)

end CL
