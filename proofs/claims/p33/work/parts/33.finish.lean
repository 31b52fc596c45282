/-! THE CLASS: what ends a change -/
def recN (n : Nat) : Nat := if n < 4 then n + 1 else 4
def recH (n : Nat) (Hs : Nat → RP) (B : RP) : Nat → RP := fun i => if i = (if n < 4 then n else 3) then B else if n < 4 then Hs i else Hs (i + 1)
section CL
variable {E : AEnv} {d : Nat} {h h' : List va_E} {b : Nat} {N B S : RP} {n : Nat} {Hs : Nat → RP} {tk : Nat} {o X : Nat → Int32} {G : Nat → Option va_E}
theorem ClAt.toSlot {k m : Nat} {Hs' : Nat → RP} (q : ClAt G h b N B S n Hs tk o X) (u : Only (b + 28 + 6 * k) (b + 28 + 6 * k + 6) h h') (hm : m ≤ 4) (hk : k < 4) (hh : HsP h' b m Hs') : ClAt G (h'.set b (clO b (nI m) (nI tk))) b N B S m Hs' tk o X := by
  obtain ⟨q0, qn, q1, q2, q3, q4, q5, ⟨s, t, q6⟩, fr, w, fd, l, rf, q7⟩ := q
  have v : Only b (b + 1) h' (h'.set b (clO b (nI m) (nI tk))) := Only.set (by omega) (by omega)
  exact ⟨get_set (u.at (by omega) q0), hm, (q1.keep u (by omega)).keep v (by omega), (q2.keep u (by omega)).keep v (by omega), (q3.keep u (by omega)).keep v (by omega), hh.keep v hm (by omega), (q5.keep u (by omega)).keep v (by omega), ⟨s, t, (q6.keep u (by omega)).keep v (by omega)⟩, (fr.up u (by omega) (by omega)).up v (by omega) (by omega), w, fd, l, rf, (q7.keep u (by omega)).keep v (by omega)⟩
theorem c_record (hC : ClAt G h b N B S n Hs tk o X) (hB : RC B) (hd : 4 ≤ d) : Calls E mX5_record d 0 0 [.ref b] h (RV (fun h' => ClAt G h' b N B S (recN n) (recH n Hs B) tk o X)) := by
  refine Calls.of (ls := [some (.ref b)]) (by decide +kernel) rfl (Nat.le_of_ble_eq_true rfl) (cat_ok rfl) ?_
  have tail : ∀ (n : Nat) (Hs : Nat → RP) (h : List va_E), ClAt G h b N B S n Hs tk o X → n < 4 → Go E mX5_record d 0 0 16 [some (.ref b)] [] h (RV (fun h' => ClAt G h' b N B S (n + 1) (fun i => if i = n then B else Hs i) tk o X)) := by
    intro n Hs h hC hn
    obtain ⟨F, p, hF, hp, hj, hs, hst⟩ := hC.2.2.2.2.2.1
    obtain ⟨σA, sA⟩ := hs (p n) (hp n hn).1
    refine go_aload_0 (DX5_record.at 8 rfl) ?_
    refine go_getfield (DX5_record.at 9 rfl) fX5_47 hC.1 rfl ?_
    refine go_if_lt 73 (DX5_record.at 10 rfl) (by decide) (fun c20 => absurd c20 (nI_pos (by omega))) (fun c20 => ?_)
    refine go_aload_0 (DX5_record.at 11 rfl) ?_
    refine go_getfield (DX5_record.at 12 rfl) fX5_47 hC.1 rfl ?_
    refine go_aload_0 (DX5_record.at 13 rfl) ?_
    refine go_getfield (DX5_record.at 14 rfl) fX5_22 hC.1 rfl ?_
    refine go_alenS (v := nI 4) (DX5_record.at 15 rfl) hF rfl ?_
    refine go_icmp_ge 73 (DX5_record.at 16 rfl) (by decide) (fun c32 => absurd ((nI_leI (by decide) (by omega)).mp c32) (by omega)) (fun c32 => ?_)
    refine go_aload_0 (DX5_record.at 17 rfl) ?_
    refine go_getfield (DX5_record.at 18 rfl) fX5_22 hC.1 rfl ?_
    refine go_aload_0 (DX5_record.at 19 rfl) ?_
    refine go_getfield (DX5_record.at 20 rfl) fX5_47 hC.1 rfl ?_
    refine go_aaload (DX5_record.at 21 rfl) hF (vp_in_nI hn (by decide)) (by rw [nI_cl (by omega)]; exact (hp n hn).2) ?_
    refine go_ifnull (DX5_record.at 22 rfl) ?_
    refine go_aload_0 (DX5_record.at 23 rfl) ?_
    refine go_getfield (DX5_record.at 24 rfl) fX5_22 hC.1 rfl ?_
    refine go_aload_0 (DX5_record.at 25 rfl) ?_
    refine go_getfield (DX5_record.at 26 rfl) fX5_47 hC.1 rfl ?_
    refine go_aaload (DX5_record.at 27 rfl) hF (vp_in_nI hn (by decide)) (by rw [nI_cl (by omega)]; exact (hp n hn).2) ?_
    refine go_aload_0 (DX5_record.at 28 rfl) ?_
    refine go_getfield (DX5_record.at 29 rfl) fX5_16 hC.1 rfl ?_
    refine go_cVv1 (DX5_record.at 30 rfl) nX5_127 vX4_copyFrom (by omega) (c_copyP sA hC.2.2.2.1 hB (by omega) (by omega)) sA.1 rfl (Nat.le_of_ble_eq_true rfl) (fun h60 q60 => ?_)
    obtain ⟨σ', u, w⟩ := q60
    have hO := u.2.at (by omega) hC.1
    refine go_aload_0 (DX5_record.at 31 rfl) ?_
    refine go_dup (DX5_record.at 32 rfl) rfl ?_
    refine go_getfield (DX5_record.at 33 rfl) fX5_47 hO rfl ?_
    refine go_iconst (v := nI 1) (DX5_record.at 34 rfl) (by decide) ?_
    refine go_iadd (DX5_record.at 35 rfl) ?_
    rw [nI_add]
    refine go_putfield (DX5_record.at 36 rfl) fX5_47 rfl rfl hO (Nat.le_of_ble_eq_true rfl) (fun w hw => by subst hw; exact ⟨rfl, rfl⟩) ?_
    exact go_return (DX5_record.at 37 rfl) rfl (RV.mk (hC.toSlot u.2 (m := n + 1) (by omega) (hp n hn).1 ⟨F, p, u.2.at (by omega) hF, hp, hj, fun q hq => by
  by_cases e : q = p n
  · subst e
    exact ⟨σ', u.1⟩
  · obtain ⟨σ, s⟩ := hs q hq
    exact ⟨σ, s.keep u.2 (by omega)⟩, fun i hi => by
  dsimp only
  by_cases e : i = n
  · subst e
    rw [if_pos rfl]
    exact ⟨σ', u.1, w⟩
  · rw [if_neg e]
    have e2 : p i ≠ p n := fun e2 => e (hj i n (by omega) (by omega) e2)
    exact (hst i (by omega)).keep u.2 (by omega)⟩))
  have hn4 := hC.2.1
  obtain ⟨F, p, hF, -⟩ := hC.2.2.2.2.2.1
  refine go_aload_0 (DX5_record.at 0 rfl) ?_
  refine go_getfield (DX5_record.at 1 rfl) fX5_47 hC.1 rfl ?_
  refine go_aload_0 (DX5_record.at 2 rfl) ?_
  refine go_getfield (DX5_record.at 3 rfl) fX5_22 hC.1 rfl ?_
  refine go_alenS (v := nI 4) (DX5_record.at 4 rfl) hF rfl ?_
  refine go_icmp_lt 16 (DX5_record.at 5 rfl) (by decide) (fun c9 => ?_) (fun c9 => ?_)
  · rw [nI_ltI (by omega) (by decide)] at c9
    rw [show recN n = n + 1 from if_pos c9, show recH n Hs B = fun i => if i = n then B else Hs i from by unfold recH; simp only [if_pos c9]]
    exact tail n Hs h hC c9
  · rw [nI_ltI (by omega) (by decide)] at c9
    obtain rfl : n = 4 := by omega
    refine go_aload_0 (DX5_record.at 6 rfl) ?_
    refine go_cVv0 (DX5_record.at 7 rfl) nX5_236 vX5_dropOldest (by omega) (c_dropOldest hC) hC.1 rfl (Nat.le_of_ble_eq_true rfl) (fun h13 q13 => ?_)
    exact tail 3 _ h13 q13 (by omega)
    

theorem c_finishNo {x : Int32} (hC : ClAt G h b N B S n Hs tk o X) (hB : RC B) (hx : x < 0) (hd : 3 ≤ d) : Calls E mX5_finish d 0 0 [.ref b, .int x] h (RI (fun y h' => y = x ∧ ClAt G h' b B B S n Hs tk o X)) := by
  refine Calls.of (ls := [some (.ref b), some (.int x)]) (by decide +kernel) rfl (Nat.le_of_ble_eq_true rfl) (cat_ok rfl) ?_
  obtain ⟨σn, sn, -⟩ := hC.2.2.1
  refine go_iload_1 (DX5_finish.at 0 rfl) ?_
  refine go_if_ge 18 (DX5_finish.at 1 rfl) (by decide) (fun c1 => absurd c1 (Int32.not_le.mpr hx)) (fun c1 => ?_)
  refine go_aload_0 (DX5_finish.at 2 rfl) ?_
  refine go_getfield (DX5_finish.at 3 rfl) fX5_10 hC.1 rfl ?_
  refine go_aload_0 (DX5_finish.at 4 rfl) ?_
  refine go_getfield (DX5_finish.at 5 rfl) fX5_16 hC.1 rfl ?_
  refine go_cVv1 (DX5_finish.at 6 rfl) nX5_127 vX4_copyFrom (by omega) (c_copyP sn hC.2.2.2.1 hB (by omega) (by omega)) sn.1 rfl (Nat.le_of_ble_eq_true rfl) (fun h12 q12 => ?_)
  obtain ⟨σ', u, w⟩ := q12
  refine go_goto 22 (DX5_finish.at 7 rfl) (by decide) ?_
  refine go_iload_1 (DX5_finish.at 10 rfl) ?_
  exact go_iret (DX5_finish.at 11 rfl) rfl rfl (RI.mk ⟨rfl, hC.toNow u w⟩)

theorem c_finishYes {x : Int32} (hC : ClAt G h b N B S n Hs tk o X) (hB : RC B) (hx : 0 ≤ x) (hd : 5 ≤ d) : Calls E mX5_finish d 0 0 [.ref b, .int x] h (RI (fun y h' => y = x ∧ ClAt G h' b N B S (recN n) (recH n Hs B) tk o X)) := by
  refine Calls.of (ls := [some (.ref b), some (.int x)]) (by decide +kernel) rfl (Nat.le_of_ble_eq_true rfl) (cat_ok rfl) ?_
  refine go_iload_1 (DX5_finish.at 0 rfl) ?_
  refine go_if_ge 18 (DX5_finish.at 1 rfl) (by decide) (fun c1 => ?_) (fun c1 => absurd hx c1)
  refine go_aload_0 (DX5_finish.at 8 rfl) ?_
  refine go_cVv0 (DX5_finish.at 9 rfl) nX5_233 vX5_record (by omega) (c_record hC hB (by omega)) hC.1 rfl (Nat.le_of_ble_eq_true rfl) (fun h19 q19 => ?_)
  refine go_iload_1 (DX5_finish.at 10 rfl) ?_
  exact go_iret (DX5_finish.at 11 rfl) rfl rfl (RI.mk ⟨rfl, q19⟩)

end CL
