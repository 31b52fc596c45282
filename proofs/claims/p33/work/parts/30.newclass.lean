/-! THE CLASS'S OBJECT IS MADE -/
def CtB (h : List va_E) (b : Nat) : Prop := (∃ σ, StAt h (b + 1) σ ∧ StNew σ) ∧ (∃ σ, StAt h (b + 7) σ ∧ StNew σ) ∧ (∃ σ, StAt h (b + 13) σ ∧ StNew σ) ∧ OrAt h (b + 20) (fun _ => 0) (fun _ => 0) ∧ PlIs h (b + 22) 0 0 ∧ SeIs h (b + 26) 0 0 0 (fun _ => 0)
theorem CtB.ext {h h' : List va_E} {a b : Nat} (x : Ext a h h') (ha : a = b ∨ a = b + 19) (q : CtB h b) : CtB h' b := by
  obtain ⟨⟨σ1, s1, w1⟩, ⟨σ2, s2, w2⟩, ⟨σ3, s3, w3⟩, o, p, e⟩ := q
  exact ⟨⟨σ1, s1.ext x (by omega), w1⟩, ⟨σ2, s2.ext x (by omega), w2⟩, ⟨σ3, s3.ext x (by omega), w3⟩, o.ext x (by omega), p.ext x (by omega), e.ext x (by omega)⟩
def HsT (h : List va_E) (b : Nat) (j : Nat) : Prop := ∃ F, h[b + 19]? = some (hsA F) ∧ ∀ i, i < j → F i = some (b + 28 + 6 * i) ∧ ∃ σ, StAt h (b + 28 + 6 * i) σ ∧ StNew σ
def ClNew (h : List va_E) (b : Nat) : Prop := h[b]? = some (clO b (nI 0) (nI 0)) ∧ CtB h b ∧ HsT h b 4
section CT
variable {E : AEnv} {Y : MI} {d k n pc pc' idx : Nat} {ls : List (Option Value)} {st : List Value} {l as : List va_E} {x : va_E} {Ψ : Pst}
theorem go_fiHist {m : Nat} {fs : List Value} (hd : Dc mX5_init pc (.anewarray 7) pc') {pc2 : Nat} (hd2 : Dc mX5_init pc' (.putfield 22) pc2) (hm : as.length = m) (hlen : l.length + (m + 8) < BIGN) (hl : 3 < fs.length)
    (K : ∀ as', as'.length = m + 1 → Ext l.length (l ++ .inr (5, fs) :: as) (l ++ .inr (5, fs.set 3 (.ref (l.length + (m + 1)))) :: as') → (l ++ .inr (5, fs.set 3 (.ref (l.length + (m + 1)))) :: as')[l.length + (m + 1)]? = some (hsA fun _ => none) → Go E mX5_init d k n pc2 ls [] (l ++ .inr (5, fs.set 3 (.ref (l.length + (m + 1)))) :: as') Ψ) : Go E mX5_init d (1 + k) (4 + n) pc ls [.int (nI 4), .ref l.length] (l ++ .inr (5, fs) :: as) Ψ := by
  refine go_newStates (N := 4) hd (BW_i 59 (by decide +kernel) rfl) (by decide) (by decide) (by decide) (by rw [len_mid hm]; omega) ?_
  rw [len_mid hm, List.append_assoc, List.cons_append]
  refine go_finM hd2 gX5_22 rfl (by decide) rfl rfl rfl hl (fun w hw => by subst hw; exact ⟨rfl, rfl⟩) (K (as ++ [hsA fun _ => none]) (by rw [List.length_append, hm]; rfl) Ext.mid ?_)
  refine get_app ?_
  rw [List.getElem?_cons_succ, List.getElem?_append_right (by omega), show m - as.length = 0 by omega]
  rfl
theorem c_newClass (hl : l.length + 60 < BIGN) (hd : 5 ≤ d) : Calls E mX5_init d 51 2849 [.ref l.length] (l ++ [.inr (5, [.null, .null, .null, .null, .null, .null, .null, .int 0, .int 0])]) (RV (fun h' => ∃ cs, h' = l ++ cs ∧ cs.length = 52 ∧ ClNew h' l.length)) := by
  refine Calls.of (ls := [some (.ref l.length), none]) (by decide +kernel) rfl (Nat.le_of_ble_eq_true rfl) (cat_ok rfl) ?_
  have loop : ∀ (m j : Nat) (as : List va_E), j + m = 4 → as.length = 27 + 6 * j → CtB (l ++ clO l.length (nI 0) (nI 0) :: as) l.length → HsT (l ++ clO l.length (nI 0) (nI 0) :: as) l.length j → Go E mX5_init d (6 * m) (382 * m) 90 [some (.ref l.length), some (.int (nI j))] [] (l ++ clO l.length (nI 0) (nI 0) :: as) (RV (fun h' => ∃ cs, h' = l ++ cs ∧ cs.length = 52 ∧ ClNew h' l.length)) := by
    intro m
    induction m with
    | zero =>
      intro j as hj hm hB hT
      obtain ⟨F, hF, hT⟩ := hT
      obtain rfl : j = 4 := by omega
      refine go_iload_1 (DX5_init.at 44 rfl) ?_
      refine go_aload_0 (DX5_init.at 45 rfl) ?_
      refine go_getfield (DX5_init.at 46 rfl) fX5_22 get_mid rfl ?_
      refine go_alenS (v := nI 4) (DX5_init.at 47 rfl) hF rfl ?_
      refine go_icmp_ge 118 (DX5_init.at 48 rfl) (by decide) (fun c96 => ?_) (fun c96 => absurd (by decide) c96)
      exact go_return (DX5_init.at 58 rfl) rfl (RV.mk ⟨_, rfl, by rw [List.length_cons, hm], get_mid, hB, F, hF, hT⟩)
    | succ m ih =>
      intro j as hj hm hB hT
      obtain ⟨F, hF, hT⟩ := hT
      refine go_iload_1 (DX5_init.at 44 rfl) ?_
      refine go_aload_0 (DX5_init.at 45 rfl) ?_
      refine go_getfield (DX5_init.at 46 rfl) fX5_22 get_mid rfl ?_
      refine go_alenS (v := nI 4) (DX5_init.at 47 rfl) hF rfl ?_
      refine go_icmp_ge 118 (DX5_init.at 48 rfl) (by decide) (fun c96 => absurd c96 (by rw [nI_leI (by omega) (by omega)]; omega)) (fun c96 => ?_)
      refine go_aload_0 (DX5_init.at 49 rfl) ?_
      refine go_getfield (DX5_init.at 50 rfl) fX5_22 get_mid rfl ?_
      refine go_iload_1 (DX5_init.at 51 rfl) ?_
      rw [show 6 * (m + 1) = 6 + 6 * m by omega, show 382 * (m + 1) = 382 + 382 * m by omega]
      refine go_mkState (m := 27 + 6 * j) (DX5_init.at 52 rfl) (DX5_init.at 53 rfl) (DX5_init.at 54 rfl) hm (by omega) (by omega) (Nat.le_of_ble_eq_true rfl) (fun cs hcs q => ?_)
      obtain ⟨σ, q1, q2⟩ := q
      
      
      have hF1 : (l ++ clO l.length (nI 0) (nI 0) :: (as ++ cs))[l.length + 19]? = some (hsA F) := Ext.mid _ _ (by omega) hF
      refine go_aastore (DX5_init.at 55 rfl) hF1 (vp_in_nI (show j < 4 by omega) (by decide)) q1.1 ?_
      have e : ∀ y, (l ++ clO l.length (nI 0) (nI 0) :: (as ++ cs)).set (l.length + 19) y = l ++ clO l.length (nI 0) (nI 0) :: (as ++ cs).set 18 y := fun y => set_app (i := 19)
      have xe : ∀ y, Ext (l.length + 19) (l ++ clO l.length (nI 0) (nI 0) :: (as ++ cs)) (l ++ clO l.length (nI 0) (nI 0) :: (as ++ cs).set 18 y) := fun y => by rw [← e]; exact Ext.set
      rw [nI_cl (by omega), e]
      refine go_iincN_1 (DX5_init.at 56 rfl) ?_
      refine go_goto 90 (DX5_init.at 57 rfl) (by decide) ?_
      exact ih (j + 1) _ (by omega) (by rw [List.length_set, List.length_append, hm, hcs]; omega) ((hB.ext Ext.mid (Or.inl rfl)).ext (xe _) (Or.inr rfl)) ⟨_, by rw [← e]; exact get_set hF1, fun i hi => by
        unfold va_up
        by_cases qi : i = j
        · subst qi
          rw [if_pos rfl, show l.length + 28 + 6 * i = l.length + (27 + 6 * i + 1) by omega]
          exact ⟨rfl, σ, q1.ext (xe _) (by omega), q2⟩
        · rw [if_neg qi]
          obtain ⟨t1, σ', t2, t3⟩ := hT i (by omega)
          exact ⟨t1, σ', (t2.ext Ext.mid (by omega)).ext (xe _) (by omega), t3⟩⟩
  refine go_aload_0 (DX5_init.at 0 rfl) ?_
  refine go_objInit (DX5_init.at 1 rfl) (BW_i 56 (by decide +kernel) rfl) (BW_i 57 (by decide +kernel) rfl) (BW_i 58 (by decide +kernel) rfl) (by omega) (Nat.le_of_ble_eq_true rfl) ?_
  refine go_aload_0 (DX5_init.at 2 rfl) ?_
  refine go_fiState (kf := 0) (k := 45) (n := 2467) (m := 0) (DX5_init.at 3 rfl) (DX5_init.at 4 rfl) (DX5_init.at 5 rfl) (DX5_init.at 6 rfl) gX5_10 (by decide) rfl rfl (Nat.le_of_ble_eq_true rfl) (fun _ => ⟨rfl, rfl⟩) rfl (by omega) (by omega) (fun as1 m1 x1 s1 => ?_)
  
  
  
  refine go_aload_0 (DX5_init.at 7 rfl) ?_
  refine go_fiState (kf := 1) (k := 39) (n := 2085) (m := 6) (DX5_init.at 8 rfl) (DX5_init.at 9 rfl) (DX5_init.at 10 rfl) (DX5_init.at 11 rfl) gX5_16 (by decide) rfl rfl (Nat.le_of_ble_eq_true rfl) (fun _ => ⟨rfl, rfl⟩) m1 (by omega) (by omega) (fun as2 m2 x2 s2 => ?_)
  
  
  
  refine go_aload_0 (DX5_init.at 12 rfl) ?_
  refine go_fiState (kf := 2) (k := 33) (n := 1703) (m := 12) (DX5_init.at 13 rfl) (DX5_init.at 14 rfl) (DX5_init.at 15 rfl) (DX5_init.at 16 rfl) gX5_19 (by decide) rfl rfl (Nat.le_of_ble_eq_true rfl) (fun _ => ⟨rfl, rfl⟩) m2 (by omega) (by omega) (fun as3 m3 x3 s3 => ?_)
  
  
  
  refine go_aload_0 (DX5_init.at 17 rfl) ?_
  refine go_iconst (v := nI 4) (DX5_init.at 18 rfl) (by decide) ?_
  refine go_fiHist (k := 32) (n := 1699) (m := 18) (DX5_init.at 19 rfl) (DX5_init.at 20 rfl) m3 (by omega) (Nat.le_of_ble_eq_true rfl) (fun as4 m4 x4 s4 => ?_)
  
  refine go_aload_0 (DX5_init.at 21 rfl) ?_
  refine go_fiOrders (kf := 4) (k := 30) (n := 1630) (m := 19) (DX5_init.at 22 rfl) (DX5_init.at 23 rfl) (DX5_init.at 24 rfl) (DX5_init.at 25 rfl) gX5_29 (by decide) rfl rfl (Nat.le_of_ble_eq_true rfl) (fun _ => ⟨rfl, rfl⟩) m4 (by omega) (by omega) (fun as5 m5 x5 s5 => ?_)
  
  
  
  refine go_aload_0 (DX5_init.at 26 rfl) ?_
  refine go_fiPlan (kf := 5) (k := 26) (n := 1612) (m := 21) (DX5_init.at 27 rfl) (DX5_init.at 28 rfl) (DX5_init.at 29 rfl) (DX5_init.at 30 rfl) gX5_36 (by decide) rfl rfl (Nat.le_of_ble_eq_true rfl) (fun _ => ⟨rfl, rfl⟩) m5 (by omega) (by omega) (fun as6 m6 x6 s6 => ?_)
  
  
  
  refine go_aload_0 (DX5_init.at 31 rfl) ?_
  refine go_fiSearch (kf := 6) (k := 24) (n := 1528) (m := 25) (DX5_init.at 32 rfl) (DX5_init.at 33 rfl) (DX5_init.at 34 rfl) (DX5_init.at 35 rfl) gX5_43 (by decide) rfl rfl (Nat.le_of_ble_eq_true rfl) (fun _ => ⟨rfl, rfl⟩) m6 (by omega) (by omega) (fun as7 m7 x7 s7 => ?_)
  
  
  
  refine go_aload_0 (DX5_init.at 36 rfl) ?_
  refine go_iconst (v := nI 0) (DX5_init.at 37 rfl) (by decide) ?_
  refine go_putM (DX5_init.at 38 rfl) fX5_47 rfl rfl (Nat.le_of_ble_eq_true rfl) (fun w hw => by subst hw; exact ⟨rfl, rfl⟩) ?_
  refine go_aload_0 (DX5_init.at 39 rfl) ?_
  refine go_iconst (v := nI 0) (DX5_init.at 40 rfl) (by decide) ?_
  refine go_putM (DX5_init.at 41 rfl) fX5_51 rfl rfl (Nat.le_of_ble_eq_true rfl) (fun w hw => by subst hw; exact ⟨rfl, rfl⟩) ?_
  refine go_iconst (v := nI 0) (DX5_init.at 42 rfl) (by decide) ?_
  refine go_istore_1 (DX5_init.at 43 rfl) ?_
  have xf : Ext l.length (l ++ .inr (5, [.ref (l.length + 1), .ref (l.length + 7), .ref (l.length + 13), .ref (l.length + 19), .ref (l.length + 20), .ref (l.length + 22), .ref (l.length + 26), .int 0, .int 0]) :: as7) (l ++ clO l.length (nI 0) (nI 0) :: as7) := Ext.mid0
  have y7 := xf
  have y6 := Ext.trans x7 y7
  have y5 := Ext.trans x6 y6
  have y4 := Ext.trans x5 y5
  have y3 := Ext.trans x4 y4
  have y2 := Ext.trans x3 y3
  have y1 := Ext.trans x2 y2
  obtain ⟨σ1, s1, w1⟩ := s1
  obtain ⟨σ2, s2, w2⟩ := s2
  obtain ⟨σ3, s3, w3⟩ := s3
  exact loop 4 0 as7 rfl m7 ⟨⟨σ1, s1.ext y1 (by omega), w1⟩, ⟨σ2, s2.ext y2 (by omega), w2⟩, ⟨σ3, s3.ext y3 (by omega), w3⟩, s5.ext y5 (by omega), s6.ext y6 (by omega), s7.ext y7 (by omega)⟩ ⟨_, y4 _ _ (by omega) s4, fun i hi => absurd hi (Nat.not_lt_zero i)⟩

end CT
