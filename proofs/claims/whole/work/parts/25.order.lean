/-! AN ORDER OF THE TEXT -/
/-- whether an order stands at p, and where it ends, or its first wrong place -/
def ordR (Y : Nat → Nat) (N p : Nat) : Bool × Nat :=
  if p < N ∧ Y p = 110 then (if dgt Y N (p + 1) then (true, nme Y N (p + 1)) else (false, p + 1))
  else if p < N ∧ (Y p = 119 ∨ Y p = 120 ∨ Y p = 109) then
    (if dgt Y N (p + 1) then
      (if p + 2 < N ∧ Y (p + 2) = 46 then
        (if dgt Y N (p + 3) then
          (if Y p = 119 then
            (if nme Y N (p + 3) < N ∧ Y (nme Y N (p + 3)) = 61 then
              (if dgt Y N (nme Y N (p + 3) + 1) then (true, nme Y N (nme Y N (p + 3) + 1)) else (false, nme Y N (p + 3) + 1))
            else (false, nme Y N (p + 3)))
          else (true, nme Y N (p + 3)))
        else (false, p + 3))
      else (false, p + 2))
    else (false, p + 1))
  else (false, p)
theorem nme_le {Y : Nat → Nat} {N p : Nat} (h : p < N) : p + 1 ≤ nme Y N p ∧ nme Y N p ≤ N := by
  unfold nme
  split
  · omega
  · split
    · rename_i q; omega
    · omega
theorem nI_ne1 {v : Nat} (h : v < 2 ^ 31) : ¬ nI v = (-1) := by
  intro e
  have := congrArg (fun z : Int32 => z.toInt) e
  rw [nI_toInt h] at this
  exact absurd this (by rw [show ((-1 : Int32)).toInt = -1 from by decide]; omega)
theorem nmv_lt {Y : Nat → Nat} {N p : Nat} (h : dgt Y N p) : nmv Y N p < 100 := by
  have h1 := h.2.1
  have h2 := h.2.2
  unfold nmv
  split
  · decide
  · split
    · rename_i q; omega
    · omega
section OR
variable {E : AEnv} {d : Nat} {h : List va_E} {b : Nat} {o X : Nat → Int32}
def OrdPost (Yt : Nat → Nat) (N p : Nat) (h : List va_E) (b : Nat) (o X : Nat → Int32) (x : Int32) (h' : List va_E) : Prop :=
  ∃ o', OrU h b o' X h' ∧ o' 1 = o 1 ∧ o' 3 = o 3 ∧ o' 2 = nI (ordR Yt N p).2 ∧
    (((ordR Yt N p).1 = true ∧ x = nI 1 ∧ o' 4 = nI (Yt p) ∧ (Yt p = 110 → o' 7 = nI (nmv Yt N (p + 1))) ∧ (Yt p ≠ 110 → o' 5 = nI (Yt (p + 1) - 48) ∧ o' 6 = nI (nmv Yt N (p + 3)) ∧ (Yt p = 119 → o' 8 = nI (nmv Yt N (nme Yt N (p + 3) + 1))))) ∨
     ((ordR Yt N p).1 = false ∧ x = nI 0))
theorem c_readOrder {Yt : Nat → Nat} {N p : Nat} (hO : OrAt h b o X) (hT : TxtIs X Yt N) (hN : o 1 = nI N) (hp : o 2 = nI p) (hp2 : p < 2 ^ 29) (hd : 3 ≤ d) : Calls E mX1_readOrder d 0 0 [.ref b] h (RI (OrdPost Yt N p h b o X)) := by
  refine Calls.of (ls := [some (.ref b)]) (by decide +kernel) rfl (Nat.le_of_ble_eq_true rfl) (cat_ok rfl) ?_
  refine go_aload_0 (DX1_readOrder.at 0 rfl) ?_
  refine go_aload_0 (DX1_readOrder.at 1 rfl) ?_
  refine go_cVx0 (DX1_readOrder.at 2 rfl) nX1_51 vX1_sign (by omega) (c_sign hO hT hN hp (by omega)) hO.1 rfl (Nat.le_of_ble_eq_true rfl) ?_
  refine go_putOr (DX1_readOrder.at 3 rfl) fX1_25 (by decide) hO (fun h5 uh5 => ?_)
  have u5 := uh5
  have hN60 := hT.1
  by_cases q : p < N
  · rw [if_pos q] at u5
    have hY := (hT.2 p q).2
    have rest : ¬ Yt p = 110 → (Yt p = 119 ∨ Yt p = 120 ∨ Yt p = 109) → Go E mX1_readOrder d 0 0 78 [some (.ref b)] [] h5 (RI (OrdPost Yt N p h b o X)) := by
      intro hn hk
      refine go_aload_0 (DX1_readOrder.at 40 rfl) ?_
      refine go_dup (DX1_readOrder.at 41 rfl) rfl ?_
      refine go_getfield (DX1_readOrder.at 42 rfl) fX1_19 u5.1.1 rfl ?_
      rw [show upd o 4 (nI (Yt p)) 2 = nI p from hp]
      refine go_iconst (v := nI 1) (DX1_readOrder.at 43 rfl) (by decide) ?_
      refine go_iadd (DX1_readOrder.at 44 rfl) ?_
      rw [nI_add]
      refine go_putOr (DX1_readOrder.at 45 rfl) fX1_19 (by decide) u5.1 (fun h85 uh85 => ?_)
      refine go_aload_0 (DX1_readOrder.at 46 rfl) ?_
      refine go_aload_0 (DX1_readOrder.at 47 rfl) ?_
      refine go_cVi0 (DX1_readOrder.at 48 rfl) nX1_58 vX1_readDigit (by omega) (c_readDigit (p := p + 1) uh85.1 hT hN rfl (by omega) (by omega)) uh85.1.1 rfl (Nat.le_of_ble_eq_true rfl) (fun x90 h90 q90 => ?_)
      rcases q90 with ⟨g1, rfl, u90⟩ | ⟨g1, rfl, rfl⟩
      · refine go_putOr (DX1_readOrder.at 49 rfl) fX1_28 (by decide) u90.1 (fun h93 uh93 => ?_)
        refine go_aload_0 (DX1_readOrder.at 50 rfl) ?_
        refine go_getfield (DX1_readOrder.at 51 rfl) fX1_28 uh93.1.1 rfl ?_
        refine go_iconst (v := (-1)) (DX1_readOrder.at 52 rfl) (by decide) ?_
        refine go_icmp_eq 113 (DX1_readOrder.at 53 rfl) (by decide) (fun c101 => absurd c101 (nI_ne1 (by have := g1.2.2; omega))) (fun c101 => ?_)
        refine go_aload_0 (DX1_readOrder.at 54 rfl) ?_
        refine go_bipush (v := nI 46) (DX1_readOrder.at 55 rfl) (by decide) ?_
        refine go_cVi1 (DX1_readOrder.at 56 rfl) nX1_47 vX1_pass (by omega) (c_pass (p := p + 2) (wn := 46) uh93.1 hT hN rfl (by omega) (by decide) (by omega)) uh93.1.1 rfl (Nat.le_of_ble_eq_true rfl) (fun x107 h107 q107 => ?_)
        rcases q107 with ⟨k1, k2, rfl, u107⟩ | ⟨g2, rfl, rfl⟩
        · have g2 : p + 2 < N ∧ Yt (p + 2) = 46 := ⟨k1, k2⟩
          refine go_if_ne 115 (DX1_readOrder.at 57 rfl) (by decide) (fun c110 => ?_) (fun c110 => absurd c110 (by decide))
          refine go_aload_0 (DX1_readOrder.at 60 rfl) ?_
          refine go_aload_0 (DX1_readOrder.at 61 rfl) ?_
          refine go_cVi0 (DX1_readOrder.at 62 rfl) nX1_55 vX1_readNumber (by omega) (c_readNumber (p := p + 3) u107.1 hT hN rfl (by omega) (by omega)) u107.1.1 rfl (Nat.le_of_ble_eq_true rfl) (fun x117 h117 q117 => ?_)
          rcases q117 with ⟨g3, rfl, u117⟩ | ⟨g3, rfl, rfl⟩
          · refine go_putOr (DX1_readOrder.at 63 rfl) fX1_31 (by decide) u117.1 (fun h120 uh120 => ?_)
            have hle := nme_le (Y := Yt) (N := N) (p := p + 3) g3.1
            have uu : OrU h b _ X _ := u5.then (uh85.then (u90.then (uh93.then (u107.then (u117.then uh120)))))
            refine go_aload_0 (DX1_readOrder.at 64 rfl) ?_
            refine go_getfield (DX1_readOrder.at 65 rfl) fX1_31 uh120.1.1 rfl ?_
            refine go_iconst (v := (-1)) (DX1_readOrder.at 66 rfl) (by decide) ?_
            refine go_icmp_eq 140 (DX1_readOrder.at 67 rfl) (by decide) (fun c128 => absurd c128 (nI_ne1 (by have := nmv_lt g3; omega))) (fun c128 => ?_)
            refine go_aload_0 (DX1_readOrder.at 68 rfl) ?_
            refine go_getfield (DX1_readOrder.at 69 rfl) fX1_25 uh120.1.1 rfl ?_
            refine go_bipush (v := nI 119) (DX1_readOrder.at 70 rfl) (by decide) ?_
            refine go_icmp_eq 154 (DX1_readOrder.at 71 rfl) (by decide) (fun c137 => ?_) (fun c137 => ?_)
            · have c137 : Yt p = 119 := (nI_eq (by omega) (by decide)).mp c137
              refine go_aload_0 (DX1_readOrder.at 80 rfl) ?_
              refine go_bipush (v := nI 61) (DX1_readOrder.at 81 rfl) (by decide) ?_
              refine go_cVi1 (DX1_readOrder.at 82 rfl) nX1_47 vX1_pass (by omega) (c_pass (p := nme Yt N (p + 3)) (wn := 61) uh120.1 hT hN rfl (by omega) (by decide) (by omega)) uh120.1.1 rfl (Nat.le_of_ble_eq_true rfl) (fun x157 h157 q157 => ?_)
              rcases q157 with ⟨k1, k2, rfl, u157⟩ | ⟨g4, rfl, rfl⟩
              · have g4 : nme Yt N (p + 3) < N ∧ Yt (nme Yt N (p + 3)) = 61 := ⟨k1, k2⟩
                refine go_if_ne 165 (DX1_readOrder.at 83 rfl) (by decide) (fun c160 => ?_) (fun c160 => absurd c160 (by decide))
                refine go_aload_0 (DX1_readOrder.at 86 rfl) ?_
                refine go_aload_0 (DX1_readOrder.at 87 rfl) ?_
                refine go_cVi0 (DX1_readOrder.at 88 rfl) nX1_55 vX1_readNumber (by omega) (c_readNumber (p := nme Yt N (p + 3) + 1) u157.1 hT hN rfl (by omega) (by omega)) u157.1.1 rfl (Nat.le_of_ble_eq_true rfl) (fun x167 h167 q167 => ?_)
                rcases q167 with ⟨g5, rfl, u167⟩ | ⟨g5, rfl, rfl⟩
                · have eR : ordR Yt N p = (true, nme Yt N (nme Yt N (p + 3) + 1)) := by rw [ordR, if_neg (fun z => hn z.2), if_pos ⟨q, hk⟩, if_pos g1, if_pos g2, if_pos g3, if_pos c137, if_pos g4, if_pos g5]
                  refine go_putOr (DX1_readOrder.at 89 rfl) fX1_37 (by decide) u167.1 (fun h170 uh170 => ?_)
                  refine go_aload_0 (DX1_readOrder.at 90 rfl) ?_
                  refine go_getfield (DX1_readOrder.at 91 rfl) fX1_37 uh170.1.1 rfl ?_
                  refine go_iconst (v := (-1)) (DX1_readOrder.at 92 rfl) (by decide) ?_
                  refine go_icmp_eq 185 (DX1_readOrder.at 93 rfl) (by decide) (fun c178 => absurd c178 (nI_ne1 (by have := nmv_lt g5; omega))) (fun c178 => ?_)
                  refine go_iconst (v := nI 1) (DX1_readOrder.at 94 rfl) (by decide) ?_
                  refine go_goto 186 (DX1_readOrder.at 95 rfl) (by decide) ?_
                  exact go_iret (DX1_readOrder.at 97 rfl) rfl rfl (RI.mk ⟨_, uu.then (u157.then (u167.then uh170)), rfl, rfl, by rw [eR]; rfl, Or.inl ⟨by rw [eR], rfl, rfl, fun z => absurd z hn, fun _ => ⟨rfl, rfl, fun _ => rfl⟩⟩⟩)
                · have eR : ordR Yt N p = (false, nme Yt N (p + 3) + 1) := by rw [ordR, if_neg (fun z => hn z.2), if_pos ⟨q, hk⟩, if_pos g1, if_pos g2, if_pos g3, if_pos c137, if_pos g4, if_neg g5]
                  refine go_putOr (DX1_readOrder.at 89 rfl) fX1_37 (by decide) u157.1 (fun h170 uh170 => ?_)
                  refine go_aload_0 (DX1_readOrder.at 90 rfl) ?_
                  refine go_getfield (DX1_readOrder.at 91 rfl) fX1_37 uh170.1.1 rfl ?_
                  refine go_iconst (v := (-1)) (DX1_readOrder.at 92 rfl) (by decide) ?_
                  refine go_icmp_eq 185 (DX1_readOrder.at 93 rfl) (by decide) (fun c178 => ?_) (fun c178 => absurd rfl c178)
                  refine go_iconst (v := nI 0) (DX1_readOrder.at 96 rfl) (by decide) ?_
                  exact go_iret (DX1_readOrder.at 97 rfl) rfl rfl (RI.mk ⟨_, uu.then (u157.then uh170), rfl, rfl, by rw [eR]; rfl, Or.inr ⟨by rw [eR], rfl⟩⟩)
              · have eR : ordR Yt N p = (false, nme Yt N (p + 3)) := by rw [ordR, if_neg (fun z => hn z.2), if_pos ⟨q, hk⟩, if_pos g1, if_pos g2, if_pos g3, if_pos c137, if_neg g4]
                refine go_if_ne 165 (DX1_readOrder.at 83 rfl) (by decide) (fun c160 => absurd (by decide) c160) (fun c160 => ?_)
                refine go_iconst (v := nI 0) (DX1_readOrder.at 84 rfl) (by decide) ?_
                exact go_iret (DX1_readOrder.at 85 rfl) rfl rfl (RI.mk ⟨_, uu, rfl, rfl, by rw [eR]; rfl, Or.inr ⟨by rw [eR], rfl⟩⟩)
            · have c137 : ¬ Yt p = 119 := fun z => c137 (congrArg nI z)
              have eR : ordR Yt N p = (true, nme Yt N (p + 3)) := by rw [ordR, if_neg (fun z => hn z.2), if_pos ⟨q, hk⟩, if_pos g1, if_pos g2, if_pos g3, if_neg c137]
              refine go_aload_0 (DX1_readOrder.at 72 rfl) ?_
              refine go_getfield (DX1_readOrder.at 73 rfl) fX1_31 uh120.1.1 rfl ?_
              refine go_iconst (v := (-1)) (DX1_readOrder.at 74 rfl) (by decide) ?_
              refine go_icmp_eq 152 (DX1_readOrder.at 75 rfl) (by decide) (fun c145 => absurd c145 (nI_ne1 (by have := nmv_lt g3; omega))) (fun c145 => ?_)
              refine go_iconst (v := nI 1) (DX1_readOrder.at 76 rfl) (by decide) ?_
              refine go_goto 153 (DX1_readOrder.at 77 rfl) (by decide) ?_
              exact go_iret (DX1_readOrder.at 79 rfl) rfl rfl (RI.mk ⟨_, uu, rfl, rfl, by rw [eR]; rfl, Or.inl ⟨by rw [eR], rfl, rfl, fun z => absurd z hn, fun _ => ⟨rfl, rfl, fun z => absurd z c137⟩⟩⟩)
          · have eR : ordR Yt N p = (false, p + 3) := by rw [ordR, if_neg (fun z => hn z.2), if_pos ⟨q, hk⟩, if_pos g1, if_pos g2, if_neg g3]
            refine go_putOr (DX1_readOrder.at 63 rfl) fX1_31 (by decide) u107.1 (fun h120 uh120 => ?_)
            refine go_aload_0 (DX1_readOrder.at 64 rfl) ?_
            refine go_getfield (DX1_readOrder.at 65 rfl) fX1_31 uh120.1.1 rfl ?_
            refine go_iconst (v := (-1)) (DX1_readOrder.at 66 rfl) (by decide) ?_
            refine go_icmp_eq 140 (DX1_readOrder.at 67 rfl) (by decide) (fun c128 => ?_) (fun c128 => absurd rfl c128)
            refine go_aload_0 (DX1_readOrder.at 72 rfl) ?_
            refine go_getfield (DX1_readOrder.at 73 rfl) fX1_31 uh120.1.1 rfl ?_
            refine go_iconst (v := (-1)) (DX1_readOrder.at 74 rfl) (by decide) ?_
            refine go_icmp_eq 152 (DX1_readOrder.at 75 rfl) (by decide) (fun c145 => ?_) (fun c145 => absurd rfl c145)
            refine go_iconst (v := nI 0) (DX1_readOrder.at 78 rfl) (by decide) ?_
            exact go_iret (DX1_readOrder.at 79 rfl) rfl rfl (RI.mk ⟨_, u5.then (uh85.then (u90.then (uh93.then (u107.then uh120)))), rfl, rfl, by rw [eR]; rfl, Or.inr ⟨by rw [eR], rfl⟩⟩)
        · have eR : ordR Yt N p = (false, p + 2) := by rw [ordR, if_neg (fun z => hn z.2), if_pos ⟨q, hk⟩, if_pos g1, if_neg g2]
          refine go_if_ne 115 (DX1_readOrder.at 57 rfl) (by decide) (fun c110 => absurd (by decide) c110) (fun c110 => ?_)
          refine go_iconst (v := nI 0) (DX1_readOrder.at 58 rfl) (by decide) ?_
          exact go_iret (DX1_readOrder.at 59 rfl) rfl rfl (RI.mk ⟨_, u5.then (uh85.then (u90.then uh93)), rfl, rfl, by rw [eR]; rfl, Or.inr ⟨by rw [eR], rfl⟩⟩)
      · have eR : ordR Yt N p = (false, p + 1) := by rw [ordR, if_neg (fun z => hn z.2), if_pos ⟨q, hk⟩, if_neg g1]
        refine go_putOr (DX1_readOrder.at 49 rfl) fX1_28 (by decide) uh85.1 (fun h93 uh93 => ?_)
        refine go_aload_0 (DX1_readOrder.at 50 rfl) ?_
        refine go_getfield (DX1_readOrder.at 51 rfl) fX1_28 uh93.1.1 rfl ?_
        refine go_iconst (v := (-1)) (DX1_readOrder.at 52 rfl) (by decide) ?_
        refine go_icmp_eq 113 (DX1_readOrder.at 53 rfl) (by decide) (fun c101 => ?_) (fun c101 => absurd rfl c101)
        refine go_iconst (v := nI 0) (DX1_readOrder.at 58 rfl) (by decide) ?_
        exact go_iret (DX1_readOrder.at 59 rfl) rfl rfl (RI.mk ⟨_, u5.then (uh85.then uh93), rfl, rfl, by rw [eR]; rfl, Or.inr ⟨by rw [eR], rfl⟩⟩)
    refine go_aload_0 (DX1_readOrder.at 4 rfl) ?_
    refine go_getfield (DX1_readOrder.at 5 rfl) fX1_25 u5.1.1 rfl ?_
    refine go_bipush (v := nI 110) (DX1_readOrder.at 6 rfl) (by decide) ?_
    refine go_icmp_ne 49 (DX1_readOrder.at 7 rfl) (by decide) (fun c14 => ?_) (fun c14 => ?_)
    · have hn : ¬ Yt p = 110 := fun z => c14 (congrArg nI z)
      refine go_aload_0 (DX1_readOrder.at 26 rfl) ?_
      refine go_getfield (DX1_readOrder.at 27 rfl) fX1_25 u5.1.1 rfl ?_
      refine go_bipush (v := nI 119) (DX1_readOrder.at 28 rfl) (by decide) ?_
      refine go_icmp_eq 78 (DX1_readOrder.at 29 rfl) (by decide) (fun c55 => ?_) (fun c55 => ?_)
      · have hk : Yt p = 119 ∨ Yt p = 120 ∨ Yt p = 109 := Or.inl ((nI_eq (by omega) (by decide)).mp c55)
        exact rest hn hk
      · have n1 : ¬ Yt p = 119 := fun z => c55 (congrArg nI z)
        refine go_aload_0 (DX1_readOrder.at 30 rfl) ?_
        refine go_getfield (DX1_readOrder.at 31 rfl) fX1_25 u5.1.1 rfl ?_
        refine go_bipush (v := nI 120) (DX1_readOrder.at 32 rfl) (by decide) ?_
        refine go_icmp_eq 78 (DX1_readOrder.at 33 rfl) (by decide) (fun c64 => ?_) (fun c64 => ?_)
        · have hk : Yt p = 119 ∨ Yt p = 120 ∨ Yt p = 109 := Or.inr (Or.inl ((nI_eq (by omega) (by decide)).mp c64))
          exact rest hn hk
        · have n2 : ¬ Yt p = 120 := fun z => c64 (congrArg nI z)
          refine go_aload_0 (DX1_readOrder.at 34 rfl) ?_
          refine go_getfield (DX1_readOrder.at 35 rfl) fX1_25 u5.1.1 rfl ?_
          refine go_bipush (v := nI 109) (DX1_readOrder.at 36 rfl) (by decide) ?_
          refine go_icmp_eq 78 (DX1_readOrder.at 37 rfl) (by decide) (fun c73 => ?_) (fun c73 => ?_)
          · have hk : Yt p = 119 ∨ Yt p = 120 ∨ Yt p = 109 := Or.inr (Or.inr ((nI_eq (by omega) (by decide)).mp c73))
            exact rest hn hk
          · have n3 : ¬ Yt p = 109 := fun z => c73 (congrArg nI z)
            have eR : ordR Yt N p = (false, p) := by rw [ordR, if_neg (fun z => hn z.2), if_neg (fun z => z.2.elim n1 (fun z => z.elim n2 n3))]
            refine go_iconst (v := nI 0) (DX1_readOrder.at 38 rfl) (by decide) ?_
            exact go_iret (DX1_readOrder.at 39 rfl) rfl rfl (RI.mk ⟨_, u5, rfl, rfl, by rw [eR]; exact hp, Or.inr ⟨by rw [eR], rfl⟩⟩)
    · have c14 : Yt p = 110 := (nI_eq (by omega) (by decide)).mp c14
      refine go_aload_0 (DX1_readOrder.at 8 rfl) ?_
      refine go_dup (DX1_readOrder.at 9 rfl) rfl ?_
      refine go_getfield (DX1_readOrder.at 10 rfl) fX1_19 u5.1.1 rfl ?_
      rw [show upd o 4 (nI (Yt p)) 2 = nI p from hp]
      refine go_iconst (v := nI 1) (DX1_readOrder.at 11 rfl) (by decide) ?_
      refine go_iadd (DX1_readOrder.at 12 rfl) ?_
      rw [nI_add]
      refine go_putOr (DX1_readOrder.at 13 rfl) fX1_19 (by decide) u5.1 (fun h24 uh24 => ?_)
      refine go_aload_0 (DX1_readOrder.at 14 rfl) ?_
      refine go_aload_0 (DX1_readOrder.at 15 rfl) ?_
      refine go_cVi0 (DX1_readOrder.at 16 rfl) nX1_55 vX1_readNumber (by omega) (c_readNumber (p := p + 1) uh24.1 hT hN rfl (by omega) (by omega)) uh24.1.1 rfl (Nat.le_of_ble_eq_true rfl) (fun x29 h29 q29 => ?_)
      rcases q29 with ⟨g1, rfl, u29⟩ | ⟨g1, rfl, rfl⟩
      · have eR : ordR Yt N p = (true, nme Yt N (p + 1)) := by rw [ordR, if_pos ⟨q, c14⟩, if_pos g1]
        refine go_putOr (DX1_readOrder.at 17 rfl) fX1_34 (by decide) u29.1 (fun h32 uh32 => ?_)
        refine go_aload_0 (DX1_readOrder.at 18 rfl) ?_
        refine go_getfield (DX1_readOrder.at 19 rfl) fX1_34 uh32.1.1 rfl ?_
        refine go_iconst (v := (-1)) (DX1_readOrder.at 20 rfl) (by decide) ?_
        refine go_icmp_eq 47 (DX1_readOrder.at 21 rfl) (by decide) (fun c40 => absurd c40 (nI_ne1 (by have := nmv_lt g1; omega))) (fun c40 => ?_)
        refine go_iconst (v := nI 1) (DX1_readOrder.at 22 rfl) (by decide) ?_
        refine go_goto 48 (DX1_readOrder.at 23 rfl) (by decide) ?_
        exact go_iret (DX1_readOrder.at 25 rfl) rfl rfl (RI.mk ⟨_, u5.then (uh24.then (u29.then uh32)), rfl, rfl, by rw [eR]; rfl, Or.inl ⟨by rw [eR], rfl, rfl, fun _ => rfl, fun z => absurd c14 z⟩⟩)
      · have eR : ordR Yt N p = (false, p + 1) := by rw [ordR, if_pos ⟨q, c14⟩, if_neg g1]
        refine go_putOr (DX1_readOrder.at 17 rfl) fX1_34 (by decide) uh24.1 (fun h32 uh32 => ?_)
        refine go_aload_0 (DX1_readOrder.at 18 rfl) ?_
        refine go_getfield (DX1_readOrder.at 19 rfl) fX1_34 uh32.1.1 rfl ?_
        refine go_iconst (v := (-1)) (DX1_readOrder.at 20 rfl) (by decide) ?_
        refine go_icmp_eq 47 (DX1_readOrder.at 21 rfl) (by decide) (fun c40 => ?_) (fun c40 => absurd rfl c40)
        refine go_iconst (v := nI 0) (DX1_readOrder.at 24 rfl) (by decide) ?_
        exact go_iret (DX1_readOrder.at 25 rfl) rfl rfl (RI.mk ⟨_, u5.then (uh24.then uh32), rfl, rfl, by rw [eR]; rfl, Or.inr ⟨by rw [eR], rfl⟩⟩)
  · rw [if_neg q] at u5
    have eR : ordR Yt N p = (false, p) := by rw [ordR, if_neg (fun z => q z.1), if_neg (fun z => q z.1)]
    refine go_aload_0 (DX1_readOrder.at 4 rfl) ?_
    refine go_getfield (DX1_readOrder.at 5 rfl) fX1_25 u5.1.1 rfl ?_
    refine go_bipush (v := nI 110) (DX1_readOrder.at 6 rfl) (by decide) ?_
    refine go_icmp_ne 49 (DX1_readOrder.at 7 rfl) (by decide) (fun c14 => ?_) (fun c14 => absurd c14 (by show ¬ (-1 : Int32) = nI 110; decide))
    refine go_aload_0 (DX1_readOrder.at 26 rfl) ?_
    refine go_getfield (DX1_readOrder.at 27 rfl) fX1_25 u5.1.1 rfl ?_
    refine go_bipush (v := nI 119) (DX1_readOrder.at 28 rfl) (by decide) ?_
    refine go_icmp_eq 78 (DX1_readOrder.at 29 rfl) (by decide) (fun c55 => absurd c55 (by show ¬ (-1 : Int32) = nI 119; decide)) (fun c55 => ?_)
    refine go_aload_0 (DX1_readOrder.at 30 rfl) ?_
    refine go_getfield (DX1_readOrder.at 31 rfl) fX1_25 u5.1.1 rfl ?_
    refine go_bipush (v := nI 120) (DX1_readOrder.at 32 rfl) (by decide) ?_
    refine go_icmp_eq 78 (DX1_readOrder.at 33 rfl) (by decide) (fun c64 => absurd c64 (by show ¬ (-1 : Int32) = nI 120; decide)) (fun c64 => ?_)
    refine go_aload_0 (DX1_readOrder.at 34 rfl) ?_
    refine go_getfield (DX1_readOrder.at 35 rfl) fX1_25 u5.1.1 rfl ?_
    refine go_bipush (v := nI 109) (DX1_readOrder.at 36 rfl) (by decide) ?_
    refine go_icmp_eq 78 (DX1_readOrder.at 37 rfl) (by decide) (fun c73 => absurd c73 (by show ¬ (-1 : Int32) = nI 109; decide)) (fun c73 => ?_)
    refine go_iconst (v := nI 0) (DX1_readOrder.at 38 rfl) (by decide) ?_
    exact go_iret (DX1_readOrder.at 39 rfl) rfl rfl (RI.mk ⟨_, u5, rfl, rfl, by rw [eR]; exact hp, Or.inr ⟨by rw [eR], rfl⟩⟩)

end OR
