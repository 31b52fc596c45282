/-! WORK AND NODES -/
section LM
variable {E : AEnv} {d : Nat} {h h' h0 : List va_E} {ρ ρ' : Nat → Nat → Int32} {A : Ab} {Z : Zt} {G : Nat → Option va_E}
theorem c_does5 {t c v : Nat} {tl : Int32} (ht : t < aT A) (hc : c < nc (aG A) (aS A)) (hq : aQ A = [] ∨ ∃ l, aQ A = (20 * t + c) :: l) (hw0 : ρ 5 t = wnF A t c) (htl : tl = (opR A 5 t c v).1) (h60 : ρ 6 0 = nI 5) (h61 : ρ 6 1 = nI t) (h62 : ρ 6 2 = nI c) (h63 : ρ 6 3 = nI v) (hK : Cw A) (hL : LA h ρ) (hR : LR A ρ) (hd : 4 ≤ d) : Calls E mL_does d 0 0 [.int tl, .ref 57, .ref 58, .ref 52, .ref 53, .ref 54, .ref 55, .ref 56] h (RI (DP A h (opR A 5 t c v))) := by
  refine Calls.of (ls := [some (.int tl), some (.ref 57), some (.ref 58), some (.ref 52), some (.ref 53), some (.ref 54), some (.ref 55), some (.ref 56), none, none, none, none, none, none]) (by decide +kernel) rfl (Nat.le_of_ble_eq_true rfl) (cat_ok rfl) ?_
  have hA := hR.1
  have hY := hR.2.1
  have hLO := hY.1
  have hT3 : aT A ≤ 3 := hY.2.1
  have hn := hLO.nc
  have hg4 : aG A ≤ 4 := hLO.2.1
  have hg1 : 1 ≤ aG A := hLO.1
  have hs6 : aS A ≤ 6 := hLO.2.2.2.1
  have hs2 : 2 ≤ aS A := hLO.2.2.1
  have hgs : aG A * aS A ≤ 15 := hLO.2.2.2.2.1
  have hH5 : aH A ≤ 5 := hLO.2.2.2.2.2.2.2
  have hT1 : 1 ≤ aT A := hLO.2.2.2.2.2.1
  have en : nc (aG A) (aS A) = aG A * aS A + aG A + 2 := rfl
  have hq60 := hA.q60 hT3
  have t24 : ∀ b : Int32, ((b = nI 1 ∧ c < nc (aG A) (aS A)) ∨ (b = nI 0 ∧ ¬ c < nc (aG A) (aS A))) → Go E mL_does d 0 0 24 [some (.int tl), some (.ref 57), some (.ref 58), some (.ref 52), some (.ref 53), some (.ref 54), some (.ref 55), some (.ref 56), some (.int (nI t)), some (.int (nI c)), none, none, none, none] [.int b] h (RI (DP A h (opR A 5 t c v))) := by
    intro b hb
    rcases hq with hQ | ⟨l, hQ⟩
    · refine go_istore_10 (DL_does.at 15 rfl) ?_
      refine go_iconst (v := nI 0) (DL_does.at 16 rfl) (by decide) ?_
      refine go_istore_11 (DL_does.at 17 rfl) ?_
      refine go_aload_2 (DL_does.at 18 rfl) ?_
      refine go_iconst (v := nI 0) (DL_does.at 19 rfl) (by decide) ?_
      refine go_ialdL 6 (DL_does.at 20 rfl) hL (by decide) (show 0 < 4 by decide) ?_
      rw [h60]
      refine go_if_ne 117 (DL_does.at 21 rfl) (by decide) (fun c32 => ?_) (fun c32 => absurd c32 (by decide))
      refine go_aload_2 (DL_does.at 66 rfl) ?_
      refine go_iconst (v := nI 0) (DL_does.at 67 rfl) (by decide) ?_
      refine go_ialdL 6 (DL_does.at 68 rfl) hL (by decide) (show 0 < 4 by decide) ?_
      rw [h60]
      refine go_iconst (v := nI 1) (DL_does.at 69 rfl) (by decide) ?_
      refine go_icmp_ne 170 (DL_does.at 70 rfl) (by decide) (fun c121 => ?_) (fun c121 => absurd c121 (by decide))
      refine go_aload_2 (DL_does.at 97 rfl) ?_
      refine go_iconst (v := nI 0) (DL_does.at 98 rfl) (by decide) ?_
      refine go_ialdL 6 (DL_does.at 99 rfl) hL (by decide) (show 0 < 4 by decide) ?_
      rw [h60]
      refine go_iconst (v := nI 3) (DL_does.at 100 rfl) (by decide) ?_
      refine go_icmp_ne 241 (DL_does.at 101 rfl) (by decide) (fun c174 => ?_) (fun c174 => absurd c174 (by decide))
      refine go_aload_2 (DL_does.at 135 rfl) ?_
      refine go_iconst (v := nI 0) (DL_does.at 136 rfl) (by decide) ?_
      refine go_ialdL 6 (DL_does.at 137 rfl) hL (by decide) (show 0 < 4 by decide) ?_
      rw [h60]
      refine go_iconst (v := nI 5) (DL_does.at 138 rfl) (by decide) ?_
      refine go_icmp_ne 336 (DL_does.at 139 rfl) (by decide) (fun c245 => absurd rfl c245) (fun c245 => ?_)
      refine go_aload_3 (DL_does.at 140 rfl) ?_
      refine go_iconst (v := nI 4) (DL_does.at 141 rfl) (by decide) ?_
      refine go_ialdL 0 (DL_does.at 142 rfl) hL (by decide) (show 4 < 9 by decide) ?_
      rw [hR.2.2.1, hQ, show ([] : List Nat).length = 0 from rfl]
      refine go_if_ne 259 (DL_does.at 143 rfl) (by decide) (fun c251 => absurd (show nI 0 = 0 by decide) c251) (fun c251 => ?_)
      refine go_bipush (v := (-5)) (DL_does.at 144 rfl) (by decide) ?_
      refine go_goto 271 (DL_does.at 145 rfl) (by decide) ?_
      refine go_istore_11 (DL_does.at 153 rfl) ?_
      refine go_iload_11 (DL_does.at 154 rfl) ?_
      refine go_iconst (v := nI 1) (DL_does.at 155 rfl) (by decide) ?_
      refine go_icmp_ne 297 (DL_does.at 156 rfl) (by decide) (fun c276 => ?_) (fun c276 => absurd c276 (by decide))
      refine go_iload_11 (DL_does.at 167 rfl) ?_
      refine go_if_ne 460 (DL_does.at 168 rfl) (by decide) (fun c299 => ?_) (fun c299 => absurd c299 (by decide))
      refine go_iload_0 (DL_does.at 261 rfl) ?_
      refine go_iload_11 (DL_does.at 262 rfl) ?_
      refine go_icmp_ne 470 (DL_does.at 263 rfl) (by decide) (fun c463 => absurd (by rw [htl, opR_5, wk_e hQ]) c463) (fun c463 => ?_)
      refine go_iconst (v := nI 1) (DL_does.at 264 rfl) (by decide) ?_
      refine go_goto 471 (DL_does.at 265 rfl) (by decide) ?_
      exact go_iret (DL_does.at 267 rfl) rfl rfl (RI.mk ⟨rfl, Only.rf, ρ, hL, by rw [opR_5, wk_e hQ, stp_n (by decide)]; exact hR⟩)
    · have hmem : 20 * t + c ∈ aQ A := by rw [hQ]; exact List.mem_cons_self
      have hbt : bit (aM A t) c := (hA.qin ht hc).mp hmem
      have e1 : (20 * t + c) / 20 = t := by omega
      have e2 : (20 * t + c) % 20 = c := by omega
      have hql1 : (aQ A).length = l.length + 1 := by rw [hQ]; rfl
      have hlt : ∀ x, x ∈ aQ A → x < 60 := fun x hx => by have h1 := ((hA.2.2.2.2 x).mp hx).1; omega
      rcases way_cases A t c with ⟨w, src, X, hw⟩ | hw
      · have hw3 := hw.w
        have eX := hw.val hA hK ht hc hbt
        subst eX
        have eR := wk_s hQ (w := w) (src := src) (X := aV A t c) (by rw [e1, e2]; exact hw)
        rw [e1, e2] at eR
        refine go_istore_10 (DL_does.at 15 rfl) ?_
        refine go_iconst (v := nI 0) (DL_does.at 16 rfl) (by decide) ?_
        refine go_istore_11 (DL_does.at 17 rfl) ?_
        refine go_aload_2 (DL_does.at 18 rfl) ?_
        refine go_iconst (v := nI 0) (DL_does.at 19 rfl) (by decide) ?_
        refine go_ialdL 6 (DL_does.at 20 rfl) hL (by decide) (show 0 < 4 by decide) ?_
        rw [h60]
        refine go_if_ne 117 (DL_does.at 21 rfl) (by decide) (fun c32 => ?_) (fun c32 => absurd c32 (by decide))
        refine go_aload_2 (DL_does.at 66 rfl) ?_
        refine go_iconst (v := nI 0) (DL_does.at 67 rfl) (by decide) ?_
        refine go_ialdL 6 (DL_does.at 68 rfl) hL (by decide) (show 0 < 4 by decide) ?_
        rw [h60]
        refine go_iconst (v := nI 1) (DL_does.at 69 rfl) (by decide) ?_
        refine go_icmp_ne 170 (DL_does.at 70 rfl) (by decide) (fun c121 => ?_) (fun c121 => absurd c121 (by decide))
        refine go_aload_2 (DL_does.at 97 rfl) ?_
        refine go_iconst (v := nI 0) (DL_does.at 98 rfl) (by decide) ?_
        refine go_ialdL 6 (DL_does.at 99 rfl) hL (by decide) (show 0 < 4 by decide) ?_
        rw [h60]
        refine go_iconst (v := nI 3) (DL_does.at 100 rfl) (by decide) ?_
        refine go_icmp_ne 241 (DL_does.at 101 rfl) (by decide) (fun c174 => ?_) (fun c174 => absurd c174 (by decide))
        refine go_aload_2 (DL_does.at 135 rfl) ?_
        refine go_iconst (v := nI 0) (DL_does.at 136 rfl) (by decide) ?_
        refine go_ialdL 6 (DL_does.at 137 rfl) hL (by decide) (show 0 < 4 by decide) ?_
        rw [h60]
        refine go_iconst (v := nI 5) (DL_does.at 138 rfl) (by decide) ?_
        refine go_icmp_ne 336 (DL_does.at 139 rfl) (by decide) (fun c245 => absurd rfl c245) (fun c245 => ?_)
        refine go_aload_3 (DL_does.at 140 rfl) ?_
        refine go_iconst (v := nI 4) (DL_does.at 141 rfl) (by decide) ?_
        refine go_ialdL 0 (DL_does.at 142 rfl) hL (by decide) (show 4 < 9 by decide) ?_
        rw [hR.2.2.1]
        refine go_if_ne 259 (DL_does.at 143 rfl) (by decide) (fun c251 => ?_) (fun c251 => absurd ((nI_eq0 (by omega)).mp c251) (by omega))
        refine go_aload_1 (DL_does.at 146 rfl) ?_
        refine go_iload_8 (DL_does.at 147 rfl) ?_
        refine go_ialdL 5 (DL_does.at 148 rfl) hL (by decide) (show t < 3 by omega) ?_
        rw [show ρ 5 t = nI w from hw0.trans (wnF_s hbt hw)]
        refine go_if_le 270 (DL_does.at 149 rfl) (by decide) (fun c263 => absurd c263 (nI_nle (by omega) (by omega))) (fun c263 => ?_)
        refine go_iconst (v := nI 1) (DL_does.at 150 rfl) (by decide) ?_
        refine go_goto 271 (DL_does.at 151 rfl) (by decide) ?_
        refine go_istore_11 (DL_does.at 153 rfl) ?_
        refine go_iload_11 (DL_does.at 154 rfl) ?_
        refine go_iconst (v := nI 1) (DL_does.at 155 rfl) (by decide) ?_
        refine go_icmp_ne 297 (DL_does.at 156 rfl) (by decide) (fun c276 => absurd rfl c276) (fun c276 => ?_)
        refine go_iload_8 (DL_does.at 157 rfl) ?_
        refine go_iload_9 (DL_does.at 158 rfl) ?_
        refine go_aload_1 (DL_does.at 159 rfl) ?_
        refine go_iload_8 (DL_does.at 160 rfl) ?_
        refine go_ialdL 5 (DL_does.at 161 rfl) hL (by decide) (show t < 3 by omega) ?_
        rw [show ρ 5 t = nI w from hw0.trans (wnF_s hbt hw)]
        refine go_aload_3 (DL_does.at 162 rfl) ?_
        refine go_aload_5 (DL_does.at 163 rfl) ?_
        refine go_aload_6 (DL_does.at 164 rfl) ?_
        refine go_aload_7 (DL_does.at 165 rfl) ?_
        refine go_cSv7 (DL_does.at 166 rfl) nL_119 vL_mend (by omega) (c_lmend ht hc hbt hw hL hR (by omega)) (Nat.le_of_ble_eq_true rfl) (fun h294 q294 => ?_)
        obtain ⟨O1, ρ1, L1, R1, -, -⟩ := q294
        refine go_iload_11 (DL_does.at 167 rfl) ?_
        refine go_if_ne 460 (DL_does.at 168 rfl) (by decide) (fun c299 => ?_) (fun c299 => absurd c299 (by decide))
        refine go_iload_0 (DL_does.at 261 rfl) ?_
        refine go_iload_11 (DL_does.at 262 rfl) ?_
        refine go_icmp_ne 470 (DL_does.at 263 rfl) (by decide) (fun c463 => absurd (by rw [htl, opR_5, eR]) c463) (fun c463 => ?_)
        refine go_iconst (v := nI 1) (DL_does.at 264 rfl) (by decide) ?_
        refine go_goto 471 (DL_does.at 265 rfl) (by decide) ?_
        exact go_iret (DL_does.at 267 rfl) rfl rfl (RI.mk ⟨rfl, O1, ρ1, L1, by rw [opR_5, eR, stp_y (by decide)]; exact R1⟩)
      · have eR := wk_0 hQ (by rw [e1, e2]; exact hw)
        have fin : ∀ f : Nat → Int32, (∀ i x, ((aQ A).erase (20 * t + c))[i]? = some x → f i = nI x) → LR (aRot A) (rset (rset (rset (rset ρ 0 (upd (ρ 0) 4 (nI ((aQ A).length - 1)))) 3 f) 3 (upd (rset (rset ρ 0 (upd (ρ 0) 4 (nI ((aQ A).length - 1)))) 3 f 3) ((aQ A).length - 1) (nI (20 * t + c)))) 0 (upd (rset (rset (rset ρ 0 (upd (ρ 0) 4 (nI ((aQ A).length - 1)))) 3 f) 3 (upd (rset (rset ρ 0 (upd (ρ 0) 4 (nI ((aQ A).length - 1)))) 3 f 3) ((aQ A).length - 1) (nI (20 * t + c))) 0) 4 (nI ((aQ A).length - 1 + 1)))) := by
          intro f hf
          refine hR.rot hQ (fun i x hx => ?_) (fun k hk => ?_) (fun a a0 a3 => by rw [rset_n a0, rset_n a3, rset_n a3, rset_n a0])
          · rw [rset_n (by decide), rset_s, rset_s]
            rw [hQ, List.erase_cons_head] at hf
            have hql : (aQ A).length - 1 = l.length := by rw [hQ]; rfl
            by_cases q : i < l.length
            · rw [List.getElem?_append_left q] at hx
              rw [pk_un (by omega)]
              exact hf i x hx
            · rw [List.getElem?_append_right (by omega)] at hx
              have i1 := (List.getElem?_eq_some_iff.mp hx).1
              have i2 : i = l.length := by
                simp only [List.length_cons, List.length_nil] at i1
                omega
              rw [i2, Nat.sub_self, List.getElem?_cons_zero] at hx
              cases hx
              rw [i2, hql, pk_us]
          · rw [rset_s]
            by_cases q : k = 4
            · rw [q, pk_us, hR.2.2.1, show (aQ A).length - 1 + 1 = (aQ A).length by omega]
            · rw [pk_un q, rset_n (by decide), rset_n (by decide), rset_s, pk_un q]
        refine go_istore_10 (DL_does.at 15 rfl) ?_
        refine go_iconst (v := nI 0) (DL_does.at 16 rfl) (by decide) ?_
        refine go_istore_11 (DL_does.at 17 rfl) ?_
        refine go_aload_2 (DL_does.at 18 rfl) ?_
        refine go_iconst (v := nI 0) (DL_does.at 19 rfl) (by decide) ?_
        refine go_ialdL 6 (DL_does.at 20 rfl) hL (by decide) (show 0 < 4 by decide) ?_
        rw [h60]
        refine go_if_ne 117 (DL_does.at 21 rfl) (by decide) (fun c32 => ?_) (fun c32 => absurd c32 (by decide))
        refine go_aload_2 (DL_does.at 66 rfl) ?_
        refine go_iconst (v := nI 0) (DL_does.at 67 rfl) (by decide) ?_
        refine go_ialdL 6 (DL_does.at 68 rfl) hL (by decide) (show 0 < 4 by decide) ?_
        rw [h60]
        refine go_iconst (v := nI 1) (DL_does.at 69 rfl) (by decide) ?_
        refine go_icmp_ne 170 (DL_does.at 70 rfl) (by decide) (fun c121 => ?_) (fun c121 => absurd c121 (by decide))
        refine go_aload_2 (DL_does.at 97 rfl) ?_
        refine go_iconst (v := nI 0) (DL_does.at 98 rfl) (by decide) ?_
        refine go_ialdL 6 (DL_does.at 99 rfl) hL (by decide) (show 0 < 4 by decide) ?_
        rw [h60]
        refine go_iconst (v := nI 3) (DL_does.at 100 rfl) (by decide) ?_
        refine go_icmp_ne 241 (DL_does.at 101 rfl) (by decide) (fun c174 => ?_) (fun c174 => absurd c174 (by decide))
        refine go_aload_2 (DL_does.at 135 rfl) ?_
        refine go_iconst (v := nI 0) (DL_does.at 136 rfl) (by decide) ?_
        refine go_ialdL 6 (DL_does.at 137 rfl) hL (by decide) (show 0 < 4 by decide) ?_
        rw [h60]
        refine go_iconst (v := nI 5) (DL_does.at 138 rfl) (by decide) ?_
        refine go_icmp_ne 336 (DL_does.at 139 rfl) (by decide) (fun c245 => absurd rfl c245) (fun c245 => ?_)
        refine go_aload_3 (DL_does.at 140 rfl) ?_
        refine go_iconst (v := nI 4) (DL_does.at 141 rfl) (by decide) ?_
        refine go_ialdL 0 (DL_does.at 142 rfl) hL (by decide) (show 4 < 9 by decide) ?_
        rw [hR.2.2.1]
        refine go_if_ne 259 (DL_does.at 143 rfl) (by decide) (fun c251 => ?_) (fun c251 => absurd ((nI_eq0 (by omega)).mp c251) (by omega))
        refine go_aload_1 (DL_does.at 146 rfl) ?_
        refine go_iload_8 (DL_does.at 147 rfl) ?_
        refine go_ialdL 5 (DL_does.at 148 rfl) hL (by decide) (show t < 3 by omega) ?_
        rw [show ρ 5 t = 0 from hw0.trans (wnF_0 hbt hw)]
        refine go_if_le 270 (DL_does.at 149 rfl) (by decide) (fun c263 => ?_) (fun c263 => absurd (Int32.le_refl _) c263)
        refine go_iconst (v := nI 0) (DL_does.at 152 rfl) (by decide) ?_
        refine go_istore_11 (DL_does.at 153 rfl) ?_
        refine go_iload_11 (DL_does.at 154 rfl) ?_
        refine go_iconst (v := nI 1) (DL_does.at 155 rfl) (by decide) ?_
        refine go_icmp_ne 297 (DL_does.at 156 rfl) (by decide) (fun c276 => ?_) (fun c276 => absurd c276 (by decide))
        refine go_iload_11 (DL_does.at 167 rfl) ?_
        refine go_if_ne 460 (DL_does.at 168 rfl) (by decide) (fun c299 => absurd (show nI 0 = 0 by decide) c299) (fun c299 => ?_)
        refine go_iload_8 (DL_does.at 169 rfl) ?_
        refine go_iload_9 (DL_does.at 170 rfl) ?_
        refine go_aload_3 (DL_does.at 171 rfl) ?_
        refine go_aload_6 (DL_does.at 172 rfl) ?_
        refine go_cSv4 (DL_does.at 173 rfl) nL_52 vL_leave (by omega) (c_leave (Q := aQ A) (show t < 3 by omega) (show c < 20 by omega) hL hR.2.2.1 hR.2.2.2.2.2.2.1 hmem hq60 hlt) (Nat.le_of_ble_eq_true rfl) (fun h309 q309 => ?_)
        obtain ⟨O1, f, L1, hf⟩ := q309
        refine go_aload_6 (DL_does.at 174 rfl) ?_
        refine go_aload_3 (DL_does.at 175 rfl) ?_
        refine go_iconst (v := nI 4) (DL_does.at 176 rfl) (by decide) ?_
        refine go_ialdL 0 (DL_does.at 177 rfl) L1 (by decide) (show 4 < 9 by decide) ?_
        rw [rset_n (by decide), rset_s, pk_us]
        refine go_bipush (v := nI 20) (DL_does.at 178 rfl) (by decide) ?_
        refine go_iload_8 (DL_does.at 179 rfl) ?_
        refine go_imul (DL_does.at 180 rfl) ?_
        rw [pk_mul]
        refine go_iload_9 (DL_does.at 181 rfl) ?_
        refine go_iadd (DL_does.at 182 rfl) ?_
        rw [nI_add]
        refine go_iastL 3 (DL_does.at 183 rfl) L1 (by decide) (show (aQ A).length - 1 < 60 by omega) (fun h2 L2 O2 => ?_)
        refine go_aload_3 (DL_does.at 184 rfl) ?_
        refine go_iconst (v := nI 4) (DL_does.at 185 rfl) (by decide) ?_
        refine go_dup2 (DL_does.at 186 rfl) rfl rfl ?_
        refine go_ialdL 0 (DL_does.at 187 rfl) L2 (by decide) (show 4 < 9 by decide) ?_
        rw [rset_n (by decide), rset_n (by decide), rset_s, pk_us]
        refine go_iconst (v := nI 1) (DL_does.at 188 rfl) (by decide) ?_
        refine go_iadd (DL_does.at 189 rfl) ?_
        rw [nI_add]
        refine go_iastL 0 (DL_does.at 190 rfl) L2 (by decide) (show 4 < 9 by decide) (fun h3 L3 O3 => ?_)
        refine go_goto 460 (DL_does.at 191 rfl) (by decide) ?_
        refine go_iload_0 (DL_does.at 261 rfl) ?_
        refine go_iload_11 (DL_does.at 262 rfl) ?_
        refine go_icmp_ne 470 (DL_does.at 263 rfl) (by decide) (fun c463 => absurd (by rw [htl, opR_5, eR]) c463) (fun c463 => ?_)
        refine go_iconst (v := nI 1) (DL_does.at 264 rfl) (by decide) ?_
        refine go_goto 471 (DL_does.at 265 rfl) (by decide) ?_
        exact go_iret (DL_does.at 267 rfl) rfl rfl (RI.mk ⟨rfl, (O1.trans O2).trans O3, _, L3, by rw [opR_5, eR, stp_y (by decide)]; exact fin f hf⟩)
  refine go_aload_2 (DL_does.at 0 rfl) ?_
  refine go_iconst (v := nI 1) (DL_does.at 1 rfl) (by decide) ?_
  refine go_ialdL 6 (DL_does.at 2 rfl) hL (by decide) (show 1 < 4 by decide) ?_
  rw [h61]
  refine go_istore_8 (DL_does.at 3 rfl) ?_
  refine go_aload_2 (DL_does.at 4 rfl) ?_
  refine go_iconst (v := nI 2) (DL_does.at 5 rfl) (by decide) ?_
  refine go_ialdL 6 (DL_does.at 6 rfl) hL (by decide) (show 2 < 4 by decide) ?_
  rw [h62]
  refine go_istore_9 (DL_does.at 7 rfl) ?_
  refine go_iload_9 (DL_does.at 8 rfl) ?_
  refine go_aload_3 (DL_does.at 9 rfl) ?_
  refine go_cSx1 (DL_does.at 10 rfl) nL_16 vL_all (by omega) (c_all hL hY) (Nat.le_of_ble_eq_true rfl) ?_
  refine go_icmp_ge 23 (DL_does.at 11 rfl) (by decide) (fun c16 => ?_) (fun c16 => ?_)
  · rw [nI_leI (by omega) (by omega)] at c16
    have fin : ¬ c < nc (aG A) (aS A) := by omega
    refine go_iconst (v := nI 0) (DL_does.at 14 rfl) (by decide) ?_
    exact t24 _ (by first | exact Or.inl ⟨rfl, fin⟩ | exact Or.inr ⟨rfl, fin⟩)
  · rw [nI_leI (by omega) (by omega)] at c16
    have fin : c < nc (aG A) (aS A) := by omega
    refine go_iconst (v := nI 1) (DL_does.at 12 rfl) (by decide) ?_
    refine go_goto 24 (DL_does.at 13 rfl) (by decide) ?_
    exact t24 _ (by first | exact Or.inl ⟨rfl, fin⟩ | exact Or.inr ⟨rfl, fin⟩)

theorem c_does2 {t c v : Nat} {tl : Int32} (ht : t < aT A) (hc : c ≤ nc (aG A) (aS A)) (htl : tl = (opR A 2 t c v).1) (h60 : ρ 6 0 = nI 2) (h61 : ρ 6 1 = nI t) (h62 : ρ 6 2 = nI c) (h63 : ρ 6 3 = nI v) (hK : Cw A) (hL : LA h ρ) (hR : LR A ρ) (hd : 5 ≤ d) : Calls E mL_does d 0 0 [.int tl, .ref 57, .ref 58, .ref 52, .ref 53, .ref 54, .ref 55, .ref 56] h (RI (DP A h (opR A 2 t c v))) := by
  refine Calls.of (ls := [some (.int tl), some (.ref 57), some (.ref 58), some (.ref 52), some (.ref 53), some (.ref 54), some (.ref 55), some (.ref 56), none, none, none, none, none, none]) (by decide +kernel) rfl (Nat.le_of_ble_eq_true rfl) (cat_ok rfl) ?_
  have hA := hR.1
  have hY := hR.2.1
  have hLO := hY.1
  have hT3 : aT A ≤ 3 := hY.2.1
  have hn := hLO.nc
  have hg4 : aG A ≤ 4 := hLO.2.1
  have hg1 : 1 ≤ aG A := hLO.1
  have hs6 : aS A ≤ 6 := hLO.2.2.2.1
  have hs2 : 2 ≤ aS A := hLO.2.2.1
  have hgs : aG A * aS A ≤ 15 := hLO.2.2.2.2.1
  have hH5 : aH A ≤ 5 := hLO.2.2.2.2.2.2.2
  have hT1 : 1 ≤ aT A := hLO.2.2.2.2.2.1
  have en : nc (aG A) (aS A) = aG A * aS A + aG A + 2 := rfl
  have t24 : ∀ b : Int32, ((b = nI 1 ∧ c < nc (aG A) (aS A)) ∨ (b = nI 0 ∧ ¬ c < nc (aG A) (aS A))) → Go E mL_does d 0 0 24 [some (.int tl), some (.ref 57), some (.ref 58), some (.ref 52), some (.ref 53), some (.ref 54), some (.ref 55), some (.ref 56), some (.int (nI t)), some (.int (nI c)), none, none, none, none] [.int b] h (RI (DP A h (opR A 2 t c v))) := by
    intro b hb
    rcases hb with ⟨eb, hcn⟩ | ⟨eb, hcn⟩
    · subst eb
      by_cases hs : lnC A c (aT A) 0 = 0
      · refine go_istore_10 (DL_does.at 15 rfl) ?_
        refine go_iconst (v := nI 0) (DL_does.at 16 rfl) (by decide) ?_
        refine go_istore_11 (DL_does.at 17 rfl) ?_
        refine go_aload_2 (DL_does.at 18 rfl) ?_
        refine go_iconst (v := nI 0) (DL_does.at 19 rfl) (by decide) ?_
        refine go_ialdL 6 (DL_does.at 20 rfl) hL (by decide) (show 0 < 4 by decide) ?_
        rw [h60]
        refine go_if_ne 117 (DL_does.at 21 rfl) (by decide) (fun c32 => ?_) (fun c32 => absurd c32 (by decide))
        refine go_aload_2 (DL_does.at 66 rfl) ?_
        refine go_iconst (v := nI 0) (DL_does.at 67 rfl) (by decide) ?_
        refine go_ialdL 6 (DL_does.at 68 rfl) hL (by decide) (show 0 < 4 by decide) ?_
        rw [h60]
        refine go_iconst (v := nI 1) (DL_does.at 69 rfl) (by decide) ?_
        refine go_icmp_ne 170 (DL_does.at 70 rfl) (by decide) (fun c121 => ?_) (fun c121 => absurd c121 (by decide))
        refine go_aload_2 (DL_does.at 97 rfl) ?_
        refine go_iconst (v := nI 0) (DL_does.at 98 rfl) (by decide) ?_
        refine go_ialdL 6 (DL_does.at 99 rfl) hL (by decide) (show 0 < 4 by decide) ?_
        rw [h60]
        refine go_iconst (v := nI 3) (DL_does.at 100 rfl) (by decide) ?_
        refine go_icmp_ne 241 (DL_does.at 101 rfl) (by decide) (fun c174 => ?_) (fun c174 => absurd c174 (by decide))
        refine go_aload_2 (DL_does.at 135 rfl) ?_
        refine go_iconst (v := nI 0) (DL_does.at 136 rfl) (by decide) ?_
        refine go_ialdL 6 (DL_does.at 137 rfl) hL (by decide) (show 0 < 4 by decide) ?_
        rw [h60]
        refine go_iconst (v := nI 5) (DL_does.at 138 rfl) (by decide) ?_
        refine go_icmp_ne 336 (DL_does.at 139 rfl) (by decide) (fun c245 => ?_) (fun c245 => absurd c245 (by decide))
        refine go_iload_10 (DL_does.at 192 rfl) ?_
        refine go_if_ne 347 (DL_does.at 193 rfl) (by decide) (fun c338 => ?_) (fun c338 => absurd c338 (by decide))
        refine go_aload_2 (DL_does.at 197 rfl) ?_
        refine go_iconst (v := nI 0) (DL_does.at 198 rfl) (by decide) ?_
        refine go_ialdL 6 (DL_does.at 199 rfl) hL (by decide) (show 0 < 4 by decide) ?_
        rw [h60]
        refine go_aload_1 (DL_does.at 200 rfl) ?_
        refine go_iload_9 (DL_does.at 201 rfl) ?_
        refine go_aload_3 (DL_does.at 202 rfl) ?_
        refine go_aload_5 (DL_does.at 203 rfl) ?_
        refine go_cSx5 (DL_does.at 204 rfl) nL_122 vL_nodeDue (by omega) (c_due2 hcn hL hR (by omega)) (Nat.le_of_ble_eq_true rfl) ?_
        rw [hs, cnI_0]
        refine go_istore_11 (DL_does.at 205 rfl) ?_
        refine go_iconst (v := nI 0) (DL_does.at 206 rfl) (by decide) ?_
        refine go_istore_12 (DL_does.at 207 rfl) ?_
        refine go_iload_12 (DL_does.at 208 rfl) ?_
        refine go_aload_3 (DL_does.at 209 rfl) ?_
        refine go_iconst (v := nI 2) (DL_does.at 210 rfl) (by decide) ?_
        refine go_ialdL 0 (DL_does.at 211 rfl) hL (by decide) (show 2 < 9 by decide) ?_
        rw [hY.2.2.2.2.1]
        refine go_icmp_ge 460 (DL_does.at 212 rfl) (by decide) (fun c369 => absurd c369 (by rw [nI_leI (by omega) (by omega)]; omega)) (fun c369 => ?_)
        refine go_iload_11 (DL_does.at 213 rfl) ?_
        refine go_if_le 460 (DL_does.at 214 rfl) (by decide) (fun c374 => ?_) (fun c374 => absurd (show (-5 : Int32) ≤ 0 by decide) c374)
        refine go_iload_0 (DL_does.at 261 rfl) ?_
        refine go_iload_11 (DL_does.at 262 rfl) ?_
        refine go_icmp_ne 470 (DL_does.at 263 rfl) (by decide) (fun c463 => absurd (by rw [htl, opR_2, ls_in hA hcn, hs, cnI_0]) c463) (fun c463 => ?_)
        refine go_iconst (v := nI 1) (DL_does.at 264 rfl) (by decide) ?_
        refine go_goto 471 (DL_does.at 265 rfl) (by decide) ?_
        exact go_iret (DL_does.at 267 rfl) rfl rfl (RI.mk ⟨rfl, Only.rf, ρ, hL, by rw [opR_2, ls_in hA hcn, hs, cnI_0, stp_n (by decide)]; exact hR⟩)
      · have hs3 := lnC_le (A := A) (nd := c) (aT A) 0
        obtain ⟨s, es⟩ : ∃ s, s = lnC A c (aT A) 0 := ⟨_, rfl⟩
        obtain ⟨F, eF0⟩ : ∃ F, (lnG c (aT A) 0 A).2 = F := ⟨_, rfl⟩
        rw [← es] at hs hs3
        have eR : opR A 2 t c v = (nI s, F) := by rw [opR_2, ls_in hA hcn, ← es, cnI_p hs, eF0]
        have htl2 : tl = nI s := by rw [htl, eR]
        have loop : ∀ (m k : Nat) (h1 : List va_E) (ρ1 : Nat → Nat → Int32) (A1 : Ab) (u13 : Option Value), LA h1 ρ1 → LR A1 ρ1 → Only 52 59 h h1 → ρ1 5 = ρ 5 → ρ1 6 = ρ 6 → Ag A A1 k → (lnG c m k A1).2 = F → k + m = aT A → Go E mL_does d 0 0 364 [some (.int tl), some (.ref 57), some (.ref 58), some (.ref 52), some (.ref 53), some (.ref 54), some (.ref 55), some (.ref 56), some (.int (nI t)), some (.int (nI c)), some (.int (nI 1)), some (.int (nI s)), some (.int (nI k)), u13] [] h1 (RI (DP A h (opR A 2 t c v))) := by
          intro m
          induction m with
          | zero =>
            intro k h1 ρ1 A1 u13 L1 R1 O1 e5 e6 hG hF hm
            have hY1 := R1.2.1
            have hg := hG.g
            have ek : k = aT A := by omega
            subst ek
            have eF : A1 = F := hF
            refine go_iload_12 (DL_does.at 208 rfl) ?_
            refine go_aload_3 (DL_does.at 209 rfl) ?_
            refine go_iconst (v := nI 2) (DL_does.at 210 rfl) (by decide) ?_
            refine go_ialdL 0 (DL_does.at 211 rfl) L1 (by decide) (show 2 < 9 by decide) ?_
            rw [hY1.2.2.2.2.1, hg.2.2.1]
            refine go_icmp_ge 460 (DL_does.at 212 rfl) (by decide) (fun c369 => ?_) (fun c369 => absurd (Int32.le_refl _) c369)
            refine go_iload_0 (DL_does.at 261 rfl) ?_
            refine go_iload_11 (DL_does.at 262 rfl) ?_
            refine go_icmp_ne 470 (DL_does.at 263 rfl) (by decide) (fun c463 => absurd htl2 c463) (fun c463 => ?_)
            refine go_iconst (v := nI 1) (DL_does.at 264 rfl) (by decide) ?_
            refine go_goto 471 (DL_does.at 265 rfl) (by decide) ?_
            exact go_iret (DL_does.at 267 rfl) rfl rfl (RI.mk ⟨rfl, O1, ρ1, L1, by rw [eR, stp_y (nI_pos (by omega)), ← eF]; exact R1⟩)
          | succ m ih =>
            intro k h1 ρ1 A1 u13 L1 R1 O1 e5 e6 hG hF hm
            have hY1 := R1.2.1
            have hg := hG.g
            have hk1 : k < aT A1 := by rw [hg.2.2.1]; omega
            have hM20 := R1.1.m20 hk1
            have hn1 := R1.1.1.nc
            have hcn1 : cnA A1 c k < nc (aG A1) (aS A1) := con_lt (by omega)
            by_cases hb : bit (aM A1 k) (cnA A1 c k)
            · refine go_iload_12 (DL_does.at 208 rfl) ?_
              refine go_aload_3 (DL_does.at 209 rfl) ?_
              refine go_iconst (v := nI 2) (DL_does.at 210 rfl) (by decide) ?_
              refine go_ialdL 0 (DL_does.at 211 rfl) L1 (by decide) (show 2 < 9 by decide) ?_
              rw [hY1.2.2.2.2.1, hg.2.2.1]
              refine go_icmp_ge 460 (DL_does.at 212 rfl) (by decide) (fun c369 => absurd c369 (by rw [nI_leI (by omega) (by omega)]; omega)) (fun c369 => ?_)
              refine go_iload_11 (DL_does.at 213 rfl) ?_
              refine go_if_le 460 (DL_does.at 214 rfl) (by decide) (fun c374 => absurd c374 (nI_nle (by omega) (by omega))) (fun c374 => ?_)
              refine go_iload_9 (DL_does.at 215 rfl) ?_
              refine go_iload_12 (DL_does.at 216 rfl) ?_
              refine go_aload_3 (DL_does.at 217 rfl) ?_
              refine go_cSx3 (DL_does.at 218 rfl) nL_126 vL_cellOn (by omega) (c_lcellOn (A := A1) (t := k) (by omega) (by rw [hg.1, hg.2.1]; omega) L1 hY1 (by omega)) (Nat.le_of_ble_eq_true rfl) ?_
              refine go_istore_13 (DL_does.at 219 rfl) ?_
              refine go_aload_2 (DL_does.at 220 rfl) ?_
              refine go_iconst (v := nI 0) (DL_does.at 221 rfl) (by decide) ?_
              refine go_ialdL 6 (DL_does.at 222 rfl) L1 (by decide) (show 0 < 4 by decide) ?_
              rw [e6, h60]
              refine go_iconst (v := nI 2) (DL_does.at 223 rfl) (by decide) ?_
              refine go_icmp_ne 422 (DL_does.at 224 rfl) (by decide) (fun c391 => absurd rfl c391) (fun c391 => ?_)
              refine go_aload_5 (DL_does.at 225 rfl) ?_
              refine go_iload_12 (DL_does.at 226 rfl) ?_
              refine go_ialdL 2 (DL_does.at 227 rfl) L1 (by decide) (show k < 3 by omega) ?_
              rw [R1.2.2.2.2.2.1 k hk1]
              refine go_iload_13 (DL_does.at 228 rfl) ?_
              refine go_ishr (DL_does.at 229 rfl) ?_
              refine go_iconst (v := nI 1) (DL_does.at 230 rfl) (by decide) ?_
              refine go_iand (DL_does.at 231 rfl) ?_
              rw [nx_bit (by omega) (by omega)]
              refine go_if_ne 422 (DL_does.at 232 rfl) (by decide) (fun c404 => ?_) (fun c404 => False.elim (by rw [nI_eq0 (by omega)] at c404; have hb2 : aM A1 k / 2 ^ (cnA A1 c k) % 2 = 1 := hb; omega))
              refine go_aload_2 (DL_does.at 240 rfl) ?_
              refine go_iconst (v := nI 0) (DL_does.at 241 rfl) (by decide) ?_
              refine go_ialdL 6 (DL_does.at 242 rfl) L1 (by decide) (show 0 < 4 by decide) ?_
              rw [e6, h60]
              refine go_iconst (v := nI 4) (DL_does.at 243 rfl) (by decide) ?_
              refine go_icmp_ne 454 (DL_does.at 244 rfl) (by decide) (fun c426 => ?_) (fun c426 => absurd c426 (by decide))
              refine go_iincN_12 (DL_does.at 259 rfl) ?_
              refine go_goto 364 (DL_does.at 260 rfl) (by decide) ?_
              exact ih (k + 1) h1 ρ1 A1 _ L1 R1 O1 e5 e6 hG.mono (by rw [← hF, lnG_t hb]) (by omega)
            · refine go_iload_12 (DL_does.at 208 rfl) ?_
              refine go_aload_3 (DL_does.at 209 rfl) ?_
              refine go_iconst (v := nI 2) (DL_does.at 210 rfl) (by decide) ?_
              refine go_ialdL 0 (DL_does.at 211 rfl) L1 (by decide) (show 2 < 9 by decide) ?_
              rw [hY1.2.2.2.2.1, hg.2.2.1]
              refine go_icmp_ge 460 (DL_does.at 212 rfl) (by decide) (fun c369 => absurd c369 (by rw [nI_leI (by omega) (by omega)]; omega)) (fun c369 => ?_)
              refine go_iload_11 (DL_does.at 213 rfl) ?_
              refine go_if_le 460 (DL_does.at 214 rfl) (by decide) (fun c374 => absurd c374 (nI_nle (by omega) (by omega))) (fun c374 => ?_)
              refine go_iload_9 (DL_does.at 215 rfl) ?_
              refine go_iload_12 (DL_does.at 216 rfl) ?_
              refine go_aload_3 (DL_does.at 217 rfl) ?_
              refine go_cSx3 (DL_does.at 218 rfl) nL_126 vL_cellOn (by omega) (c_lcellOn (A := A1) (t := k) (by omega) (by rw [hg.1, hg.2.1]; omega) L1 hY1 (by omega)) (Nat.le_of_ble_eq_true rfl) ?_
              refine go_istore_13 (DL_does.at 219 rfl) ?_
              refine go_aload_2 (DL_does.at 220 rfl) ?_
              refine go_iconst (v := nI 0) (DL_does.at 221 rfl) (by decide) ?_
              refine go_ialdL 6 (DL_does.at 222 rfl) L1 (by decide) (show 0 < 4 by decide) ?_
              rw [e6, h60]
              refine go_iconst (v := nI 2) (DL_does.at 223 rfl) (by decide) ?_
              refine go_icmp_ne 422 (DL_does.at 224 rfl) (by decide) (fun c391 => absurd rfl c391) (fun c391 => ?_)
              refine go_aload_5 (DL_does.at 225 rfl) ?_
              refine go_iload_12 (DL_does.at 226 rfl) ?_
              refine go_ialdL 2 (DL_does.at 227 rfl) L1 (by decide) (show k < 3 by omega) ?_
              rw [R1.2.2.2.2.2.1 k hk1]
              refine go_iload_13 (DL_does.at 228 rfl) ?_
              refine go_ishr (DL_does.at 229 rfl) ?_
              refine go_iconst (v := nI 1) (DL_does.at 230 rfl) (by decide) ?_
              refine go_iand (DL_does.at 231 rfl) ?_
              rw [nx_bit (by omega) (by omega)]
              refine go_if_ne 422 (DL_does.at 232 rfl) (by decide) (fun c404 => False.elim (by rw [nI_eq0 (by omega)] at c404; have hb2 : ¬ aM A1 k / 2 ^ (cnA A1 c k) % 2 = 1 := hb; omega)) (fun c404 => ?_)
              refine go_iload_12 (DL_does.at 233 rfl) ?_
              refine go_iload_13 (DL_does.at 234 rfl) ?_
              refine go_aload_3 (DL_does.at 235 rfl) ?_
              refine go_aload_5 (DL_does.at 236 rfl) ?_
              refine go_aload_6 (DL_does.at 237 rfl) ?_
              refine go_cSv5 (DL_does.at 238 rfl) nL_116 vL_lose (by omega) (c_llose (A := A1) hk1 hcn1 hb L1 R1) (Nat.le_of_ble_eq_true rfl) (fun h416 q416 => ?_)
              obtain ⟨O2, ρ2, L2, R2, e25, e26⟩ := q416
              refine go_goto 454 (DL_does.at 239 rfl) (by decide) ?_
              refine go_iincN_12 (DL_does.at 259 rfl) ?_
              refine go_goto 364 (DL_does.at 260 rfl) (by decide) ?_
              exact ih (k + 1) _ ρ2 (aLos A1 k (cnA A1 c k)) _ L2 R2 (O1.trans O2) (e25.trans e5) (e26.trans e6) hG.los (by rw [← hF, lnG_f hb]) (by omega)
        refine go_istore_10 (DL_does.at 15 rfl) ?_
        refine go_iconst (v := nI 0) (DL_does.at 16 rfl) (by decide) ?_
        refine go_istore_11 (DL_does.at 17 rfl) ?_
        refine go_aload_2 (DL_does.at 18 rfl) ?_
        refine go_iconst (v := nI 0) (DL_does.at 19 rfl) (by decide) ?_
        refine go_ialdL 6 (DL_does.at 20 rfl) hL (by decide) (show 0 < 4 by decide) ?_
        rw [h60]
        refine go_if_ne 117 (DL_does.at 21 rfl) (by decide) (fun c32 => ?_) (fun c32 => absurd c32 (by decide))
        refine go_aload_2 (DL_does.at 66 rfl) ?_
        refine go_iconst (v := nI 0) (DL_does.at 67 rfl) (by decide) ?_
        refine go_ialdL 6 (DL_does.at 68 rfl) hL (by decide) (show 0 < 4 by decide) ?_
        rw [h60]
        refine go_iconst (v := nI 1) (DL_does.at 69 rfl) (by decide) ?_
        refine go_icmp_ne 170 (DL_does.at 70 rfl) (by decide) (fun c121 => ?_) (fun c121 => absurd c121 (by decide))
        refine go_aload_2 (DL_does.at 97 rfl) ?_
        refine go_iconst (v := nI 0) (DL_does.at 98 rfl) (by decide) ?_
        refine go_ialdL 6 (DL_does.at 99 rfl) hL (by decide) (show 0 < 4 by decide) ?_
        rw [h60]
        refine go_iconst (v := nI 3) (DL_does.at 100 rfl) (by decide) ?_
        refine go_icmp_ne 241 (DL_does.at 101 rfl) (by decide) (fun c174 => ?_) (fun c174 => absurd c174 (by decide))
        refine go_aload_2 (DL_does.at 135 rfl) ?_
        refine go_iconst (v := nI 0) (DL_does.at 136 rfl) (by decide) ?_
        refine go_ialdL 6 (DL_does.at 137 rfl) hL (by decide) (show 0 < 4 by decide) ?_
        rw [h60]
        refine go_iconst (v := nI 5) (DL_does.at 138 rfl) (by decide) ?_
        refine go_icmp_ne 336 (DL_does.at 139 rfl) (by decide) (fun c245 => ?_) (fun c245 => absurd c245 (by decide))
        refine go_iload_10 (DL_does.at 192 rfl) ?_
        refine go_if_ne 347 (DL_does.at 193 rfl) (by decide) (fun c338 => ?_) (fun c338 => absurd c338 (by decide))
        refine go_aload_2 (DL_does.at 197 rfl) ?_
        refine go_iconst (v := nI 0) (DL_does.at 198 rfl) (by decide) ?_
        refine go_ialdL 6 (DL_does.at 199 rfl) hL (by decide) (show 0 < 4 by decide) ?_
        rw [h60]
        refine go_aload_1 (DL_does.at 200 rfl) ?_
        refine go_iload_9 (DL_does.at 201 rfl) ?_
        refine go_aload_3 (DL_does.at 202 rfl) ?_
        refine go_aload_5 (DL_does.at 203 rfl) ?_
        refine go_cSx5 (DL_does.at 204 rfl) nL_122 vL_nodeDue (by omega) (c_due2 hcn hL hR (by omega)) (Nat.le_of_ble_eq_true rfl) ?_
        rw [← es, cnI_p hs]
        refine go_istore_11 (DL_does.at 205 rfl) ?_
        refine go_iconst (v := nI 0) (DL_does.at 206 rfl) (by decide) ?_
        refine go_istore_12 (DL_does.at 207 rfl) ?_
        exact loop (aT A) 0 h ρ A _ hL hR Only.rf rfl rfl Ag.rf eF0 (Nat.zero_add _)
    · subst eb
      have ec : c = nc (aG A) (aS A) := by omega
      refine go_istore_10 (DL_does.at 15 rfl) ?_
      refine go_iconst (v := nI 0) (DL_does.at 16 rfl) (by decide) ?_
      refine go_istore_11 (DL_does.at 17 rfl) ?_
      refine go_aload_2 (DL_does.at 18 rfl) ?_
      refine go_iconst (v := nI 0) (DL_does.at 19 rfl) (by decide) ?_
      refine go_ialdL 6 (DL_does.at 20 rfl) hL (by decide) (show 0 < 4 by decide) ?_
      rw [h60]
      refine go_if_ne 117 (DL_does.at 21 rfl) (by decide) (fun c32 => ?_) (fun c32 => absurd c32 (by decide))
      refine go_aload_2 (DL_does.at 66 rfl) ?_
      refine go_iconst (v := nI 0) (DL_does.at 67 rfl) (by decide) ?_
      refine go_ialdL 6 (DL_does.at 68 rfl) hL (by decide) (show 0 < 4 by decide) ?_
      rw [h60]
      refine go_iconst (v := nI 1) (DL_does.at 69 rfl) (by decide) ?_
      refine go_icmp_ne 170 (DL_does.at 70 rfl) (by decide) (fun c121 => ?_) (fun c121 => absurd c121 (by decide))
      refine go_aload_2 (DL_does.at 97 rfl) ?_
      refine go_iconst (v := nI 0) (DL_does.at 98 rfl) (by decide) ?_
      refine go_ialdL 6 (DL_does.at 99 rfl) hL (by decide) (show 0 < 4 by decide) ?_
      rw [h60]
      refine go_iconst (v := nI 3) (DL_does.at 100 rfl) (by decide) ?_
      refine go_icmp_ne 241 (DL_does.at 101 rfl) (by decide) (fun c174 => ?_) (fun c174 => absurd c174 (by decide))
      refine go_aload_2 (DL_does.at 135 rfl) ?_
      refine go_iconst (v := nI 0) (DL_does.at 136 rfl) (by decide) ?_
      refine go_ialdL 6 (DL_does.at 137 rfl) hL (by decide) (show 0 < 4 by decide) ?_
      rw [h60]
      refine go_iconst (v := nI 5) (DL_does.at 138 rfl) (by decide) ?_
      refine go_icmp_ne 336 (DL_does.at 139 rfl) (by decide) (fun c245 => ?_) (fun c245 => absurd c245 (by decide))
      refine go_iload_10 (DL_does.at 192 rfl) ?_
      refine go_if_ne 347 (DL_does.at 193 rfl) (by decide) (fun c338 => absurd (show nI 0 = 0 by decide) c338) (fun c338 => ?_)
      refine go_iconst (v := (-1)) (DL_does.at 194 rfl) (by decide) ?_
      refine go_istore_11 (DL_does.at 195 rfl) ?_
      refine go_goto 460 (DL_does.at 196 rfl) (by decide) ?_
      refine go_iload_0 (DL_does.at 261 rfl) ?_
      refine go_iload_11 (DL_does.at 262 rfl) ?_
      refine go_icmp_ne 470 (DL_does.at 263 rfl) (by decide) (fun c463 => absurd (by rw [htl, opR_2, ec, ls_out hA]) c463) (fun c463 => ?_)
      refine go_iconst (v := nI 1) (DL_does.at 264 rfl) (by decide) ?_
      refine go_goto 471 (DL_does.at 265 rfl) (by decide) ?_
      exact go_iret (DL_does.at 267 rfl) rfl rfl (RI.mk ⟨rfl, Only.rf, ρ, hL, by rw [opR_2, ec, ls_out hA, stp_n (by decide)]; exact hR⟩)
  refine go_aload_2 (DL_does.at 0 rfl) ?_
  refine go_iconst (v := nI 1) (DL_does.at 1 rfl) (by decide) ?_
  refine go_ialdL 6 (DL_does.at 2 rfl) hL (by decide) (show 1 < 4 by decide) ?_
  rw [h61]
  refine go_istore_8 (DL_does.at 3 rfl) ?_
  refine go_aload_2 (DL_does.at 4 rfl) ?_
  refine go_iconst (v := nI 2) (DL_does.at 5 rfl) (by decide) ?_
  refine go_ialdL 6 (DL_does.at 6 rfl) hL (by decide) (show 2 < 4 by decide) ?_
  rw [h62]
  refine go_istore_9 (DL_does.at 7 rfl) ?_
  refine go_iload_9 (DL_does.at 8 rfl) ?_
  refine go_aload_3 (DL_does.at 9 rfl) ?_
  refine go_cSx1 (DL_does.at 10 rfl) nL_16 vL_all (by omega) (c_all hL hY) (Nat.le_of_ble_eq_true rfl) ?_
  refine go_icmp_ge 23 (DL_does.at 11 rfl) (by decide) (fun c16 => ?_) (fun c16 => ?_)
  · rw [nI_leI (by omega) (by omega)] at c16
    have fin : ¬ c < nc (aG A) (aS A) := by omega
    refine go_iconst (v := nI 0) (DL_does.at 14 rfl) (by decide) ?_
    exact t24 _ (by first | exact Or.inl ⟨rfl, fin⟩ | exact Or.inr ⟨rfl, fin⟩)
  · rw [nI_leI (by omega) (by omega)] at c16
    have fin : c < nc (aG A) (aS A) := by omega
    refine go_iconst (v := nI 1) (DL_does.at 12 rfl) (by decide) ?_
    refine go_goto 24 (DL_does.at 13 rfl) (by decide) ?_
    exact t24 _ (by first | exact Or.inl ⟨rfl, fin⟩ | exact Or.inr ⟨rfl, fin⟩)

theorem c_does4 {t c v : Nat} {tl : Int32} (ht : t < aT A) (hc : c ≤ nc (aG A) (aS A)) (hW0 : c < nc (aG A) (aS A) → ∀ t, t < aT A → ρ 5 t = wnF A t (cnA A c t)) (htl : tl = (opR A 4 t c v).1) (h60 : ρ 6 0 = nI 4) (h61 : ρ 6 1 = nI t) (h62 : ρ 6 2 = nI c) (h63 : ρ 6 3 = nI v) (hK : Cw A) (hL : LA h ρ) (hR : LR A ρ) (hd : 5 ≤ d) : Calls E mL_does d 0 0 [.int tl, .ref 57, .ref 58, .ref 52, .ref 53, .ref 54, .ref 55, .ref 56] h (RI (DP A h (opR A 4 t c v))) := by
  refine Calls.of (ls := [some (.int tl), some (.ref 57), some (.ref 58), some (.ref 52), some (.ref 53), some (.ref 54), some (.ref 55), some (.ref 56), none, none, none, none, none, none]) (by decide +kernel) rfl (Nat.le_of_ble_eq_true rfl) (cat_ok rfl) ?_
  have hA := hR.1
  have hY := hR.2.1
  have hLO := hY.1
  have hT3 : aT A ≤ 3 := hY.2.1
  have hn := hLO.nc
  have hg4 : aG A ≤ 4 := hLO.2.1
  have hg1 : 1 ≤ aG A := hLO.1
  have hs6 : aS A ≤ 6 := hLO.2.2.2.1
  have hs2 : 2 ≤ aS A := hLO.2.2.1
  have hgs : aG A * aS A ≤ 15 := hLO.2.2.2.2.1
  have hH5 : aH A ≤ 5 := hLO.2.2.2.2.2.2.2
  have hT1 : 1 ≤ aT A := hLO.2.2.2.2.2.1
  have en : nc (aG A) (aS A) = aG A * aS A + aG A + 2 := rfl
  have t24 : ∀ b : Int32, ((b = nI 1 ∧ c < nc (aG A) (aS A)) ∨ (b = nI 0 ∧ ¬ c < nc (aG A) (aS A))) → Go E mL_does d 0 0 24 [some (.int tl), some (.ref 57), some (.ref 58), some (.ref 52), some (.ref 53), some (.ref 54), some (.ref 55), some (.ref 56), some (.int (nI t)), some (.int (nI c)), none, none, none, none] [.int b] h (RI (DP A h (opR A 4 t c v))) := by
    intro b hb
    rcases hb with ⟨eb, hcn⟩ | ⟨eb, hcn⟩
    · subst eb
      have hW := hW0 hcn
      cases hC : mnC A c (aT A) 0 with
      | none =>
        refine go_istore_10 (DL_does.at 15 rfl) ?_
        refine go_iconst (v := nI 0) (DL_does.at 16 rfl) (by decide) ?_
        refine go_istore_11 (DL_does.at 17 rfl) ?_
        refine go_aload_2 (DL_does.at 18 rfl) ?_
        refine go_iconst (v := nI 0) (DL_does.at 19 rfl) (by decide) ?_
        refine go_ialdL 6 (DL_does.at 20 rfl) hL (by decide) (show 0 < 4 by decide) ?_
        rw [h60]
        refine go_if_ne 117 (DL_does.at 21 rfl) (by decide) (fun c32 => ?_) (fun c32 => absurd c32 (by decide))
        refine go_aload_2 (DL_does.at 66 rfl) ?_
        refine go_iconst (v := nI 0) (DL_does.at 67 rfl) (by decide) ?_
        refine go_ialdL 6 (DL_does.at 68 rfl) hL (by decide) (show 0 < 4 by decide) ?_
        rw [h60]
        refine go_iconst (v := nI 1) (DL_does.at 69 rfl) (by decide) ?_
        refine go_icmp_ne 170 (DL_does.at 70 rfl) (by decide) (fun c121 => ?_) (fun c121 => absurd c121 (by decide))
        refine go_aload_2 (DL_does.at 97 rfl) ?_
        refine go_iconst (v := nI 0) (DL_does.at 98 rfl) (by decide) ?_
        refine go_ialdL 6 (DL_does.at 99 rfl) hL (by decide) (show 0 < 4 by decide) ?_
        rw [h60]
        refine go_iconst (v := nI 3) (DL_does.at 100 rfl) (by decide) ?_
        refine go_icmp_ne 241 (DL_does.at 101 rfl) (by decide) (fun c174 => ?_) (fun c174 => absurd c174 (by decide))
        refine go_aload_2 (DL_does.at 135 rfl) ?_
        refine go_iconst (v := nI 0) (DL_does.at 136 rfl) (by decide) ?_
        refine go_ialdL 6 (DL_does.at 137 rfl) hL (by decide) (show 0 < 4 by decide) ?_
        rw [h60]
        refine go_iconst (v := nI 5) (DL_does.at 138 rfl) (by decide) ?_
        refine go_icmp_ne 336 (DL_does.at 139 rfl) (by decide) (fun c245 => ?_) (fun c245 => absurd c245 (by decide))
        refine go_iload_10 (DL_does.at 192 rfl) ?_
        refine go_if_ne 347 (DL_does.at 193 rfl) (by decide) (fun c338 => ?_) (fun c338 => absurd c338 (by decide))
        refine go_aload_2 (DL_does.at 197 rfl) ?_
        refine go_iconst (v := nI 0) (DL_does.at 198 rfl) (by decide) ?_
        refine go_ialdL 6 (DL_does.at 199 rfl) hL (by decide) (show 0 < 4 by decide) ?_
        rw [h60]
        refine go_aload_1 (DL_does.at 200 rfl) ?_
        refine go_iload_9 (DL_does.at 201 rfl) ?_
        refine go_aload_3 (DL_does.at 202 rfl) ?_
        refine go_aload_5 (DL_does.at 203 rfl) ?_
        refine go_cSx5 (DL_does.at 204 rfl) nL_122 vL_nodeDue (by omega) (c_due4 hcn hW hL hR (by omega)) (Nat.le_of_ble_eq_true rfl) ?_
        rw [du4_n hC]
        refine go_istore_11 (DL_does.at 205 rfl) ?_
        refine go_iconst (v := nI 0) (DL_does.at 206 rfl) (by decide) ?_
        refine go_istore_12 (DL_does.at 207 rfl) ?_
        refine go_iload_12 (DL_does.at 208 rfl) ?_
        refine go_aload_3 (DL_does.at 209 rfl) ?_
        refine go_iconst (v := nI 2) (DL_does.at 210 rfl) (by decide) ?_
        refine go_ialdL 0 (DL_does.at 211 rfl) hL (by decide) (show 2 < 9 by decide) ?_
        rw [hY.2.2.2.2.1]
        refine go_icmp_ge 460 (DL_does.at 212 rfl) (by decide) (fun c369 => absurd c369 (by rw [nI_leI (by omega) (by omega)]; omega)) (fun c369 => ?_)
        refine go_iload_11 (DL_does.at 213 rfl) ?_
        refine go_if_le 460 (DL_does.at 214 rfl) (by decide) (fun c374 => ?_) (fun c374 => absurd (show (-4 : Int32) ≤ 0 by decide) c374)
        refine go_iload_0 (DL_does.at 261 rfl) ?_
        refine go_iload_11 (DL_does.at 262 rfl) ?_
        refine go_icmp_ne 470 (DL_does.at 263 rfl) (by decide) (fun c463 => absurd (by rw [htl, opR_4, mn_n hA hK hcn hC]) c463) (fun c463 => ?_)
        refine go_iconst (v := nI 1) (DL_does.at 264 rfl) (by decide) ?_
        refine go_goto 471 (DL_does.at 265 rfl) (by decide) ?_
        exact go_iret (DL_does.at 267 rfl) rfl rfl (RI.mk ⟨rfl, Only.rf, ρ, hL, by rw [opR_4, mn_n hA hK hcn hC, stp_n (by decide)]; exact hR⟩)
      | some s =>
        obtain ⟨F, eF0, e0⟩ := mn_s hA hK hcn hC
        by_cases hs : s = 0
        · subst hs
          rw [cnI_0] at e0
          refine go_istore_10 (DL_does.at 15 rfl) ?_
          refine go_iconst (v := nI 0) (DL_does.at 16 rfl) (by decide) ?_
          refine go_istore_11 (DL_does.at 17 rfl) ?_
          refine go_aload_2 (DL_does.at 18 rfl) ?_
          refine go_iconst (v := nI 0) (DL_does.at 19 rfl) (by decide) ?_
          refine go_ialdL 6 (DL_does.at 20 rfl) hL (by decide) (show 0 < 4 by decide) ?_
          rw [h60]
          refine go_if_ne 117 (DL_does.at 21 rfl) (by decide) (fun c32 => ?_) (fun c32 => absurd c32 (by decide))
          refine go_aload_2 (DL_does.at 66 rfl) ?_
          refine go_iconst (v := nI 0) (DL_does.at 67 rfl) (by decide) ?_
          refine go_ialdL 6 (DL_does.at 68 rfl) hL (by decide) (show 0 < 4 by decide) ?_
          rw [h60]
          refine go_iconst (v := nI 1) (DL_does.at 69 rfl) (by decide) ?_
          refine go_icmp_ne 170 (DL_does.at 70 rfl) (by decide) (fun c121 => ?_) (fun c121 => absurd c121 (by decide))
          refine go_aload_2 (DL_does.at 97 rfl) ?_
          refine go_iconst (v := nI 0) (DL_does.at 98 rfl) (by decide) ?_
          refine go_ialdL 6 (DL_does.at 99 rfl) hL (by decide) (show 0 < 4 by decide) ?_
          rw [h60]
          refine go_iconst (v := nI 3) (DL_does.at 100 rfl) (by decide) ?_
          refine go_icmp_ne 241 (DL_does.at 101 rfl) (by decide) (fun c174 => ?_) (fun c174 => absurd c174 (by decide))
          refine go_aload_2 (DL_does.at 135 rfl) ?_
          refine go_iconst (v := nI 0) (DL_does.at 136 rfl) (by decide) ?_
          refine go_ialdL 6 (DL_does.at 137 rfl) hL (by decide) (show 0 < 4 by decide) ?_
          rw [h60]
          refine go_iconst (v := nI 5) (DL_does.at 138 rfl) (by decide) ?_
          refine go_icmp_ne 336 (DL_does.at 139 rfl) (by decide) (fun c245 => ?_) (fun c245 => absurd c245 (by decide))
          refine go_iload_10 (DL_does.at 192 rfl) ?_
          refine go_if_ne 347 (DL_does.at 193 rfl) (by decide) (fun c338 => ?_) (fun c338 => absurd c338 (by decide))
          refine go_aload_2 (DL_does.at 197 rfl) ?_
          refine go_iconst (v := nI 0) (DL_does.at 198 rfl) (by decide) ?_
          refine go_ialdL 6 (DL_does.at 199 rfl) hL (by decide) (show 0 < 4 by decide) ?_
          rw [h60]
          refine go_aload_1 (DL_does.at 200 rfl) ?_
          refine go_iload_9 (DL_does.at 201 rfl) ?_
          refine go_aload_3 (DL_does.at 202 rfl) ?_
          refine go_aload_5 (DL_does.at 203 rfl) ?_
          refine go_cSx5 (DL_does.at 204 rfl) nL_122 vL_nodeDue (by omega) (c_due4 hcn hW hL hR (by omega)) (Nat.le_of_ble_eq_true rfl) ?_
          rw [du4_s hC, cnI_0]
          refine go_istore_11 (DL_does.at 205 rfl) ?_
          refine go_iconst (v := nI 0) (DL_does.at 206 rfl) (by decide) ?_
          refine go_istore_12 (DL_does.at 207 rfl) ?_
          refine go_iload_12 (DL_does.at 208 rfl) ?_
          refine go_aload_3 (DL_does.at 209 rfl) ?_
          refine go_iconst (v := nI 2) (DL_does.at 210 rfl) (by decide) ?_
          refine go_ialdL 0 (DL_does.at 211 rfl) hL (by decide) (show 2 < 9 by decide) ?_
          rw [hY.2.2.2.2.1]
          refine go_icmp_ge 460 (DL_does.at 212 rfl) (by decide) (fun c369 => absurd c369 (by rw [nI_leI (by omega) (by omega)]; omega)) (fun c369 => ?_)
          refine go_iload_11 (DL_does.at 213 rfl) ?_
          refine go_if_le 460 (DL_does.at 214 rfl) (by decide) (fun c374 => ?_) (fun c374 => absurd (show (-5 : Int32) ≤ 0 by decide) c374)
          refine go_iload_0 (DL_does.at 261 rfl) ?_
          refine go_iload_11 (DL_does.at 262 rfl) ?_
          refine go_icmp_ne 470 (DL_does.at 263 rfl) (by decide) (fun c463 => absurd (by rw [htl, opR_4, e0]) c463) (fun c463 => ?_)
          refine go_iconst (v := nI 1) (DL_does.at 264 rfl) (by decide) ?_
          refine go_goto 471 (DL_does.at 265 rfl) (by decide) ?_
          exact go_iret (DL_does.at 267 rfl) rfl rfl (RI.mk ⟨rfl, Only.rf, ρ, hL, by rw [opR_4, e0, stp_n (by decide)]; exact hR⟩)
        · have hs3 := mnC_le hA (aT A) 0 s (by omega) hC
          have eR : opR A 4 t c v = (nI s, F) := by rw [opR_4, e0, cnI_p hs]
          have htl2 : tl = nI s := by rw [htl, eR]
          have loop : ∀ (m k : Nat) (h1 : List va_E) (ρ1 : Nat → Nat → Int32) (A1 : Ab) (u13 : Option Value), LA h1 ρ1 → LR A1 ρ1 → Only 52 59 h h1 → ρ1 5 = ρ 5 → ρ1 6 = ρ 6 → Ag A A1 k → (∃ r, mnG c m k A1 = some (r, F)) → k + m = aT A → Go E mL_does d 0 0 364 [some (.int tl), some (.ref 57), some (.ref 58), some (.ref 52), some (.ref 53), some (.ref 54), some (.ref 55), some (.ref 56), some (.int (nI t)), some (.int (nI c)), some (.int (nI 1)), some (.int (nI s)), some (.int (nI k)), u13] [] h1 (RI (DP A h (opR A 4 t c v))) := by
            intro m
            induction m with
            | zero =>
              intro k h1 ρ1 A1 u13 L1 R1 O1 e5 e6 hG hF hm
              have hY1 := R1.2.1
              have hg := hG.g
              have ek : k = aT A := by omega
              subst ek
              have eF : A1 = F := by obtain ⟨r, hF⟩ := hF; exact congrArg Prod.snd (Option.some.inj hF)
              refine go_iload_12 (DL_does.at 208 rfl) ?_
              refine go_aload_3 (DL_does.at 209 rfl) ?_
              refine go_iconst (v := nI 2) (DL_does.at 210 rfl) (by decide) ?_
              refine go_ialdL 0 (DL_does.at 211 rfl) L1 (by decide) (show 2 < 9 by decide) ?_
              rw [hY1.2.2.2.2.1, hg.2.2.1]
              refine go_icmp_ge 460 (DL_does.at 212 rfl) (by decide) (fun c369 => ?_) (fun c369 => absurd (Int32.le_refl _) c369)
              refine go_iload_0 (DL_does.at 261 rfl) ?_
              refine go_iload_11 (DL_does.at 262 rfl) ?_
              refine go_icmp_ne 470 (DL_does.at 263 rfl) (by decide) (fun c463 => absurd htl2 c463) (fun c463 => ?_)
              refine go_iconst (v := nI 1) (DL_does.at 264 rfl) (by decide) ?_
              refine go_goto 471 (DL_does.at 265 rfl) (by decide) ?_
              exact go_iret (DL_does.at 267 rfl) rfl rfl (RI.mk ⟨rfl, O1, ρ1, L1, by rw [eR, stp_y (nI_pos (by omega)), ← eF]; exact R1⟩)
            | succ m ih =>
              intro k h1 ρ1 A1 u13 L1 R1 O1 e5 e6 hG hF hm
              have hY1 := R1.2.1
              have hg := hG.g
              have hk1 : k < aT A1 := by rw [hg.2.2.1]; omega
              have hM20 := R1.1.m20 hk1
              have hn1 := R1.1.1.nc
              have hcn1 : cnA A1 c k < nc (aG A1) (aS A1) := con_lt (by omega)
              have hK1 : Cw A1 := hG.cw hK
              have hwk : ρ 5 k = wnF A1 k (cnA A1 c k) := by rw [hG.wn, hG.con]; exact hW k (by omega)
              by_cases hb : bit (aM A1 k) (cnA A1 c k)
              · rcases way_cases A1 k (cnA A1 c k) with ⟨w, src, X, hw⟩ | hw
                · have hw3 := hw.w
                  have eX := hw.val R1.1 hK1 hk1 hcn1 hb
                  subst eX
                  have hF2 : ∃ r, mnG c m (k + 1) (aMnd A1 k (cnA A1 c k) w src (aV A1 k (cnA A1 c k))) = some (r, F) := by
                    obtain ⟨r, hF⟩ := hF
                    rw [mnG_s hb hw] at hF
                    cases e : mnG c m (k + 1) (aMnd A1 k (cnA A1 c k) w src (aV A1 k (cnA A1 c k))) with
                    | none =>
                      rw [e] at hF
                      cases hF
                    | some r2 =>
                      rw [e] at hF
                      have e3 := Option.some.inj hF
                      have e4 : r2.2 = F := congrArg Prod.snd e3
                      exact ⟨r2.1, by rw [← e4]⟩
                  refine go_iload_12 (DL_does.at 208 rfl) ?_
                  refine go_aload_3 (DL_does.at 209 rfl) ?_
                  refine go_iconst (v := nI 2) (DL_does.at 210 rfl) (by decide) ?_
                  refine go_ialdL 0 (DL_does.at 211 rfl) L1 (by decide) (show 2 < 9 by decide) ?_
                  rw [hY1.2.2.2.2.1, hg.2.2.1]
                  refine go_icmp_ge 460 (DL_does.at 212 rfl) (by decide) (fun c369 => absurd c369 (by rw [nI_leI (by omega) (by omega)]; omega)) (fun c369 => ?_)
                  refine go_iload_11 (DL_does.at 213 rfl) ?_
                  refine go_if_le 460 (DL_does.at 214 rfl) (by decide) (fun c374 => absurd c374 (nI_nle (by omega) (by omega))) (fun c374 => ?_)
                  refine go_iload_9 (DL_does.at 215 rfl) ?_
                  refine go_iload_12 (DL_does.at 216 rfl) ?_
                  refine go_aload_3 (DL_does.at 217 rfl) ?_
                  refine go_cSx3 (DL_does.at 218 rfl) nL_126 vL_cellOn (by omega) (c_lcellOn (A := A1) (t := k) (by omega) (by rw [hg.1, hg.2.1]; omega) L1 hY1 (by omega)) (Nat.le_of_ble_eq_true rfl) ?_
                  refine go_istore_13 (DL_does.at 219 rfl) ?_
                  refine go_aload_2 (DL_does.at 220 rfl) ?_
                  refine go_iconst (v := nI 0) (DL_does.at 221 rfl) (by decide) ?_
                  refine go_ialdL 6 (DL_does.at 222 rfl) L1 (by decide) (show 0 < 4 by decide) ?_
                  rw [e6, h60]
                  refine go_iconst (v := nI 2) (DL_does.at 223 rfl) (by decide) ?_
                  refine go_icmp_ne 422 (DL_does.at 224 rfl) (by decide) (fun c391 => ?_) (fun c391 => absurd c391 (by decide))
                  refine go_aload_2 (DL_does.at 240 rfl) ?_
                  refine go_iconst (v := nI 0) (DL_does.at 241 rfl) (by decide) ?_
                  refine go_ialdL 6 (DL_does.at 242 rfl) L1 (by decide) (show 0 < 4 by decide) ?_
                  rw [e6, h60]
                  refine go_iconst (v := nI 4) (DL_does.at 243 rfl) (by decide) ?_
                  refine go_icmp_ne 454 (DL_does.at 244 rfl) (by decide) (fun c426 => absurd rfl c426) (fun c426 => ?_)
                  refine go_aload_1 (DL_does.at 245 rfl) ?_
                  refine go_iload_12 (DL_does.at 246 rfl) ?_
                  refine go_ialdL 5 (DL_does.at 247 rfl) L1 (by decide) (show k < 3 by omega) ?_
                  rw [e5, show ρ 5 k = nI w from hwk.trans (wnF_s hb hw)]
                  refine go_if_le 454 (DL_does.at 248 rfl) (by decide) (fun c433 => absurd c433 (nI_nle (by omega) (by omega))) (fun c433 => ?_)
                  refine go_iload_12 (DL_does.at 249 rfl) ?_
                  refine go_iload_13 (DL_does.at 250 rfl) ?_
                  refine go_aload_1 (DL_does.at 251 rfl) ?_
                  refine go_iload_12 (DL_does.at 252 rfl) ?_
                  refine go_ialdL 5 (DL_does.at 253 rfl) L1 (by decide) (show k < 3 by omega) ?_
                  rw [e5, show ρ 5 k = nI w from hwk.trans (wnF_s hb hw)]
                  refine go_aload_3 (DL_does.at 254 rfl) ?_
                  refine go_aload_5 (DL_does.at 255 rfl) ?_
                  refine go_aload_6 (DL_does.at 256 rfl) ?_
                  refine go_aload_7 (DL_does.at 257 rfl) ?_
                  refine go_cSv7 (DL_does.at 258 rfl) nL_119 vL_mend (by omega) (c_lmend (A := A1) hk1 hcn1 hb hw L1 R1 (by omega)) (Nat.le_of_ble_eq_true rfl) (fun h451 q451 => ?_)
                  obtain ⟨O2, ρ2, L2, R2, e25, e26⟩ := q451
                  refine go_iincN_12 (DL_does.at 259 rfl) ?_
                  refine go_goto 364 (DL_does.at 260 rfl) (by decide) ?_
                  exact ih (k + 1) _ ρ2 (aMnd A1 k (cnA A1 c k) w src (aV A1 k (cnA A1 c k))) _ L2 R2 (O1.trans O2) (e25.trans e5) (e26.trans e6) hG.mnd hF2 (by omega)
                · exfalso
                  obtain ⟨r, hF⟩ := hF
                  rw [mnG_0 hb hw] at hF
                  cases hF
              · refine go_iload_12 (DL_does.at 208 rfl) ?_
                refine go_aload_3 (DL_does.at 209 rfl) ?_
                refine go_iconst (v := nI 2) (DL_does.at 210 rfl) (by decide) ?_
                refine go_ialdL 0 (DL_does.at 211 rfl) L1 (by decide) (show 2 < 9 by decide) ?_
                rw [hY1.2.2.2.2.1, hg.2.2.1]
                refine go_icmp_ge 460 (DL_does.at 212 rfl) (by decide) (fun c369 => absurd c369 (by rw [nI_leI (by omega) (by omega)]; omega)) (fun c369 => ?_)
                refine go_iload_11 (DL_does.at 213 rfl) ?_
                refine go_if_le 460 (DL_does.at 214 rfl) (by decide) (fun c374 => absurd c374 (nI_nle (by omega) (by omega))) (fun c374 => ?_)
                refine go_iload_9 (DL_does.at 215 rfl) ?_
                refine go_iload_12 (DL_does.at 216 rfl) ?_
                refine go_aload_3 (DL_does.at 217 rfl) ?_
                refine go_cSx3 (DL_does.at 218 rfl) nL_126 vL_cellOn (by omega) (c_lcellOn (A := A1) (t := k) (by omega) (by rw [hg.1, hg.2.1]; omega) L1 hY1 (by omega)) (Nat.le_of_ble_eq_true rfl) ?_
                refine go_istore_13 (DL_does.at 219 rfl) ?_
                refine go_aload_2 (DL_does.at 220 rfl) ?_
                refine go_iconst (v := nI 0) (DL_does.at 221 rfl) (by decide) ?_
                refine go_ialdL 6 (DL_does.at 222 rfl) L1 (by decide) (show 0 < 4 by decide) ?_
                rw [e6, h60]
                refine go_iconst (v := nI 2) (DL_does.at 223 rfl) (by decide) ?_
                refine go_icmp_ne 422 (DL_does.at 224 rfl) (by decide) (fun c391 => ?_) (fun c391 => absurd c391 (by decide))
                refine go_aload_2 (DL_does.at 240 rfl) ?_
                refine go_iconst (v := nI 0) (DL_does.at 241 rfl) (by decide) ?_
                refine go_ialdL 6 (DL_does.at 242 rfl) L1 (by decide) (show 0 < 4 by decide) ?_
                rw [e6, h60]
                refine go_iconst (v := nI 4) (DL_does.at 243 rfl) (by decide) ?_
                refine go_icmp_ne 454 (DL_does.at 244 rfl) (by decide) (fun c426 => absurd rfl c426) (fun c426 => ?_)
                refine go_aload_1 (DL_does.at 245 rfl) ?_
                refine go_iload_12 (DL_does.at 246 rfl) ?_
                refine go_ialdL 5 (DL_does.at 247 rfl) L1 (by decide) (show k < 3 by omega) ?_
                rw [e5, show ρ 5 k = -1 from hwk.trans (wnF_n hb)]
                refine go_if_le 454 (DL_does.at 248 rfl) (by decide) (fun c433 => ?_) (fun c433 => absurd (show (-1 : Int32) ≤ 0 by decide) c433)
                refine go_iincN_12 (DL_does.at 259 rfl) ?_
                refine go_goto 364 (DL_does.at 260 rfl) (by decide) ?_
                exact ih (k + 1) h1 ρ1 A1 _ L1 R1 O1 e5 e6 hG.mono (by rw [mnG_f hb] at hF; exact hF) (by omega)
          refine go_istore_10 (DL_does.at 15 rfl) ?_
          refine go_iconst (v := nI 0) (DL_does.at 16 rfl) (by decide) ?_
          refine go_istore_11 (DL_does.at 17 rfl) ?_
          refine go_aload_2 (DL_does.at 18 rfl) ?_
          refine go_iconst (v := nI 0) (DL_does.at 19 rfl) (by decide) ?_
          refine go_ialdL 6 (DL_does.at 20 rfl) hL (by decide) (show 0 < 4 by decide) ?_
          rw [h60]
          refine go_if_ne 117 (DL_does.at 21 rfl) (by decide) (fun c32 => ?_) (fun c32 => absurd c32 (by decide))
          refine go_aload_2 (DL_does.at 66 rfl) ?_
          refine go_iconst (v := nI 0) (DL_does.at 67 rfl) (by decide) ?_
          refine go_ialdL 6 (DL_does.at 68 rfl) hL (by decide) (show 0 < 4 by decide) ?_
          rw [h60]
          refine go_iconst (v := nI 1) (DL_does.at 69 rfl) (by decide) ?_
          refine go_icmp_ne 170 (DL_does.at 70 rfl) (by decide) (fun c121 => ?_) (fun c121 => absurd c121 (by decide))
          refine go_aload_2 (DL_does.at 97 rfl) ?_
          refine go_iconst (v := nI 0) (DL_does.at 98 rfl) (by decide) ?_
          refine go_ialdL 6 (DL_does.at 99 rfl) hL (by decide) (show 0 < 4 by decide) ?_
          rw [h60]
          refine go_iconst (v := nI 3) (DL_does.at 100 rfl) (by decide) ?_
          refine go_icmp_ne 241 (DL_does.at 101 rfl) (by decide) (fun c174 => ?_) (fun c174 => absurd c174 (by decide))
          refine go_aload_2 (DL_does.at 135 rfl) ?_
          refine go_iconst (v := nI 0) (DL_does.at 136 rfl) (by decide) ?_
          refine go_ialdL 6 (DL_does.at 137 rfl) hL (by decide) (show 0 < 4 by decide) ?_
          rw [h60]
          refine go_iconst (v := nI 5) (DL_does.at 138 rfl) (by decide) ?_
          refine go_icmp_ne 336 (DL_does.at 139 rfl) (by decide) (fun c245 => ?_) (fun c245 => absurd c245 (by decide))
          refine go_iload_10 (DL_does.at 192 rfl) ?_
          refine go_if_ne 347 (DL_does.at 193 rfl) (by decide) (fun c338 => ?_) (fun c338 => absurd c338 (by decide))
          refine go_aload_2 (DL_does.at 197 rfl) ?_
          refine go_iconst (v := nI 0) (DL_does.at 198 rfl) (by decide) ?_
          refine go_ialdL 6 (DL_does.at 199 rfl) hL (by decide) (show 0 < 4 by decide) ?_
          rw [h60]
          refine go_aload_1 (DL_does.at 200 rfl) ?_
          refine go_iload_9 (DL_does.at 201 rfl) ?_
          refine go_aload_3 (DL_does.at 202 rfl) ?_
          refine go_aload_5 (DL_does.at 203 rfl) ?_
          refine go_cSx5 (DL_does.at 204 rfl) nL_122 vL_nodeDue (by omega) (c_due4 hcn hW hL hR (by omega)) (Nat.le_of_ble_eq_true rfl) ?_
          rw [du4_s hC, cnI_p hs]
          refine go_istore_11 (DL_does.at 205 rfl) ?_
          refine go_iconst (v := nI 0) (DL_does.at 206 rfl) (by decide) ?_
          refine go_istore_12 (DL_does.at 207 rfl) ?_
          exact loop (aT A) 0 h ρ A _ hL hR Only.rf rfl rfl Ag.rf ⟨s, eF0⟩ (Nat.zero_add _)
    · subst eb
      have ec : c = nc (aG A) (aS A) := by omega
      refine go_istore_10 (DL_does.at 15 rfl) ?_
      refine go_iconst (v := nI 0) (DL_does.at 16 rfl) (by decide) ?_
      refine go_istore_11 (DL_does.at 17 rfl) ?_
      refine go_aload_2 (DL_does.at 18 rfl) ?_
      refine go_iconst (v := nI 0) (DL_does.at 19 rfl) (by decide) ?_
      refine go_ialdL 6 (DL_does.at 20 rfl) hL (by decide) (show 0 < 4 by decide) ?_
      rw [h60]
      refine go_if_ne 117 (DL_does.at 21 rfl) (by decide) (fun c32 => ?_) (fun c32 => absurd c32 (by decide))
      refine go_aload_2 (DL_does.at 66 rfl) ?_
      refine go_iconst (v := nI 0) (DL_does.at 67 rfl) (by decide) ?_
      refine go_ialdL 6 (DL_does.at 68 rfl) hL (by decide) (show 0 < 4 by decide) ?_
      rw [h60]
      refine go_iconst (v := nI 1) (DL_does.at 69 rfl) (by decide) ?_
      refine go_icmp_ne 170 (DL_does.at 70 rfl) (by decide) (fun c121 => ?_) (fun c121 => absurd c121 (by decide))
      refine go_aload_2 (DL_does.at 97 rfl) ?_
      refine go_iconst (v := nI 0) (DL_does.at 98 rfl) (by decide) ?_
      refine go_ialdL 6 (DL_does.at 99 rfl) hL (by decide) (show 0 < 4 by decide) ?_
      rw [h60]
      refine go_iconst (v := nI 3) (DL_does.at 100 rfl) (by decide) ?_
      refine go_icmp_ne 241 (DL_does.at 101 rfl) (by decide) (fun c174 => ?_) (fun c174 => absurd c174 (by decide))
      refine go_aload_2 (DL_does.at 135 rfl) ?_
      refine go_iconst (v := nI 0) (DL_does.at 136 rfl) (by decide) ?_
      refine go_ialdL 6 (DL_does.at 137 rfl) hL (by decide) (show 0 < 4 by decide) ?_
      rw [h60]
      refine go_iconst (v := nI 5) (DL_does.at 138 rfl) (by decide) ?_
      refine go_icmp_ne 336 (DL_does.at 139 rfl) (by decide) (fun c245 => ?_) (fun c245 => absurd c245 (by decide))
      refine go_iload_10 (DL_does.at 192 rfl) ?_
      refine go_if_ne 347 (DL_does.at 193 rfl) (by decide) (fun c338 => absurd (show nI 0 = 0 by decide) c338) (fun c338 => ?_)
      refine go_iconst (v := (-1)) (DL_does.at 194 rfl) (by decide) ?_
      refine go_istore_11 (DL_does.at 195 rfl) ?_
      refine go_goto 460 (DL_does.at 196 rfl) (by decide) ?_
      refine go_iload_0 (DL_does.at 261 rfl) ?_
      refine go_iload_11 (DL_does.at 262 rfl) ?_
      refine go_icmp_ne 470 (DL_does.at 263 rfl) (by decide) (fun c463 => absurd (by rw [htl, opR_4, ec, mn_out hA]) c463) (fun c463 => ?_)
      refine go_iconst (v := nI 1) (DL_does.at 264 rfl) (by decide) ?_
      refine go_goto 471 (DL_does.at 265 rfl) (by decide) ?_
      exact go_iret (DL_does.at 267 rfl) rfl rfl (RI.mk ⟨rfl, Only.rf, ρ, hL, by rw [opR_4, ec, mn_out hA, stp_n (by decide)]; exact hR⟩)
  refine go_aload_2 (DL_does.at 0 rfl) ?_
  refine go_iconst (v := nI 1) (DL_does.at 1 rfl) (by decide) ?_
  refine go_ialdL 6 (DL_does.at 2 rfl) hL (by decide) (show 1 < 4 by decide) ?_
  rw [h61]
  refine go_istore_8 (DL_does.at 3 rfl) ?_
  refine go_aload_2 (DL_does.at 4 rfl) ?_
  refine go_iconst (v := nI 2) (DL_does.at 5 rfl) (by decide) ?_
  refine go_ialdL 6 (DL_does.at 6 rfl) hL (by decide) (show 2 < 4 by decide) ?_
  rw [h62]
  refine go_istore_9 (DL_does.at 7 rfl) ?_
  refine go_iload_9 (DL_does.at 8 rfl) ?_
  refine go_aload_3 (DL_does.at 9 rfl) ?_
  refine go_cSx1 (DL_does.at 10 rfl) nL_16 vL_all (by omega) (c_all hL hY) (Nat.le_of_ble_eq_true rfl) ?_
  refine go_icmp_ge 23 (DL_does.at 11 rfl) (by decide) (fun c16 => ?_) (fun c16 => ?_)
  · rw [nI_leI (by omega) (by omega)] at c16
    have fin : ¬ c < nc (aG A) (aS A) := by omega
    refine go_iconst (v := nI 0) (DL_does.at 14 rfl) (by decide) ?_
    exact t24 _ (by first | exact Or.inl ⟨rfl, fin⟩ | exact Or.inr ⟨rfl, fin⟩)
  · rw [nI_leI (by omega) (by omega)] at c16
    have fin : c < nc (aG A) (aS A) := by omega
    refine go_iconst (v := nI 1) (DL_does.at 12 rfl) (by decide) ?_
    refine go_goto 24 (DL_does.at 13 rfl) (by decide) ?_
    exact t24 _ (by first | exact Or.inl ⟨rfl, fin⟩ | exact Or.inr ⟨rfl, fin⟩)

end LM
