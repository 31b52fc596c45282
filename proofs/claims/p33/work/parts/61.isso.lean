/-! WHETHER IT IS SO: every answer is the law's own -/
section LM
variable {E : AEnv} {d : Nat} {h h' h0 : List va_E} {ρ ρ' : Nat → Nat → Int32} {A : Ab} {Z : Zt} {G : Nat → Option va_E}
theorem c_isSo (hK : Cw A) (eA : zA Z = A) (hZ : CZ (fun j => h[j]?) Z h 0) (hL : LA h ρ) (hR : LR A ρ) (hd : 6 ≤ d) : Calls E mL_isSo d 0 0 [.ref 0, .ref 52, .ref 53, .ref 54, .ref 55, .ref 56] h (RI (fun r h' => r = nI 1 ∧ CZ (fun j => h[j]?) Z h' 0)) := by
  refine Calls.of (ls := [some (.ref 0), some (.ref 52), some (.ref 53), some (.ref 54), some (.ref 55), some (.ref 56), none, none, none, none, none]) (by decide +kernel) rfl (Nat.le_of_ble_eq_true rfl) (cat_ok rfl) ?_
  have hA := hR.1
  have hY := hR.2.1
  have hLO := hY.1
  have hT3 : aT A ≤ 3 := hY.2.1
  have hn := hLO.nc
  have hg4 : aG A ≤ 4 := hLO.2.1
  have hg1 : 1 ≤ aG A := hLO.1
  have hs6 : aS A ≤ 6 := hLO.2.2.2.1
  have hs2 : 2 ≤ aS A := hLO.2.2.1
  have hgs : aG A * aS A ≤ 15 := hLO.2.2.2.2.1
  have hH5 : aH A ≤ 5 := hLO.2.2.2.2.2.2.2
  have hT1 : 1 ≤ aT A := hLO.2.2.2.2.2.1
  have en : nc (aG A) (aS A) = aG A * aS A + aG A + 2 := rfl
  have tz4 : totZ Z 4 = nI (nc (aG A) (aS A)) := by rw [← eA]; rfl
  have tz5 : totZ Z 5 = nI (aQ A).length := by rw [← eA]; rfl
  have tz6 : totZ Z 6 = aK A 0 := by rw [← eA]; rfl
  have tz7 : totZ Z 7 = aK A 1 := by rw [← eA]; rfl
  have tz8 : totZ Z 8 = aK A 2 := by rw [← eA]; rfl
  have tz9 : totZ Z 9 = aK A 3 := by rw [← eA]; rfl
  have hq60 := hA.q60 hT3
  have fin : ∀ (h1 : List va_E) (w7 : Int32) (u8 u9 u10 : Option Value), CZ (fun j => h[j]?) Z h1 0 → Go E mL_isSo d 0 0 315 [some (.ref 0), some (.ref 52), some (.ref 53), some (.ref 54), some (.ref 55), some (.ref 56), some (.int (bzG (aL A) (nc (aG A) (aS A))).1), some (.int w7), u8, u9, u10] [] h1 (RI (fun r h' => r = nI 1 ∧ CZ (fun j => h[j]?) Z h' 0)) := by
    intro h1 w7 u8 u9 u10 q1
    have L1 := hL.cz q1
    obtain ⟨n1, k1, o1⟩ := q1.obj
    refine go_aload_0 (DL_isSo.at 165 rfl) ?_
    refine go_iconst (v := nI 4) (DL_isSo.at 166 rfl) (by decide) ?_
    refine go_cVi1 (DL_isSo.at 167 rfl) nL_63 vX5_total (by omega) (z_total q1 (by omega)) o1 rfl (Nat.le_of_ble_eq_true rfl) (fun x317 h317 q317 => ?_)
    obtain ⟨e317, Z317⟩ := q317
    rw [tot_in (by omega)] at e317
    subst e317
    have L317 := hL.cz Z317
    obtain ⟨n317, k317, o317⟩ := Z317.obj
    refine go_aload_1 (DL_isSo.at 168 rfl) ?_
    refine go_cSx1 (DL_isSo.at 169 rfl) nL_16 vL_all (by omega) (c_all L317 hY) (Nat.le_of_ble_eq_true rfl) ?_
    refine go_icmp_ne 393 (DL_isSo.at 170 rfl) (by decide) (fun c324 => absurd tz4 c324) (fun c324 => ?_)
    refine go_aload_0 (DL_isSo.at 171 rfl) ?_
    refine go_iconst (v := nI 5) (DL_isSo.at 172 rfl) (by decide) ?_
    refine go_cVi1 (DL_isSo.at 173 rfl) nL_63 vX5_total (by omega) (z_total Z317 (by omega)) o317 rfl (Nat.le_of_ble_eq_true rfl) (fun x329 h329 q329 => ?_)
    obtain ⟨e329, Z329⟩ := q329
    rw [tot_in (by omega)] at e329
    subst e329
    have L329 := hL.cz Z329
    obtain ⟨n329, k329, o329⟩ := Z329.obj
    refine go_aload_1 (DL_isSo.at 174 rfl) ?_
    refine go_iconst (v := nI 4) (DL_isSo.at 175 rfl) (by decide) ?_
    refine go_ialdL 0 (DL_isSo.at 176 rfl) L329 (by decide) (show 4 < 9 by decide) ?_
    rw [hR.2.2.1]
    refine go_icmp_ne 393 (DL_isSo.at 177 rfl) (by decide) (fun c335 => absurd tz5 c335) (fun c335 => ?_)
    refine go_aload_0 (DL_isSo.at 178 rfl) ?_
    refine go_bipush (v := nI 6) (DL_isSo.at 179 rfl) (by decide) ?_
    refine go_cVi1 (DL_isSo.at 180 rfl) nL_63 vX5_total (by omega) (z_total Z329 (by omega)) o329 rfl (Nat.le_of_ble_eq_true rfl) (fun x341 h341 q341 => ?_)
    obtain ⟨e341, Z341⟩ := q341
    rw [tot_in (by omega)] at e341
    subst e341
    have L341 := hL.cz Z341
    obtain ⟨n341, k341, o341⟩ := Z341.obj
    refine go_aload_1 (DL_isSo.at 181 rfl) ?_
    refine go_iconst (v := nI 5) (DL_isSo.at 182 rfl) (by decide) ?_
    refine go_ialdL 0 (DL_isSo.at 183 rfl) L341 (by decide) (show 5 < 9 by decide) ?_
    rw [show ρ 0 5 = aK A 0 from hR.2.2.2.1 0 (by decide)]
    refine go_icmp_ne 393 (DL_isSo.at 184 rfl) (by decide) (fun c347 => absurd tz6 c347) (fun c347 => ?_)
    refine go_aload_0 (DL_isSo.at 185 rfl) ?_
    refine go_bipush (v := nI 7) (DL_isSo.at 186 rfl) (by decide) ?_
    refine go_cVi1 (DL_isSo.at 187 rfl) nL_63 vX5_total (by omega) (z_total Z341 (by omega)) o341 rfl (Nat.le_of_ble_eq_true rfl) (fun x353 h353 q353 => ?_)
    obtain ⟨e353, Z353⟩ := q353
    rw [tot_in (by omega)] at e353
    subst e353
    have L353 := hL.cz Z353
    obtain ⟨n353, k353, o353⟩ := Z353.obj
    refine go_aload_1 (DL_isSo.at 188 rfl) ?_
    refine go_bipush (v := nI 6) (DL_isSo.at 189 rfl) (by decide) ?_
    refine go_ialdL 0 (DL_isSo.at 190 rfl) L353 (by decide) (show 6 < 9 by decide) ?_
    rw [show ρ 0 6 = aK A 1 from hR.2.2.2.1 1 (by decide)]
    refine go_icmp_ne 393 (DL_isSo.at 191 rfl) (by decide) (fun c360 => absurd tz7 c360) (fun c360 => ?_)
    refine go_aload_0 (DL_isSo.at 192 rfl) ?_
    refine go_bipush (v := nI 8) (DL_isSo.at 193 rfl) (by decide) ?_
    refine go_cVi1 (DL_isSo.at 194 rfl) nL_63 vX5_total (by omega) (z_total Z353 (by omega)) o353 rfl (Nat.le_of_ble_eq_true rfl) (fun x366 h366 q366 => ?_)
    obtain ⟨e366, Z366⟩ := q366
    rw [tot_in (by omega)] at e366
    subst e366
    have L366 := hL.cz Z366
    obtain ⟨n366, k366, o366⟩ := Z366.obj
    refine go_aload_1 (DL_isSo.at 195 rfl) ?_
    refine go_bipush (v := nI 7) (DL_isSo.at 196 rfl) (by decide) ?_
    refine go_ialdL 0 (DL_isSo.at 197 rfl) L366 (by decide) (show 7 < 9 by decide) ?_
    rw [show ρ 0 7 = aK A 2 from hR.2.2.2.1 2 (by decide)]
    refine go_icmp_ne 393 (DL_isSo.at 198 rfl) (by decide) (fun c373 => absurd tz8 c373) (fun c373 => ?_)
    refine go_aload_0 (DL_isSo.at 199 rfl) ?_
    refine go_bipush (v := nI 9) (DL_isSo.at 200 rfl) (by decide) ?_
    refine go_cVi1 (DL_isSo.at 201 rfl) nL_63 vX5_total (by omega) (z_total Z366 (by omega)) o366 rfl (Nat.le_of_ble_eq_true rfl) (fun x379 h379 q379 => ?_)
    obtain ⟨e379, Z379⟩ := q379
    rw [tot_in (by omega)] at e379
    subst e379
    have L379 := hL.cz Z379
    obtain ⟨n379, k379, o379⟩ := Z379.obj
    refine go_aload_1 (DL_isSo.at 202 rfl) ?_
    refine go_bipush (v := nI 8) (DL_isSo.at 203 rfl) (by decide) ?_
    refine go_ialdL 0 (DL_isSo.at 204 rfl) L379 (by decide) (show 8 < 9 by decide) ?_
    rw [show ρ 0 8 = aK A 3 from hR.2.2.2.1 3 (by decide)]
    refine go_icmp_ne 393 (DL_isSo.at 205 rfl) (by decide) (fun c386 => absurd tz9 c386) (fun c386 => ?_)
    refine go_iconst (v := nI 1) (DL_isSo.at 206 rfl) (by decide) ?_
    refine go_goto 394 (DL_isSo.at 207 rfl) (by decide) ?_
    refine go_istore_8 (DL_isSo.at 209 rfl) ?_
    refine go_iload_8 (DL_isSo.at 210 rfl) ?_
    refine go_if_eq 450 (DL_isSo.at 211 rfl) (by decide) (fun c398 => absurd c398 (by decide)) (fun c398 => ?_)
    refine go_aload_0 (DL_isSo.at 212 rfl) ?_
    refine go_cVi0 (DL_isSo.at 213 rfl) nL_90 vX5_busiest (by omega) (z_busiest Z379 (by omega)) o379 rfl (Nat.le_of_ble_eq_true rfl) (fun x402 h402 q402 => ?_)
    obtain ⟨e402, Z402⟩ := q402
    rw [eA] at e402
    subst e402
    have L402 := hL.cz Z402
    obtain ⟨n402, k402, o402⟩ := Z402.obj
    refine go_iload_6 (DL_isSo.at 214 rfl) ?_
    refine go_icmp_ne 450 (DL_isSo.at 215 rfl) (by decide) (fun c407 => absurd rfl c407) (fun c407 => ?_)
    refine go_aload_0 (DL_isSo.at 216 rfl) ?_
    refine go_aload_1 (DL_isSo.at 217 rfl) ?_
    refine go_iconst (v := nI 4) (DL_isSo.at 218 rfl) (by decide) ?_
    refine go_ialdL 0 (DL_isSo.at 219 rfl) L402 (by decide) (show 4 < 9 by decide) ?_
    rw [hR.2.2.1]
    refine go_cVi1 (DL_isSo.at 220 rfl) nL_76 vX5_waiting (by omega) (z_waiting Z402 (by omega)) o402 rfl (Nat.le_of_ble_eq_true rfl) (fun x414 h414 q414 => ?_)
    obtain ⟨e414, Z414⟩ := q414
    rw [eA, wa_out hq60] at e414
    subst e414
    have L414 := hL.cz Z414
    obtain ⟨n414, k414, o414⟩ := Z414.obj
    refine go_bipush (v := (-5)) (DL_isSo.at 221 rfl) (by decide) ?_
    refine go_icmp_ne 450 (DL_isSo.at 222 rfl) (by decide) (fun c419 => absurd rfl c419) (fun c419 => ?_)
    refine go_aload_0 (DL_isSo.at 223 rfl) ?_
    refine go_aload_1 (DL_isSo.at 224 rfl) ?_
    refine go_iconst (v := nI 2) (DL_isSo.at 225 rfl) (by decide) ?_
    refine go_ialdL 0 (DL_isSo.at 226 rfl) L414 (by decide) (show 2 < 9 by decide) ?_
    rw [hY.2.2.2.2.1]
    refine go_iconst (v := nI 0) (DL_isSo.at 227 rfl) (by decide) ?_
    refine go_cVi2 (DL_isSo.at 228 rfl) nL_71 vX5_value (by omega) (z_value Z414 (by omega)) o414 rfl (Nat.le_of_ble_eq_true rfl) (fun x427 h427 q427 => ?_)
    obtain ⟨e427, Z427⟩ := q427
    rw [eA, va_out hA] at e427
    subst e427
    have L427 := hL.cz Z427
    obtain ⟨n427, k427, o427⟩ := Z427.obj
    refine go_iconst (v := (-1)) (DL_isSo.at 229 rfl) (by decide) ?_
    refine go_icmp_ne 450 (DL_isSo.at 230 rfl) (by decide) (fun c431 => absurd rfl c431) (fun c431 => ?_)
    refine go_aload_0 (DL_isSo.at 231 rfl) ?_
    refine go_aload_1 (DL_isSo.at 232 rfl) ?_
    refine go_cSx1 (DL_isSo.at 233 rfl) nL_16 vL_all (by omega) (c_all L427 hY) (Nat.le_of_ble_eq_true rfl) ?_
    refine go_cVi1 (DL_isSo.at 234 rfl) nL_66 vX5_load (by omega) (z_load Z427 (by omega)) o427 rfl (Nat.le_of_ble_eq_true rfl) (fun x439 h439 q439 => ?_)
    obtain ⟨e439, Z439⟩ := q439
    rw [eA, ld_out hA] at e439
    subst e439
    refine go_iconst (v := (-1)) (DL_isSo.at 235 rfl) (by decide) ?_
    refine go_icmp_ne 450 (DL_isSo.at 236 rfl) (by decide) (fun c443 => absurd rfl c443) (fun c443 => ?_)
    refine go_iconst (v := nI 1) (DL_isSo.at 237 rfl) (by decide) ?_
    refine go_goto 451 (DL_isSo.at 238 rfl) (by decide) ?_
    exact go_iret (DL_isSo.at 240 rfl) rfl rfl (RI.mk ⟨rfl, Z439⟩)
  have l3 : ∀ (m k : Nat) (h1 : List va_E) (w7 : Int32) (u9 u10 : Option Value), CZ (fun j => h[j]?) Z h1 0 → k + m = (aQ A).length → Go E mL_isSo d 0 0 270 [some (.ref 0), some (.ref 52), some (.ref 53), some (.ref 54), some (.ref 55), some (.ref 56), some (.int (bzG (aL A) (nc (aG A) (aS A))).1), some (.int w7), some (.int (nI k)), u9, u10] [] h1 (RI (fun r h' => r = nI 1 ∧ CZ (fun j => h[j]?) Z h' 0)) := by
    intro m
    induction m with
    | zero =>
      intro k h1 w7 u9 u10 q1 hm
      have L1 := hL.cz q1
      obtain ⟨n1, k1, o1⟩ := q1.obj
      have ec : k = (aQ A).length := by omega
      subst ec
      refine go_iload_8 (DL_isSo.at 139 rfl) ?_
      refine go_aload_1 (DL_isSo.at 140 rfl) ?_
      refine go_iconst (v := nI 4) (DL_isSo.at 141 rfl) (by decide) ?_
      refine go_ialdL 0 (DL_isSo.at 142 rfl) L1 (by decide) (show 4 < 9 by decide) ?_
      rw [hR.2.2.1]
      refine go_icmp_ge 315 (DL_isSo.at 143 rfl) (by decide) (fun c275 => ?_) (fun c275 => absurd (Int32.le_refl _) c275)
      exact fin _ _ _ _ _ q1
    | succ m ih =>
      intro k h1 w7 u9 u10 q1 hm
      have L1 := hL.cz q1
      obtain ⟨n1, k1, o1⟩ := q1.obj
      have hkl : k < (aQ A).length := by omega
      have ek : (aQ A)[k]? = some (aQ A)[k] := List.getElem?_eq_getElem hkl
      have hk60 : (aQ A)[k] < 60 := by
        have h1 := ((hA.2.2.2.2 _).mp (List.mem_of_getElem? ek)).1
        omega
      refine go_iload_8 (DL_isSo.at 139 rfl) ?_
      refine go_aload_1 (DL_isSo.at 140 rfl) ?_
      refine go_iconst (v := nI 4) (DL_isSo.at 141 rfl) (by decide) ?_
      refine go_ialdL 0 (DL_isSo.at 142 rfl) L1 (by decide) (show 4 < 9 by decide) ?_
      rw [hR.2.2.1]
      refine go_icmp_ge 315 (DL_isSo.at 143 rfl) (by decide) (fun c275 => absurd c275 (by rw [nI_leI (by omega) (by omega)]; omega)) (fun c275 => ?_)
      refine go_aload_0 (DL_isSo.at 144 rfl) ?_
      refine go_iload_8 (DL_isSo.at 145 rfl) ?_
      refine go_cVi1 (DL_isSo.at 146 rfl) nL_76 vX5_waiting (by omega) (z_waiting q1 (by omega)) o1 rfl (Nat.le_of_ble_eq_true rfl) (fun x281 h281 q281 => ?_)
      obtain ⟨e281, Z281⟩ := q281
      rw [eA, wa_in (by omega) ek] at e281
      subst e281
      have L281 := hL.cz Z281
      obtain ⟨n281, k281, o281⟩ := Z281.obj
      refine go_bipush (v := nI 100) (DL_isSo.at 147 rfl) (by decide) ?_
      refine go_aload_4 (DL_isSo.at 148 rfl) ?_
      refine go_iload_8 (DL_isSo.at 149 rfl) ?_
      refine go_ialdL 3 (DL_isSo.at 150 rfl) L281 (by decide) (show k < 60 by omega) ?_
      rw [hR.2.2.2.2.2.2.1 k _ ek]
      refine go_bipush (v := nI 20) (DL_isSo.at 151 rfl) (by decide) ?_
      refine go_idiv (DL_isSo.at 152 rfl) (nI_ne0 (by decide) (by decide)) ?_
      rw [pk_div (by omega) (by decide) (by decide)]
      refine go_imul (DL_isSo.at 153 rfl) ?_
      rw [pk_mul]
      refine go_aload_4 (DL_isSo.at 154 rfl) ?_
      refine go_iload_8 (DL_isSo.at 155 rfl) ?_
      refine go_ialdL 3 (DL_isSo.at 156 rfl) L281 (by decide) (show k < 60 by omega) ?_
      rw [hR.2.2.2.2.2.2.1 k _ ek]
      refine go_bipush (v := nI 20) (DL_isSo.at 157 rfl) (by decide) ?_
      refine go_irem (DL_isSo.at 158 rfl) (nI_ne0 (by decide) (by decide)) ?_
      rw [pk_rem (by omega) (by decide) (by decide)]
      refine go_iadd (DL_isSo.at 159 rfl) ?_
      rw [nI_add]
      refine go_icmp_eq 309 (DL_isSo.at 160 rfl) (by decide) (fun c304 => ?_) (fun c304 => absurd rfl c304)
      refine go_iincN_8 (DL_isSo.at 163 rfl) ?_
      refine go_goto 270 (DL_isSo.at 164 rfl) (by decide) ?_
      exact ih (k + 1) _ _ _ _ Z281 (by omega)
  have l2 : ∀ (m t : Nat) (h1 : List va_E) (w7 : Int32) (u9 u10 : Option Value), CZ (fun j => h[j]?) Z h1 0 → t + m = aT A → Go E mL_isSo d 0 0 85 [some (.ref 0), some (.ref 52), some (.ref 53), some (.ref 54), some (.ref 55), some (.ref 56), some (.int (bzG (aL A) (nc (aG A) (aS A))).1), some (.int w7), some (.int (nI t)), u9, u10] [] h1 (RI (fun r h' => r = nI 1 ∧ CZ (fun j => h[j]?) Z h' 0)) := by
    intro m
    induction m with
    | zero =>
      intro t h1 w7 u9 u10 q1 hm
      have L1 := hL.cz q1
      obtain ⟨n1, k1, o1⟩ := q1.obj
      have ec : t = aT A := by omega
      subst ec
      refine go_iload_8 (DL_isSo.at 43 rfl) ?_
      refine go_aload_1 (DL_isSo.at 44 rfl) ?_
      refine go_iconst (v := nI 2) (DL_isSo.at 45 rfl) (by decide) ?_
      refine go_ialdL 0 (DL_isSo.at 46 rfl) L1 (by decide) (show 2 < 9 by decide) ?_
      rw [hY.2.2.2.2.1]
      refine go_icmp_ge 267 (DL_isSo.at 47 rfl) (by decide) (fun c90 => ?_) (fun c90 => absurd (Int32.le_refl _) c90)
      refine go_iconst (v := nI 0) (DL_isSo.at 137 rfl) (by decide) ?_
      refine go_istore_8 (DL_isSo.at 138 rfl) ?_
      exact l3 _ 0 _ _ _ _ q1 (Nat.zero_add _)
    | succ m ih =>
      intro t h1 w7 u9 u10 q1 hm
      have L1 := hL.cz q1
      obtain ⟨n1, k1, o1⟩ := q1.obj
      have ht : t < aT A := by omega
      have hM20 := hA.m20 ht
      have li : ∀ (m c : Nat) (h2 : List va_E) (u10 : Option Value), CZ (fun j => h[j]?) Z h2 0 → c + m = nc (aG A) (aS A) → Go E mL_isSo d 0 0 96 [some (.ref 0), some (.ref 52), some (.ref 53), some (.ref 54), some (.ref 55), some (.ref 56), some (.int (bzG (aL A) (nc (aG A) (aS A))).1), some (.int w7), some (.int (nI t)), some (.int (nI c)), u10] [] h2 (RI (fun r h' => r = nI 1 ∧ CZ (fun j => h[j]?) Z h' 0)) := by
        intro m
        induction m with
        | zero =>
          intro c h2 u10 q2 hm2
          have L2 := hL.cz q2
          obtain ⟨n2, k2, o2⟩ := q2.obj
          have ec : c = nc (aG A) (aS A) := by omega
          subst ec
          by_cases hM0 : aM A t = 0
          · refine go_iload_9 (DL_isSo.at 50 rfl) ?_
            refine go_aload_1 (DL_isSo.at 51 rfl) ?_
            refine go_cSx1 (DL_isSo.at 52 rfl) nL_16 vL_all (by omega) (c_all L2 hY) (Nat.le_of_ble_eq_true rfl) ?_
            refine go_icmp_ge 201 (DL_isSo.at 53 rfl) (by decide) (fun c102 => ?_) (fun c102 => absurd (Int32.le_refl _) c102)
            refine go_aload_0 (DL_isSo.at 104 rfl) ?_
            refine go_iload_8 (DL_isSo.at 105 rfl) ?_
            refine go_cVi1 (DL_isSo.at 106 rfl) nL_81 vX5_lost (by omega) (z_lost q2 (by omega)) o2 rfl (Nat.le_of_ble_eq_true rfl) (fun x204 h204 q204 => ?_)
            obtain ⟨e204, Z204⟩ := q204
            rw [eA, lt_in hA ht] at e204
            subst e204
            have L204 := hL.cz Z204
            obtain ⟨n204, k204, o204⟩ := Z204.obj
            refine go_aload_3 (DL_isSo.at 107 rfl) ?_
            refine go_iload_8 (DL_isSo.at 108 rfl) ?_
            refine go_ialdL 2 (DL_isSo.at 109 rfl) L204 (by decide) (show t < 3 by omega) ?_
            rw [hR.2.2.2.2.2.1 t ht]
            refine go_icmp_ne 259 (DL_isSo.at 110 rfl) (by decide) (fun c211 => absurd rfl c211) (fun c211 => ?_)
            refine go_aload_0 (DL_isSo.at 111 rfl) ?_
            refine go_iload_8 (DL_isSo.at 112 rfl) ?_
            refine go_cVi1 (DL_isSo.at 113 rfl) nL_84 vX5_failing (by omega) (z_failing Z204 (by omega)) o204 rfl (Nat.le_of_ble_eq_true rfl) (fun x217 h217 q217 => ?_)
            obtain ⟨e217, Z217⟩ := q217
            rw [eA, fa_in hA hK ht, if_pos hM0] at e217
            subst e217
            have L217 := hL.cz Z217
            obtain ⟨n217, k217, o217⟩ := Z217.obj
            refine go_aload_3 (DL_isSo.at 114 rfl) ?_
            refine go_iload_8 (DL_isSo.at 115 rfl) ?_
            refine go_ialdL 2 (DL_isSo.at 116 rfl) L217 (by decide) (show t < 3 by omega) ?_
            rw [hR.2.2.2.2.2.1 t ht]
            refine go_if_ne 231 (DL_isSo.at 117 rfl) (by decide) (fun c224 => absurd ((nI_eq0 (by omega)).mpr hM0) c224) (fun c224 => ?_)
            refine go_iconst (v := nI 0) (DL_isSo.at 118 rfl) (by decide) ?_
            refine go_goto 233 (DL_isSo.at 119 rfl) (by decide) ?_
            refine go_icmp_ne 259 (DL_isSo.at 121 rfl) (by decide) (fun c233 => absurd rfl c233) (fun c233 => ?_)
            refine go_aload_0 (DL_isSo.at 122 rfl) ?_
            refine go_iload_8 (DL_isSo.at 123 rfl) ?_
            refine go_cVi1 (DL_isSo.at 124 rfl) nL_87 vX5_culprit (by omega) (z_culprit Z217 (by omega)) o217 rfl (Nat.le_of_ble_eq_true rfl) (fun x239 h239 q239 => ?_)
            obtain ⟨e239, Z239⟩ := q239
            rw [eA, cu_in hA hK ht, if_pos hM0] at e239
            subst e239
            have L239 := hL.cz Z239
            obtain ⟨n239, k239, o239⟩ := Z239.obj
            refine go_aload_3 (DL_isSo.at 125 rfl) ?_
            refine go_iload_8 (DL_isSo.at 126 rfl) ?_
            refine go_ialdL 2 (DL_isSo.at 127 rfl) L239 (by decide) (show t < 3 by omega) ?_
            rw [hR.2.2.2.2.2.1 t ht]
            refine go_if_ne 254 (DL_isSo.at 128 rfl) (by decide) (fun c246 => absurd ((nI_eq0 (by omega)).mpr hM0) c246) (fun c246 => ?_)
            refine go_bipush (v := (-5)) (DL_isSo.at 129 rfl) (by decide) ?_
            refine go_goto 256 (DL_isSo.at 130 rfl) (by decide) ?_
            refine go_icmp_eq 261 (DL_isSo.at 132 rfl) (by decide) (fun c256 => ?_) (fun c256 => absurd rfl c256)
            refine go_iincN_8 (DL_isSo.at 135 rfl) ?_
            refine go_goto 85 (DL_isSo.at 136 rfl) (by decide) ?_
            exact ih (t + 1) _ _ _ _ Z239 (by omega)
          · refine go_iload_9 (DL_isSo.at 50 rfl) ?_
            refine go_aload_1 (DL_isSo.at 51 rfl) ?_
            refine go_cSx1 (DL_isSo.at 52 rfl) nL_16 vL_all (by omega) (c_all L2 hY) (Nat.le_of_ble_eq_true rfl) ?_
            refine go_icmp_ge 201 (DL_isSo.at 53 rfl) (by decide) (fun c102 => ?_) (fun c102 => absurd (Int32.le_refl _) c102)
            refine go_aload_0 (DL_isSo.at 104 rfl) ?_
            refine go_iload_8 (DL_isSo.at 105 rfl) ?_
            refine go_cVi1 (DL_isSo.at 106 rfl) nL_81 vX5_lost (by omega) (z_lost q2 (by omega)) o2 rfl (Nat.le_of_ble_eq_true rfl) (fun x204 h204 q204 => ?_)
            obtain ⟨e204, Z204⟩ := q204
            rw [eA, lt_in hA ht] at e204
            subst e204
            have L204 := hL.cz Z204
            obtain ⟨n204, k204, o204⟩ := Z204.obj
            refine go_aload_3 (DL_isSo.at 107 rfl) ?_
            refine go_iload_8 (DL_isSo.at 108 rfl) ?_
            refine go_ialdL 2 (DL_isSo.at 109 rfl) L204 (by decide) (show t < 3 by omega) ?_
            rw [hR.2.2.2.2.2.1 t ht]
            refine go_icmp_ne 259 (DL_isSo.at 110 rfl) (by decide) (fun c211 => absurd rfl c211) (fun c211 => ?_)
            refine go_aload_0 (DL_isSo.at 111 rfl) ?_
            refine go_iload_8 (DL_isSo.at 112 rfl) ?_
            refine go_cVi1 (DL_isSo.at 113 rfl) nL_84 vX5_failing (by omega) (z_failing Z204 (by omega)) o204 rfl (Nat.le_of_ble_eq_true rfl) (fun x217 h217 q217 => ?_)
            obtain ⟨e217, Z217⟩ := q217
            rw [eA, fa_in hA hK ht, if_neg hM0] at e217
            subst e217
            have L217 := hL.cz Z217
            obtain ⟨n217, k217, o217⟩ := Z217.obj
            refine go_aload_3 (DL_isSo.at 114 rfl) ?_
            refine go_iload_8 (DL_isSo.at 115 rfl) ?_
            refine go_ialdL 2 (DL_isSo.at 116 rfl) L217 (by decide) (show t < 3 by omega) ?_
            rw [hR.2.2.2.2.2.1 t ht]
            refine go_if_ne 231 (DL_isSo.at 117 rfl) (by decide) (fun c224 => ?_) (fun c224 => absurd ((nI_eq0 (by omega)).mp c224) hM0)
            refine go_bipush (v := (-4)) (DL_isSo.at 120 rfl) (by decide) ?_
            refine go_icmp_ne 259 (DL_isSo.at 121 rfl) (by decide) (fun c233 => absurd rfl c233) (fun c233 => ?_)
            refine go_aload_0 (DL_isSo.at 122 rfl) ?_
            refine go_iload_8 (DL_isSo.at 123 rfl) ?_
            refine go_cVi1 (DL_isSo.at 124 rfl) nL_87 vX5_culprit (by omega) (z_culprit Z217 (by omega)) o217 rfl (Nat.le_of_ble_eq_true rfl) (fun x239 h239 q239 => ?_)
            obtain ⟨e239, Z239⟩ := q239
            rw [eA, cu_in hA hK ht, if_neg hM0] at e239
            subst e239
            have L239 := hL.cz Z239
            obtain ⟨n239, k239, o239⟩ := Z239.obj
            refine go_aload_3 (DL_isSo.at 125 rfl) ?_
            refine go_iload_8 (DL_isSo.at 126 rfl) ?_
            refine go_ialdL 2 (DL_isSo.at 127 rfl) L239 (by decide) (show t < 3 by omega) ?_
            rw [hR.2.2.2.2.2.1 t ht]
            refine go_if_ne 254 (DL_isSo.at 128 rfl) (by decide) (fun c246 => ?_) (fun c246 => absurd ((nI_eq0 (by omega)).mp c246) hM0)
            refine go_bipush (v := (-4)) (DL_isSo.at 131 rfl) (by decide) ?_
            refine go_icmp_eq 261 (DL_isSo.at 132 rfl) (by decide) (fun c256 => ?_) (fun c256 => absurd rfl c256)
            refine go_iincN_8 (DL_isSo.at 135 rfl) ?_
            refine go_goto 85 (DL_isSo.at 136 rfl) (by decide) ?_
            exact ih (t + 1) _ _ _ _ Z239 (by omega)
        | succ m ih2 =>
          intro c h2 u10 q2 hm2
          have L2 := hL.cz q2
          obtain ⟨n2, k2, o2⟩ := q2.obj
          have hc : c < nc (aG A) (aS A) := by omega
          by_cases hb : bit (aM A t) c
          · refine go_iload_9 (DL_isSo.at 50 rfl) ?_
            refine go_aload_1 (DL_isSo.at 51 rfl) ?_
            refine go_cSx1 (DL_isSo.at 52 rfl) nL_16 vL_all (by omega) (c_all L2 hY) (Nat.le_of_ble_eq_true rfl) ?_
            refine go_icmp_ge 201 (DL_isSo.at 53 rfl) (by decide) (fun c102 => absurd c102 (by rw [nI_leI (by omega) (by omega)]; omega)) (fun c102 => ?_)
            refine go_aload_3 (DL_isSo.at 54 rfl) ?_
            refine go_iload_8 (DL_isSo.at 55 rfl) ?_
            refine go_ialdL 2 (DL_isSo.at 56 rfl) L2 (by decide) (show t < 3 by omega) ?_
            rw [hR.2.2.2.2.2.1 t ht]
            refine go_iload_9 (DL_isSo.at 57 rfl) ?_
            refine go_ishr (DL_isSo.at 58 rfl) ?_
            refine go_iconst (v := nI 1) (DL_isSo.at 59 rfl) (by decide) ?_
            refine go_iand (DL_isSo.at 60 rfl) ?_
            rw [nx_bit (by omega) (by omega)]
            refine go_iconst (v := nI 1) (DL_isSo.at 61 rfl) (by decide) ?_
            refine go_icmp_ne 122 (DL_isSo.at 62 rfl) (by decide) (fun c115 => absurd (congrArg nI (show aM A t / 2 ^ c % 2 = 1 from hb)) c115) (fun c115 => ?_)
            refine go_iconst (v := nI 1) (DL_isSo.at 63 rfl) (by decide) ?_
            refine go_goto 123 (DL_isSo.at 64 rfl) (by decide) ?_
            refine go_istore_10 (DL_isSo.at 66 rfl) ?_
            refine go_aload_0 (DL_isSo.at 67 rfl) ?_
            refine go_iload_8 (DL_isSo.at 68 rfl) ?_
            refine go_iload_9 (DL_isSo.at 69 rfl) ?_
            refine go_cVi2 (DL_isSo.at 70 rfl) nL_71 vX5_value (by omega) (z_value q2 (by omega)) o2 rfl (Nat.le_of_ble_eq_true rfl) (fun x130 h130 q130 => ?_)
            obtain ⟨e130, Z130⟩ := q130
            rw [eA, va_b hA ht hc hb] at e130
            subst e130
            have L130 := hL.cz Z130
            obtain ⟨n130, k130, o130⟩ := Z130.obj
            refine go_iload_10 (DL_isSo.at 71 rfl) ?_
            refine go_if_eq 143 (DL_isSo.at 72 rfl) (by decide) (fun c135 => absurd c135 (by decide)) (fun c135 => ?_)
            refine go_bipush (v := (-5)) (DL_isSo.at 73 rfl) (by decide) ?_
            refine go_goto 153 (DL_isSo.at 74 rfl) (by decide) ?_
            refine go_icmp_ne 193 (DL_isSo.at 82 rfl) (by decide) (fun c153 => absurd rfl c153) (fun c153 => ?_)
            refine go_aload_0 (DL_isSo.at 83 rfl) ?_
            refine go_iload_8 (DL_isSo.at 84 rfl) ?_
            refine go_iload_9 (DL_isSo.at 85 rfl) ?_
            refine go_cVi2 (DL_isSo.at 86 rfl) nL_79 vX5_node (by omega) (z_node Z130 (by omega)) o130 rfl (Nat.le_of_ble_eq_true rfl) (fun x161 h161 q161 => ?_)
            obtain ⟨e161, Z161⟩ := q161
            rw [eA, no_in hA ht hc] at e161
            subst e161
            have L161 := hL.cz Z161
            obtain ⟨n161, k161, o161⟩ := Z161.obj
            refine go_iload_8 (DL_isSo.at 87 rfl) ?_
            refine go_iload_9 (DL_isSo.at 88 rfl) ?_
            refine go_aload_1 (DL_isSo.at 89 rfl) ?_
            refine go_cSx3 (DL_isSo.at 90 rfl) nL_48 vL_node (by omega) (c_lnode ht hc L161 hY (by omega)) (Nat.le_of_ble_eq_true rfl) ?_
            refine go_icmp_ne 193 (DL_isSo.at 91 rfl) (by decide) (fun c172 => absurd rfl c172) (fun c172 => ?_)
            refine go_iload_10 (DL_isSo.at 92 rfl) ?_
            refine go_if_ne 195 (DL_isSo.at 93 rfl) (by decide) (fun c177 => ?_) (fun c177 => absurd c177 (by decide))
            refine go_iincN_9 (DL_isSo.at 102 rfl) ?_
            refine go_goto 96 (DL_isSo.at 103 rfl) (by decide) ?_
            exact ih2 (c + 1) _ _ Z161 (by omega)
          · refine go_iload_9 (DL_isSo.at 50 rfl) ?_
            refine go_aload_1 (DL_isSo.at 51 rfl) ?_
            refine go_cSx1 (DL_isSo.at 52 rfl) nL_16 vL_all (by omega) (c_all L2 hY) (Nat.le_of_ble_eq_true rfl) ?_
            refine go_icmp_ge 201 (DL_isSo.at 53 rfl) (by decide) (fun c102 => absurd c102 (by rw [nI_leI (by omega) (by omega)]; omega)) (fun c102 => ?_)
            refine go_aload_3 (DL_isSo.at 54 rfl) ?_
            refine go_iload_8 (DL_isSo.at 55 rfl) ?_
            refine go_ialdL 2 (DL_isSo.at 56 rfl) L2 (by decide) (show t < 3 by omega) ?_
            rw [hR.2.2.2.2.2.1 t ht]
            refine go_iload_9 (DL_isSo.at 57 rfl) ?_
            refine go_ishr (DL_isSo.at 58 rfl) ?_
            refine go_iconst (v := nI 1) (DL_isSo.at 59 rfl) (by decide) ?_
            refine go_iand (DL_isSo.at 60 rfl) ?_
            rw [nx_bit (by omega) (by omega)]
            refine go_iconst (v := nI 1) (DL_isSo.at 61 rfl) (by decide) ?_
            refine go_icmp_ne 122 (DL_isSo.at 62 rfl) (by decide) (fun c115 => ?_) (fun c115 => absurd ((nI_eq (by omega) (by decide)).mp c115) hb)
            refine go_iconst (v := nI 0) (DL_isSo.at 65 rfl) (by decide) ?_
            refine go_istore_10 (DL_isSo.at 66 rfl) ?_
            refine go_aload_0 (DL_isSo.at 67 rfl) ?_
            refine go_iload_8 (DL_isSo.at 68 rfl) ?_
            refine go_iload_9 (DL_isSo.at 69 rfl) ?_
            refine go_cVi2 (DL_isSo.at 70 rfl) nL_71 vX5_value (by omega) (z_value q2 (by omega)) o2 rfl (Nat.le_of_ble_eq_true rfl) (fun x130 h130 q130 => ?_)
            obtain ⟨e130, Z130⟩ := q130
            rw [eA, va_n hA ht hc hb] at e130
            subst e130
            have L130 := hL.cz Z130
            obtain ⟨n130, k130, o130⟩ := Z130.obj
            refine go_iload_10 (DL_isSo.at 71 rfl) ?_
            refine go_if_eq 143 (DL_isSo.at 72 rfl) (by decide) (fun c135 => ?_) (fun c135 => absurd (show nI 0 = 0 by decide) c135)
            refine go_aload_2 (DL_isSo.at 75 rfl) ?_
            refine go_bipush (v := nI 20) (DL_isSo.at 76 rfl) (by decide) ?_
            refine go_iload_8 (DL_isSo.at 77 rfl) ?_
            refine go_imul (DL_isSo.at 78 rfl) ?_
            rw [pk_mul]
            refine go_iload_9 (DL_isSo.at 79 rfl) ?_
            refine go_iadd (DL_isSo.at 80 rfl) ?_
            rw [nI_add]
            refine go_ialdL 1 (DL_isSo.at 81 rfl) L130 (by decide) (show 20 * t + c < 60 by omega) ?_
            rw [hR.2.2.2.2.1 t ht c hc]
            refine go_icmp_ne 193 (DL_isSo.at 82 rfl) (by decide) (fun c153 => absurd rfl c153) (fun c153 => ?_)
            refine go_aload_0 (DL_isSo.at 83 rfl) ?_
            refine go_iload_8 (DL_isSo.at 84 rfl) ?_
            refine go_iload_9 (DL_isSo.at 85 rfl) ?_
            refine go_cVi2 (DL_isSo.at 86 rfl) nL_79 vX5_node (by omega) (z_node Z130 (by omega)) o130 rfl (Nat.le_of_ble_eq_true rfl) (fun x161 h161 q161 => ?_)
            obtain ⟨e161, Z161⟩ := q161
            rw [eA, no_in hA ht hc] at e161
            subst e161
            have L161 := hL.cz Z161
            obtain ⟨n161, k161, o161⟩ := Z161.obj
            refine go_iload_8 (DL_isSo.at 87 rfl) ?_
            refine go_iload_9 (DL_isSo.at 88 rfl) ?_
            refine go_aload_1 (DL_isSo.at 89 rfl) ?_
            refine go_cSx3 (DL_isSo.at 90 rfl) nL_48 vL_node (by omega) (c_lnode ht hc L161 hY (by omega)) (Nat.le_of_ble_eq_true rfl) ?_
            refine go_icmp_ne 193 (DL_isSo.at 91 rfl) (by decide) (fun c172 => absurd rfl c172) (fun c172 => ?_)
            refine go_iload_10 (DL_isSo.at 92 rfl) ?_
            refine go_if_ne 195 (DL_isSo.at 93 rfl) (by decide) (fun c177 => absurd (show nI 0 = 0 by decide) c177) (fun c177 => ?_)
            refine go_aload_0 (DL_isSo.at 94 rfl) ?_
            refine go_iload_8 (DL_isSo.at 95 rfl) ?_
            refine go_iload_9 (DL_isSo.at 96 rfl) ?_
            refine go_cVi2 (DL_isSo.at 97 rfl) nL_31 vX5_way (by omega) (z_way Z161 (by omega)) o161 rfl (Nat.le_of_ble_eq_true rfl) (fun x185 h185 q185 => ?_)
            obtain ⟨e185, Z185⟩ := q185
            rw [eA, asF_n hA ht hc hb] at e185
            subst e185
            have L185 := hL.cz Z185
            obtain ⟨n185, k185, o185⟩ := Z185.obj
            refine go_bipush (v := (-5)) (DL_isSo.at 98 rfl) (by decide) ?_
            refine go_icmp_eq 195 (DL_isSo.at 99 rfl) (by decide) (fun c190 => ?_) (fun c190 => absurd rfl c190)
            refine go_iincN_9 (DL_isSo.at 102 rfl) ?_
            refine go_goto 96 (DL_isSo.at 103 rfl) (by decide) ?_
            exact ih2 (c + 1) _ _ Z185 (by omega)
      refine go_iload_8 (DL_isSo.at 43 rfl) ?_
      refine go_aload_1 (DL_isSo.at 44 rfl) ?_
      refine go_iconst (v := nI 2) (DL_isSo.at 45 rfl) (by decide) ?_
      refine go_ialdL 0 (DL_isSo.at 46 rfl) L1 (by decide) (show 2 < 9 by decide) ?_
      rw [hY.2.2.2.2.1]
      refine go_icmp_ge 267 (DL_isSo.at 47 rfl) (by decide) (fun c90 => absurd c90 (by rw [nI_leI (by omega) (by omega)]; omega)) (fun c90 => ?_)
      refine go_iconst (v := nI 0) (DL_isSo.at 48 rfl) (by decide) ?_
      refine go_istore_9 (DL_isSo.at 49 rfl) ?_
      exact li (nc (aG A) (aS A)) 0 _ _ q1 (Nat.zero_add _)
  have l1 : ∀ (m n : Nat) (h1 : List va_E) (u9 u10 : Option Value), CZ (fun j => h[j]?) Z h1 0 → n + m = nc (aG A) (aS A) → Go E mL_isSo d 0 0 10 [some (.ref 0), some (.ref 52), some (.ref 53), some (.ref 54), some (.ref 55), some (.ref 56), some (.int (bzG (aL A) n).1), some (.int (bzG (aL A) n).2), some (.int (nI n)), u9, u10] [] h1 (RI (fun r h' => r = nI 1 ∧ CZ (fun j => h[j]?) Z h' 0)) := by
    intro m
    induction m with
    | zero =>
      intro n h1 u9 u10 q1 hm
      have L1 := hL.cz q1
      obtain ⟨n1, k1, o1⟩ := q1.obj
      have ec : n = nc (aG A) (aS A) := by omega
      subst ec
      refine go_iload_8 (DL_isSo.at 6 rfl) ?_
      refine go_aload_1 (DL_isSo.at 7 rfl) ?_
      refine go_cSx1 (DL_isSo.at 8 rfl) nL_16 vL_all (by omega) (c_all L1 hY) (Nat.le_of_ble_eq_true rfl) ?_
      refine go_icmp_ge 82 (DL_isSo.at 9 rfl) (by decide) (fun c16 => ?_) (fun c16 => absurd (Int32.le_refl _) c16)
      refine go_iconst (v := nI 0) (DL_isSo.at 41 rfl) (by decide) ?_
      refine go_istore_8 (DL_isSo.at 42 rfl) ?_
      exact l2 _ 0 _ _ _ _ q1 (Nat.zero_add _)
    | succ m ih =>
      intro n h1 u9 u10 q1 hm
      have L1 := hL.cz q1
      obtain ⟨n1, k1, o1⟩ := q1.obj
      have hn2 : n < nc (aG A) (aS A) := by omega
      have t10 : ∀ (b w : Int32) (h2 : List va_E), CZ (fun j => h[j]?) Z h2 0 → b = (bzG (aL A) (n + 1)).1 → w = (bzG (aL A) (n + 1)).2 → Go E mL_isSo d 0 0 10 [some (.ref 0), some (.ref 52), some (.ref 53), some (.ref 54), some (.ref 55), some (.ref 56), some (.int b), some (.int w), some (.int (nI (n + 1))), u9, u10] [] h2 (RI (fun r h' => r = nI 1 ∧ CZ (fun j => h[j]?) Z h' 0)) := by
        intro b w h2 q2 e1 e2
        rw [e1, e2]
        exact ih (n + 1) _ _ _ q2 (by omega)
      refine go_iload_8 (DL_isSo.at 6 rfl) ?_
      refine go_aload_1 (DL_isSo.at 7 rfl) ?_
      refine go_cSx1 (DL_isSo.at 8 rfl) nL_16 vL_all (by omega) (c_all L1 hY) (Nat.le_of_ble_eq_true rfl) ?_
      refine go_icmp_ge 82 (DL_isSo.at 9 rfl) (by decide) (fun c16 => absurd c16 (by rw [nI_leI (by omega) (by omega)]; omega)) (fun c16 => ?_)
      refine go_aload_0 (DL_isSo.at 10 rfl) ?_
      refine go_iload_8 (DL_isSo.at 11 rfl) ?_
      refine go_cVi1 (DL_isSo.at 12 rfl) nL_66 vX5_load (by omega) (z_load q1 (by omega)) o1 rfl (Nat.le_of_ble_eq_true rfl) (fun x22 h22 q22 => ?_)
      obtain ⟨e22, Z22⟩ := q22
      rw [eA, ld_in hA hn2] at e22
      subst e22
      have L22 := hL.cz Z22
      obtain ⟨n22, k22, o22⟩ := Z22.obj
      refine go_aload_5 (DL_isSo.at 13 rfl) ?_
      refine go_iload_8 (DL_isSo.at 14 rfl) ?_
      refine go_ialdL 4 (DL_isSo.at 15 rfl) L22 (by decide) (show n < 20 by omega) ?_
      rw [hR.2.2.2.2.2.2.2 n (by omega)]
      refine go_icmp_eq 35 (DL_isSo.at 16 rfl) (by decide) (fun c30 => ?_) (fun c30 => absurd rfl c30)
      refine go_aload_5 (DL_isSo.at 19 rfl) ?_
      refine go_iload_8 (DL_isSo.at 20 rfl) ?_
      refine go_ialdL 4 (DL_isSo.at 21 rfl) L22 (by decide) (show n < 20 by omega) ?_
      rw [hR.2.2.2.2.2.2.2 n (by omega)]
      refine go_iload_7 (DL_isSo.at 22 rfl) ?_
      refine go_icmp_le 50 (DL_isSo.at 23 rfl) (by decide) (fun c42 => ?_) (fun c42 => ?_)
      · refine go_iload_6 (DL_isSo.at 26 rfl) ?_
        refine go_istore_6 (DL_isSo.at 27 rfl) ?_
        refine go_aload_5 (DL_isSo.at 28 rfl) ?_
        refine go_iload_8 (DL_isSo.at 29 rfl) ?_
        refine go_ialdL 4 (DL_isSo.at 30 rfl) L22 (by decide) (show n < 20 by omega) ?_
        rw [hR.2.2.2.2.2.2.2 n (by omega)]
        refine go_iload_7 (DL_isSo.at 31 rfl) ?_
        refine go_icmp_le 72 (DL_isSo.at 32 rfl) (by decide) (fun c61 => ?_) (fun c61 => ?_)
        · refine go_iload_7 (DL_isSo.at 37 rfl) ?_
          refine go_istore_7 (DL_isSo.at 38 rfl) ?_
          refine go_iincN_8 (DL_isSo.at 39 rfl) ?_
          refine go_goto 10 (DL_isSo.at 40 rfl) (by decide) ?_
          exact t10 _ _ _ Z22 (by first | rw [bz_n (Int32.not_lt.mpr c42)] | rw [bz_y (Int32.not_le.mp c42)]) (by first | rw [bz_n (Int32.not_lt.mpr c61)] | rw [bz_y (Int32.not_le.mp c61)])
        · refine go_aload_5 (DL_isSo.at 33 rfl) ?_
          refine go_iload_8 (DL_isSo.at 34 rfl) ?_
          refine go_ialdL 4 (DL_isSo.at 35 rfl) L22 (by decide) (show n < 20 by omega) ?_
          rw [hR.2.2.2.2.2.2.2 n (by omega)]
          refine go_goto 74 (DL_isSo.at 36 rfl) (by decide) ?_
          refine go_istore_7 (DL_isSo.at 38 rfl) ?_
          refine go_iincN_8 (DL_isSo.at 39 rfl) ?_
          refine go_goto 10 (DL_isSo.at 40 rfl) (by decide) ?_
          exact t10 _ _ _ Z22 (by first | rw [bz_n (Int32.not_lt.mpr c42)] | rw [bz_y (Int32.not_le.mp c42)]) (by first | rw [bz_n (Int32.not_lt.mpr c61)] | rw [bz_y (Int32.not_le.mp c61)])
      · refine go_iload_8 (DL_isSo.at 24 rfl) ?_
        refine go_goto 52 (DL_isSo.at 25 rfl) (by decide) ?_
        refine go_istore_6 (DL_isSo.at 27 rfl) ?_
        refine go_aload_5 (DL_isSo.at 28 rfl) ?_
        refine go_iload_8 (DL_isSo.at 29 rfl) ?_
        refine go_ialdL 4 (DL_isSo.at 30 rfl) L22 (by decide) (show n < 20 by omega) ?_
        rw [hR.2.2.2.2.2.2.2 n (by omega)]
        refine go_iload_7 (DL_isSo.at 31 rfl) ?_
        refine go_icmp_le 72 (DL_isSo.at 32 rfl) (by decide) (fun c61 => ?_) (fun c61 => ?_)
        · refine go_iload_7 (DL_isSo.at 37 rfl) ?_
          refine go_istore_7 (DL_isSo.at 38 rfl) ?_
          refine go_iincN_8 (DL_isSo.at 39 rfl) ?_
          refine go_goto 10 (DL_isSo.at 40 rfl) (by decide) ?_
          exact t10 _ _ _ Z22 (by first | rw [bz_n (Int32.not_lt.mpr c42)] | rw [bz_y (Int32.not_le.mp c42)]) (by first | rw [bz_n (Int32.not_lt.mpr c61)] | rw [bz_y (Int32.not_le.mp c61)])
        · refine go_aload_5 (DL_isSo.at 33 rfl) ?_
          refine go_iload_8 (DL_isSo.at 34 rfl) ?_
          refine go_ialdL 4 (DL_isSo.at 35 rfl) L22 (by decide) (show n < 20 by omega) ?_
          rw [hR.2.2.2.2.2.2.2 n (by omega)]
          refine go_goto 74 (DL_isSo.at 36 rfl) (by decide) ?_
          refine go_istore_7 (DL_isSo.at 38 rfl) ?_
          refine go_iincN_8 (DL_isSo.at 39 rfl) ?_
          refine go_goto 10 (DL_isSo.at 40 rfl) (by decide) ?_
          exact t10 _ _ _ Z22 (by first | rw [bz_n (Int32.not_lt.mpr c42)] | rw [bz_y (Int32.not_le.mp c42)]) (by first | rw [bz_n (Int32.not_lt.mpr c61)] | rw [bz_y (Int32.not_le.mp c61)])
  refine go_bipush (v := (-5)) (DL_isSo.at 0 rfl) (by decide) ?_
  refine go_istore_6 (DL_isSo.at 1 rfl) ?_
  refine go_iconst (v := nI 0) (DL_isSo.at 2 rfl) (by decide) ?_
  refine go_istore_7 (DL_isSo.at 3 rfl) ?_
  refine go_iconst (v := nI 0) (DL_isSo.at 4 rfl) (by decide) ?_
  refine go_istore_8 (DL_isSo.at 5 rfl) ?_
  exact l1 (nc (aG A) (aS A)) 0 _ _ _ hZ (Nat.zero_add _)

end LM
