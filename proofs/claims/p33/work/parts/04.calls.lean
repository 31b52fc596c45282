/-! ENTRY, END, CALLS AND MAKING -/
section GC
variable {E : AEnv} {Y : MI} {d k n pc pc' : Nat} {ls : List (Option Value)} {st : List Value} {h : List va_E} {Ψ : Pst}
theorem go_iret {x : Int32} {ty : FieldType} (hd : Dc Y pc .ireturn pc') (hty : Y.2.2.2 = some ty) (hn : narrow ty (.int x) = .int x) (hΨ : Ψ (some (.int x)) h) : Go E Y d k n pc ls [.int x] h Ψ := by
  intro p l e R s m args below meth c Q C ret H locs cells slots lsA hI hS hc hs hL
  obtain ⟨rfl, dd⟩ := hd.is (n := 0) rfl
  exact ret (some (.int x)) h H locs cells slots lsA pc hΨ (Or.inr (Or.inl ⟨x, ty, rfl, hty, hn⟩)) hI hS (by omega) (by omega) dd
theorem go_return (hd : Dc Y pc .return_ pc') (hty : Y.2.2.2 = none) (hΨ : Ψ none h) : Go E Y d k n pc ls [] h Ψ := by
  intro p l e R s m args below meth c Q C ret H locs cells slots lsA hI hS hc hs hL
  obtain ⟨rfl, dd⟩ := hd.is (n := 0) rfl
  exact ret none h H locs cells slots lsA pc hΨ (Or.inl ⟨rfl, hty⟩) hI hS (by omega) (by omega) dd
theorem sl_len : ∀ (vs : List Value), (∀ v ∈ vs, v.category = 1) → (lg_sl vs).length = vs.length
  | [], _ => rfl
  | v :: vs, hv => by
    have h1 := hv v List.mem_cons_self
    have h2 := sl_len vs (fun w hw => hv w (List.mem_cons_of_mem _ hw))
    have h3 : lg_sl (v :: vs) = [.val v] ++ lg_sl vs := by
      simp [lg_sl, h1]
    rw [h3, List.length_append, h2, List.length_cons]
    simp only [List.length_cons, List.length_nil]
    omega
theorem args_mem : ∀ (vs : List Value) (a i : Nat) (v : Value), (∀ w ∈ vs, w.category = 1) → vs[i]? = some v → (a + i, v) ∈ lv_args a vs
  | [], _, _, _, _, hi => by simp at hi
  | w :: vs, a, 0, v, hv, hi => by
    rw [List.getElem?_cons_zero] at hi
    cases hi
    exact List.mem_cons_self
  | w :: vs, a, i + 1, v, hv, hi => by
    rw [List.getElem?_cons_succ] at hi
    have h1 := hv w List.mem_cons_self
    have h2 := args_mem vs (a + 1) i v (fun z hz => hv z (List.mem_cons_of_mem _ hz)) hi
    show _ ∈ (a, w) :: lv_args (if w.category = 2 then a + 2 else a + 1) vs
    rw [if_neg (by omega)]
    rw [show a + (i + 1) = a + 1 + i by omega]
    exact List.mem_cons_of_mem _ h2
theorem Met_ofWF {l : Launch} {y : MethodName} {ws ws' : List Cond} {rm : Room} {Pc : Array Value → State → Prop} {Qc : Array Value → State → Outcome → State → Prop} {mc ms : Nat} {free : Addr → Prop} {cc : ByteArray} {maxL : Nat} {ret : Option FieldType}
    (hy : plainFor y = true) (hw : ws = Cond.code y cc maxL ret :: ws')
    (body : ∀ p e s m args below meth c s₁, BodyLoose p l y (headSpec ws rm) cc maxL ret e s m args below meth c s₁ → c.maxLocals = maxL → Pc args s →
      W p l e (headSpec ws rm).room s m args below meth c s.heap [] 0 0 (MQ below Qc args s mc ms free) (entryFrame m args maxL)) : Met l y ws rm Pc Qc mc ms free := by
  refine MetFree.of_bodySF (code := cc) (maxLocals := maxL) (ret := ret) hy ?_ ?_
  · intro args s m h hn
    obtain ⟨meth, c, h1, h2, h3, h4, h5, h6, -, -⟩ := Cond.code_spec hn (atoms_spec (ws := ws) h _ (by rw [hw]; exact List.mem_cons_self))
    exact ⟨meth, c, h1, h2, h3, h4, h5, h6⟩
  · intro p e s m args below meth c s₁ B hml hP _
    have hh0 : s₁.heap = s.heap := by rw [B.state]; rfl
    obtain ⟨t, a1, o, b1, b2, b3⟩ := body p e s m args below meth c s₁ B hml hP s₁ hh0 (Stand.of_body B)
    exact ⟨t, o, a1, b1, b2, ⟨b3.1, b3.2⟩⟩
theorem Calls.of {args : List Value} (hpl : plainFor Y.1 = true) (hls : args.map some ++ List.replicate (Y.2.2.1 - args.length) none = ls) (hlen : args.length ≤ Y.2.2.1) (hcat : ∀ v ∈ args, v.category = 1)
    (G : Go E Y d k n 0 ls [] h Ψ) : Calls E Y d k n args h Ψ := by
  intro l
  refine Met_ofWF (cc := Y.2.1) (maxL := Y.2.2.1) (ret := Y.2.2.2) hpl rfl ?_
  intro p e s m av below meth c s₁ B hml hv
  obtain ⟨rfl, hI, hE⟩ := hv
  have hpre := atoms_spec (ws := wsM Y) B.pre
  have C : Ctx E Y d p (rmM d k n) s m (args.map (cV E)).toArray meth c := ⟨B.exec, B.bytes, hml, findClass_of_methodNamed B.named, fun w hw => hpre w (List.mem_cons_of_mem _ hw), hE, Nat.le_refl _, Nat.le_refl _, (name_of_methodNamed B.named B.method).1⟩
  have hcat' : ∀ v ∈ args.map (cV E), v.category = 1 := by
    intro v hv
    obtain ⟨w, hw, rfl⟩ := List.mem_map.mp hv
    rw [cV_cat]
    exact hcat w hw
  have hsl := sl_len (args.map (cV E)) hcat'
  rw [List.length_map] at hsl
  have hen := lv_entry (args.map (cV E)) (n := Y.2.2.1) (by rw [hsl]; exact hlen)
  rw [lg_entry_eq]
  refine G p l e _ s m _ below meth c _ C ?_ s.heap [] 0 0 _ hI va_S.rf (by show 0 + k ≤ k; omega) (by show 0 + n ≤ n; omega) ?_
  · intro r h' H locs cells slots lsA pc hΨ hr hI' hS' hc hs hdg
    refine W.widen (k := k) (n := n) hc hs ?_
    rcases hr with ⟨rfl, h2⟩ | ⟨x, ty, rfl, h2, h3⟩ | ⟨x, rfl, h2⟩
    · exact W.vret B.exec B.bytes (B.returns.trans h2) (fun t ht hw => ⟨_, h', hΨ, rfl, by rw [ht]; exact hI', hS'.F ht⟩) hS'.2.2 hdg B.notSynchronized
    · exact W.zret B.exec B.bytes (B.returns.trans h2) h3 (fun t ht hw => ⟨_, h', hΨ, rfl, by rw [ht]; exact hI', hS'.F ht⟩) hS'.2.2 hdg B.notSynchronized
    · exact W.lret B.exec B.bytes (B.returns.trans h2) (fun t ht hw => ⟨_, h', hΨ, rfl, by rw [ht]; exact hI', hS'.F ht⟩) hS'.2.2 hdg B.notSynchronized
  · refine ⟨hen.1, hen.2.1, by rw [← hls]; simp; omega, fun i v hi => ?_⟩
    rw [← hls] at hi
    have hi2 : args[i]? = some v := by
      by_cases hl : i < args.length
      · rw [List.getElem?_append_left (by rw [List.length_map]; exact hl), List.getElem?_map] at hi
        cases hq : args[i]? with
        | none => rw [hq] at hi; cases hi
        | some w => rw [hq] at hi; cases hi; rfl
      · rw [List.getElem?_append_right (by rw [List.length_map]; omega)] at hi
        have h3 := List.mem_of_getElem? hi
        have h4 := (List.mem_replicate.mp h3).2
        cases h4
    intro _
    have h5 := args_mem (args.map (cV E)) 0 i (cV E v) hcat' (by rw [List.getElem?_map, hi2]; rfl)
    rw [Nat.zero_add] at h5
    exact hen.2.2 _ h5
section RG
variable {p : Program} {l : Launch} {e : Env} {R : Room} {s : State} {m : MethodId} {args : Array Value} {below : List Frame} {meth : Method} {c : Code} {H : Heap} {locs : List Loc} {cells slots : Nat} {Q : State → Prop}
theorem run_go {k1 n1 : Nat} {lsA : Array Slot} {st0 rest0 : List Value} {Ψ1 : Pst} {a : Array Value} (hr : va_Run p l e R s m args below meth c H locs cells slots k1 n1 (F0 m pc lsA st0) rest0 (QR E Ψ1 a) (AA E)) (hS : va_S (AA E) s.heap H locs)
    (kk : ∀ (r1 : Option Value) (h1 : List va_E) (H1 : Heap) (locs1 : List Loc), Ψ1 r1 h1 → Inv E h1 H1 → va_S (AA E) s.heap H1 locs1 → W p l e R s m args below meth c H1 locs1 (cells + k1) (slots + n1) Q (F0 m (pc + 3) lsA ((r1.map (cV E)).toList ++ rest0))) : W p l e R s m args below meth c H locs cells slots Q (F0 m pc lsA st0) := by
  intro T hT X
  obtain ⟨v, st₀, t, T', L, h0, X', hL, e1, e2, ⟨r1, h1, hΨ1, hv, hI1, hz, hk⟩, stp⟩ := hr T hT X
  cases hv
  rw [h0] at hz hk
  obtain ⟨t2, a1, b1⟩ := kk r1 h1 T'.heap (locs ++ L) hΨ1 (by rw [e1]; exact hI1) ⟨Nat.le_trans hS.1 (by rw [e1]; exact hz), fun q g1 g2 => by rw [e1, hk q (Nat.lt_of_lt_of_le g1 hS.1) g2]; exact hS.2.1 q g1 g2, fun q hq => by
      rcases List.mem_append.mp hq with g | g
      · exact hS.2.2 q g
      · exact hL q g⟩ T' rfl X'
  exact ⟨t2, stp t2 a1, b1⟩
end RG
/-- what a call of Y' by the entry idx of class own needs of the tables -/
def MLk (own : String) (idx : Nat) (Y' : MI) (nA : Nat) : Prop :=
  Cond.code Y'.1 Y'.2.1 Y'.2.2.1 Y'.2.2.2 ∈ BW ∧ Cond.initialized Y'.1.cls ∈ BW ∧ (Y'.1.cls ≠ "java/lang/invoke/MethodHandle" ∧ Y'.1.cls ≠ "java/lang/invoke/VarHandle" ∧ (parseMethodDescriptor Y'.1.desc).map (fun d => d.parameters.length) = some nA) ∧ Y'.2.2.1 ≤ 17 ∧
  (Cond.methodLink own idx Y'.1 ∈ BW ∨ ∃ host, Cond.methodLinkNest own idx Y'.1 host ∈ NW)
theorem toL {E : AEnv} {rest : List Value} (r1 : Option Value) : (r1.map (cV E)).toList ++ rest.map (cV E) = (r1.toList ++ rest).map (cV E) := by cases r1 <;> rfl
theorem go_callS {idx nA k1 n1 : Nat} {Y' : MI} {As rest : List Value} {Ψ1 : Pst} (hd : Dc Y pc (.invokestatic idx) pc') (hM : MLk Y.1.cls idx Y' nA) (hstat : Cond.static Y'.1 ∈ BW) (hd1 : 1 ≤ d) (hC : Calls E Y' (d - 1) k1 n1 As h Ψ1) (hn : As.length = nA) (hcat : (rest.map fun v => v.category).sum ≤ 8)
    (K : ∀ r1 h1, Ψ1 r1 h1 → Go E Y d k n pc' ls (r1.toList ++ rest) h1 Ψ) : Go E Y d (k1 + k) (n1 + n) pc ls (As.reverse ++ rest) h Ψ := by
  intro p l e R s m args below meth c Q C ret H locs cells slots lsA hI hS hc hs hL
  obtain ⟨rfl, dd⟩ := hd.is (n := 2) rfl
  obtain ⟨m1, m2, m3, m4, m5⟩ := hM
  have hE := C.2.2.2.2.2.1
  have hts := C.2.2.2.2.1
  have hR : (rmM (d - 1) k1 n1).frames + 1 ≤ R.frames ∧ 8 + (Y'.2.2.1 + 11) + (rmM (d - 1) k1 n1).locals ≤ R.locals := by
    have h5 := C.2.2.2.2.2.2.1
    have h6 := C.2.2.2.2.2.2.2.1
    show d - 1 + 1 ≤ R.frames ∧ 8 + (Y'.2.2.1 + 11) + (36 * (d - 1) + 20) ≤ R.locals
    omega
  have hp : PreS s H (va_Pc (As.map (cV E)) (fun U => Inv E h U.heap ∧ EnvOK E U)) (As.map (cV E)) := ⟨FB_ok, fun U hU hW => ⟨rfl, by rw [hU]; exact hI, hE.next hW (by rw [hU]; exact hS)⟩⟩
  have hst : (F0 m pc lsA ((As.reverse ++ rest).map (cV E))).stack = (As.map (cV E)).reverse ++ rest.map (cV E) := by
    show (As.reverse ++ rest).map (cV E) = _
    rw [List.map_append, List.map_reverse]
  have hrm : 2 * (F0 m pc lsA ((As.reverse ++ rest).map (cV E))).monitorRoom + ((rest.map (cV E)).map fun v => v.category).sum ≤ 8 := lv_room (by rw [cV_sum]; exact hcat)
  have kk : ∀ (r1 : Option Value) (h1 : List va_E) (H1 : Heap) (locs1 : List Loc), Ψ1 r1 h1 → Inv E h1 H1 → va_S (AA E) s.heap H1 locs1 → W p l e R s m args below meth c H1 locs1 (cells + k1) (slots + n1) Q (F0 m (pc + 3) lsA ((r1.map (cV E)).toList ++ rest.map (cV E))) := by
    intro r1 h1 H1 locs1 hΨ1 hI1 hS1
    rw [toL]
    exact K r1 h1 hΨ1 p l e R s m args below meth c Q C ret H1 locs1 (cells + k1) (slots + n1) lsA hI1 hS1 (by omega) (by omega) hL
  rcases m5 with m5 | ⟨host, m5⟩
  · refine run_go (va_runS ⟨C.1, C.2.1, C.2.2.1, C.2.2.2.1, hts⟩ (hC l) ⟨callB_of nA hts (goodIn_BW m1) rfl rfl rfl (hts _ m2) (hts _ m5) m3 hR, hts _ hstat⟩ hp rfl (by rw [List.length_map]; exact hn) hL.1 hst hrm dd ⟨by omega, by omega⟩) hS kk
  · refine run_go (va_runSN ⟨C.1, C.2.1, C.2.2.1, C.2.2.2.1, hts⟩ (hC l) ⟨va_cnB nA hts (goodIn_BW m1) rfl rfl rfl (hE.2.1 _ m5) (hts _ m2) m3 hR, hts _ hstat, trivial⟩ hp rfl (by rw [List.length_map]; exact hn) hL.1 hst hrm dd ⟨by omega, by omega⟩) hS kk
theorem go_callV {idx nA k1 n1 b ci N : Nat} {T : u_T} {fs : List Value} {Y' : MI} {As rest : List Value} {Ψ1 : Pst} (hd : Dc Y pc (.invokevirtual idx) pc') (hM : MLk Y.1.cls idx Y' nA) (hinst : Cond.instanceMethod Y'.1 ∈ BW ∧ Cond.selects Y'.1.cls Y'.1 Y'.1 ∈ BW) (hd1 : 1 ≤ d) (hC : Calls E Y' (d - 1) k1 n1 (.ref b :: As) h Ψ1)
    (hrec : h[b]? = some (.inr (ci, fs))) (hci : vwCl[ci]? = some (Y'.1.cls, T, N)) (hn : As.length = nA) (hcat : (rest.map fun v => v.category).sum ≤ 8)
    (K : ∀ r1 h1, Ψ1 r1 h1 → Go E Y d k n pc' ls (r1.toList ++ rest) h1 Ψ) : Go E Y d (k1 + k) (n1 + n) pc ls (As.reverse ++ .ref b :: rest) h Ψ := by
  intro p l e R s m args below meth c Q C ret H locs cells slots lsA hI hS hc hs hL
  obtain ⟨rfl, dd⟩ := hd.is (n := 2) rfl
  obtain ⟨m1, m2, m3, m4, m5⟩ := hM
  have hE := C.2.2.2.2.2.1
  have hts := C.2.2.2.2.1
  have hR : (rmM (d - 1) k1 n1).frames + 1 ≤ R.frames ∧ 8 + (Y'.2.2.1 + 11) + (rmM (d - 1) k1 n1).locals ≤ R.locals := by
    have h5 := C.2.2.2.2.2.2.1
    have h6 := C.2.2.2.2.2.2.2.1
    show d - 1 + 1 ≤ R.frames ∧ 8 + (Y'.2.2.1 + 11) + (36 * (d - 1) + 20) ≤ R.locals
    omega
  have hrv := va_recv hE.1 hI.2.2 hci (cW_get (E := E) hrec)
  rw [← aR_lo hI hrec] at hrv
  have hp : PreV s H Y'.1.cls (aR E b) (va_Pc ((Value.ref b :: As).map (cV E)) (fun U => Inv E h U.heap ∧ EnvOK E U)) (As.map (cV E)) := ⟨FB_ok, hrv, fun U hU hW => ⟨rfl, by rw [hU]; exact hI, hE.next hW (by rw [hU]; exact hS)⟩⟩
  have hst : (F0 m pc lsA ((As.reverse ++ .ref b :: rest).map (cV E))).stack = (As.map (cV E)).reverse ++ .ref (aR E b) :: rest.map (cV E) := by
    show (As.reverse ++ .ref b :: rest).map (cV E) = _
    rw [List.map_append, List.map_reverse]
    rfl
  have hrm : 2 * (F0 m pc lsA ((As.reverse ++ .ref b :: rest).map (cV E))).monitorRoom + ((rest.map (cV E)).map fun v => v.category).sum ≤ 8 := lv_room (by rw [cV_sum]; exact hcat)
  have kk : ∀ (r1 : Option Value) (h1 : List va_E) (H1 : Heap) (locs1 : List Loc), Ψ1 r1 h1 → Inv E h1 H1 → va_S (AA E) s.heap H1 locs1 → W p l e R s m args below meth c H1 locs1 (cells + k1) (slots + n1) Q (F0 m (pc + 3) lsA ((r1.map (cV E)).toList ++ rest.map (cV E))) := by
    intro r1 h1 H1 locs1 hΨ1 hI1 hS1
    rw [toL]
    exact K r1 h1 hΨ1 p l e R s m args below meth c Q C ret H1 locs1 (cells + k1) (slots + n1) lsA hI1 hS1 (by omega) (by omega) hL
  rcases m5 with m5 | ⟨host, m5⟩
  · refine run_go (va_runV ⟨C.1, C.2.1, C.2.2.1, C.2.2.2.1, hts⟩ (hC l) ⟨callB_of nA hts (goodIn_BW m1) rfl rfl rfl (hts _ m2) (hts _ m5) m3 hR, hts _ hinst.1, hts _ hinst.2⟩ hp rfl (by rw [List.length_map]; exact hn) hL.1 hst hrm dd ⟨by omega, by omega⟩) hS kk
  · refine run_go (va_runVN ⟨C.1, C.2.1, C.2.2.1, C.2.2.2.1, hts⟩ (hC l) ⟨va_cnB nA hts (goodIn_BW m1) rfl rfl rfl (hE.2.1 _ m5) (hts _ m2) m3 hR, hts _ hinst.1, hts _ hinst.2⟩ hp rfl (by rw [List.length_map]; exact hn) hL.1 hst hrm dd ⟨by omega, by omega⟩) hS kk
theorem go_callI {idx nA k1 n1 b : Nat} {y : MethodName} {bs : ByteArray} {mL : Nat} {As rest : List Value} {P1 : List va_E → Prop} (hd : Dc Y pc (.invokespecial idx) pc') (hM : MLk Y.1.cls idx (y, bs, mL, none) nA) (hinst : y.name = "<init>" ∧ Cond.instanceMethod y ∈ BW) (hd1 : 1 ≤ d) (hC : Calls E (y, bs, mL, none) (d - 1) k1 n1 (.ref b :: As) h (fun r1 h1 => r1 = none ∧ P1 h1))
    (hn : As.length = nA) (hcat : (rest.map fun v => v.category).sum ≤ 8)
    (K : ∀ h1, P1 h1 → Go E Y d k n pc' ls rest h1 Ψ) : Go E Y d (k1 + k) (n1 + n) pc ls (As.reverse ++ .ref b :: rest) h Ψ := by
  intro p l e R s m args below meth c Q C ret H locs cells slots lsA hI hS hc hs hL
  obtain ⟨rfl, dd⟩ := hd.is (n := 2) rfl
  obtain ⟨m1, m2, m3, m4, m5⟩ := hM
  have hE := C.2.2.2.2.2.1
  have hts := C.2.2.2.2.1
  have hR : (rmM (d - 1) k1 n1).frames + 1 ≤ R.frames ∧ 8 + (mL + 11) + (rmM (d - 1) k1 n1).locals ≤ R.locals := by
    have h5 := C.2.2.2.2.2.2.1
    have h6 := C.2.2.2.2.2.2.2.1
    have h7 : mL ≤ 17 := m4
    show d - 1 + 1 ≤ R.frames ∧ 8 + (mL + 11) + (36 * (d - 1) + 20) ≤ R.locals
    omega
  have hp : PreS s H (va_Pc ((Value.ref b :: As).map (cV E)) (fun U => Inv E h U.heap ∧ EnvOK E U)) (.ref (aR E b) :: As.map (cV E)) := ⟨FB_ok, fun U hU hW => ⟨rfl, by rw [hU]; exact hI, hE.next hW (by rw [hU]; exact hS)⟩⟩
  have hst : (F0 m pc lsA ((As.reverse ++ .ref b :: rest).map (cV E))).stack = (As.map (cV E)).reverse ++ .ref (aR E b) :: rest.map (cV E) := by
    show (As.reverse ++ .ref b :: rest).map (cV E) = _
    rw [List.map_append, List.map_reverse]
    rfl
  have hrm : 2 * (F0 m pc lsA ((As.reverse ++ .ref b :: rest).map (cV E))).monitorRoom + ((rest.map (cV E)).map fun v => v.category).sum ≤ 8 := lv_room (by rw [cV_sum]; exact hcat)
  have kk : ∀ (r1 : Option Value) (h1 : List va_E) (H1 : Heap) (locs1 : List Loc), (r1 = none ∧ P1 h1) → Inv E h1 H1 → va_S (AA E) s.heap H1 locs1 → W p l e R s m args below meth c H1 locs1 (cells + k1) (slots + n1) Q (F0 m (pc + 3) lsA ((r1.map (cV E)).toList ++ rest.map (cV E))) := by
    intro r1 h1 H1 locs1 hΨ1 hI1 hS1
    obtain ⟨rfl, hΨ1⟩ := hΨ1
    exact K h1 hΨ1 p l e R s m args below meth c Q C ret H1 locs1 (cells + k1) (slots + n1) lsA hI1 hS1 (by omega) (by omega) hL
  rcases m5 with m5 | ⟨host, m5⟩
  · refine run_go (va_runI ⟨C.1, C.2.1, C.2.2.1, C.2.2.2.1, hts⟩ (hC l) ⟨callB_of nA hts (goodIn_BW m1) rfl rfl rfl (hts _ m2) (hts _ m5) m3 hR, hinst.1, hts _ hinst.2⟩ hp rfl (by rw [List.length_map]; exact hn) hL.1 hst hrm dd ⟨by omega, by omega⟩) hS kk
  · refine run_go (va_runIN ⟨C.1, C.2.1, C.2.2.1, C.2.2.2.1, hts⟩ (hC l) ⟨va_cnB nA hts (goodIn_BW m1) rfl rfl rfl (hE.2.1 _ m5) (hts _ m2) m3 hR, hinst.1, hts _ hinst.2⟩ hp rfl (by rw [List.length_map]; exact hn) hL.1 hst hrm dd ⟨by omega, by omega⟩) hS kk
theorem go_objInit {idx a : Nat} (hd : Dc Y pc (.invokespecial idx) pc') (hlk : Cond.methodLink Y.1.cls idx objectInit ∈ BW) (hin : Cond.instanceMethod objectInit ∈ BW) (hco : Cond.code objectInit ⟨#[0xb1]⟩ 1 none ∈ BW) (hd1 : 1 ≤ d) (hcat : (st.map fun v => v.category).sum ≤ 8) (K : Go E Y d k n pc' ls st h Ψ) : Go E Y d k n pc ls (.ref a :: st) h Ψ := by
  intro p l e R s m args below meth c Q C ret H locs cells slots lsA hI hS hc hs hL
  obtain ⟨rfl, dd⟩ := hd.is (n := 2) rfl
  have hts := C.2.2.2.2.1
  have h5 := C.2.2.2.2.2.2.1
  have h6 := C.2.2.2.2.2.2.2.1
  have hrm : 2 * (F0 m pc lsA (.ref (aR E a) :: st.map (cV E))).monitorRoom + ((st.map (cV E)).map fun v => v.category).sum ≤ 8 := lv_room (by rw [cV_sum]; exact hcat)
  exact W.objInit C.1 C.2.1 C.2.2.2.1 (hts _ hlk) (hts _ hin) (hts _ hco) rfl (hL.1.trans C.2.2.1.symm) rfl dd (by omega) (by show 2 * (F0 m pc lsA (.ref (aR E a) :: st.map (cV E))).monitorRoom + ((st.map (cV E)).map fun v => v.category).sum + 12 ≤ R.locals; omega) (K p l e R s m args below meth c Q C ret H locs cells slots lsA hI hS hc hs hL)
theorem Inv.push {H H1 : Heap} {e : va_E} (hI : Inv E h H) (hlen : h.length < BIGN) (z : H1.size = H.size + 1) (oq : ∀ q : Nat, q < H.size → H1[q]? = H[q]?) (he : va_at (ED E) vwCl (EB E + h.length, cE E e) H1) : Inv E (h ++ [e]) H1 := by
  obtain ⟨h1, h2, h3⟩ := hI
  refine ⟨by simp; omega, by simp; omega, ?_⟩
  rw [← cW_app]
  refine (h3.kept fun q x hx => oq x.1 ((h3 q x hx).lt)).app (fun q x hx => ?_)
  have hz : q < 1 := (List.getElem?_eq_some_iff.mp hx).1
  rw [show q = 0 by omega] at hx
  cases hx
  exact he
theorem va_S.grow {A : Nat → Prop} {H0 H H1 : Heap} {locs : List Loc} (hS : va_S A H0 H locs) (z : H1.size = H.size + 1) (oq : ∀ q : Nat, q < H.size → H1[q]? = H[q]?) : va_S A H0 H1 locs :=
  ⟨Nat.le_trans hS.1 (by omega), fun q g1 g2 => (oq q (Nat.lt_of_lt_of_le g1 hS.1)).trans (hS.2.1 q g1 g2), hS.2.2⟩
theorem aR_new {H : Heap} (hI : Inv E h H) (hlen : h.length < BIGN) : H.size = aR E h.length := by
  unfold aR
  rw [if_pos hlen]
  exact hI.2.1
theorem go_new {idx ci N : Nat} {C0 : String} {T : u_T} {fs : List Value} (hd : Dc Y pc (.new idx) pc') (hcl : vwCl[ci]? = some (C0, T, N)) (hlk : Cond.classLink Y.1.cls idx C0 ∈ BW) (hin : Cond.instantiable C0 N ∈ BW) (hini : Cond.initialized C0 ∈ BW) (hfs : ∀ j, j < N → defaultValue (clTy ci j) = vp_V fs j) (hno : fs.map (cV E) = fs) (hlen : h.length < BIGN)
    (K : Go E Y d k n pc' ls (.ref h.length :: st) (h ++ [.inr (ci, fs)]) Ψ) : Go E Y d (1 + k) (N + n) pc ls st h Ψ := by
  intro p l e R s m args below meth c Q C ret H locs cells slots lsA hI hS hc hs hL
  obtain ⟨rfl, dd⟩ := hd.is (n := 2) rfl
  have hE := C.2.2.2.2.2.1
  have hts := C.2.2.2.2.1
  obtain ⟨hty0, hnm⟩ := clTy_ok ci _ _ _ hcl
  have hKn := hE.1.1 ci _ hcl
  refine W.newcK C.1 C.2.1 C.2.2.2.1 (hts _ hlk) (hts _ hin) (hts _ hini) rfl dd (by omega) (by omega) hKn.2.1 (aR_new hI hlen) fun H1 kC hkC e1 z1 o1 => ?_
  have hz : H.size = aR E h.length := aR_new hI hlen
  have e2 : aR E h.length = EB E + h.length := by rw [← hz]; exact hI.2.1
  refine K p l e R s m args below meth c Q C ret H1 locs (cells + 1) (slots + N) lsA (hI.push hlen (by rw [z1, hz]) (fun q hq => o1 q (by rw [← hz]; exact hq)) ?_) (hS.grow (by rw [z1, hz]) (fun q hq => o1 q (by rw [← hz]; exact hq))) (by omega) (by omega) hL
  rw [← e2]
  refine ⟨_, hcl, (u_born (clTy ci) hts (cl_ok ci _ hcl) hKn hkC e1 hty0).to ?_⟩
  intro j hj
  rw [hfs j hj]
  show _ = vp_V (fs.map (cV E)) j
  rw [hno]
theorem go_newint {N : Nat} {x : Int32} (hd : Dc Y pc (.newarray .int) pc') (harr : Cond.arrayClass .int ∈ BW) (hx : ¬ x < 0) (hN : x.toNatClampNeg = N) (hb : N * 4 ≤ 536870912) (hlen : h.length < BIGN)
    (K : Go E Y d k n pc' ls (.ref h.length :: st) (h ++ [.inl (0, N, .inl (fun _ => 0))]) Ψ) : Go E Y d (1 + k) (N + n) pc ls (.int x :: st) h Ψ := by
  intro p l e R s m args below meth c Q C ret H locs cells slots lsA hI hS hc hs hL
  obtain ⟨rfl, dd⟩ := hd.is (n := 1) rfl
  have hE := C.2.2.2.2.2.1
  have hts := C.2.2.2.2.1
  have hz : H.size = aR E h.length := aR_new hI hlen
  have e2 : aR E h.length = EB E + h.length := by rw [← hz]; exact hI.2.1
  refine va_newaK (atype := .int) C.1 C.2.1 (hts _ harr) rfl dd rfl hx hN hb (by omega) (by omega) hz fun H1 cA e1 z1 o1 hAr hNm => ?_
  have hcA : cA = ETc E 0 := Option.some.inj (hNm.symm.trans (hE.1.2 0 (ETc E 0, .int) rfl).2)
  refine K p l e R s m args below meth c Q C ret H1 locs (cells + 1) (slots + N) lsA (hI.push hlen (by rw [z1, hz]) (fun q hq => o1 q (by rw [← hz]; exact hq)) ?_) (hS.grow (by rw [z1, hz]) (fun q hq => o1 q (by rw [← hz]; exact hq))) (by omega) (by omega) hL
  rw [← e2]
  show H1[aR E h.length]? = some (vp_cell (ETc E 0) (N, .inl (fun _ => 0)))
  rw [e1, hcA]
  rfl
theorem go_newchar {N : Nat} {x : Int32} (hd : Dc Y pc (.newarray .char) pc') (harr : Cond.arrayClass .char ∈ BW) (hx : ¬ x < 0) (hN : x.toNatClampNeg = N) (hb : N * 2 ≤ 536870912) (hlen : h.length < BIGN)
    (K : Go E Y d k n pc' ls (.ref h.length :: st) (h ++ [.inl (1, N, .inl (fun _ => 0))]) Ψ) : Go E Y d (1 + k) (N + n) pc ls (.int x :: st) h Ψ := by
  intro p l e R s m args below meth c Q C ret H locs cells slots lsA hI hS hc hs hL
  obtain ⟨rfl, dd⟩ := hd.is (n := 1) rfl
  have hE := C.2.2.2.2.2.1
  have hts := C.2.2.2.2.1
  have hz : H.size = aR E h.length := aR_new hI hlen
  have e2 : aR E h.length = EB E + h.length := by rw [← hz]; exact hI.2.1
  refine va_newaK (atype := .char) C.1 C.2.1 (hts _ harr) rfl dd rfl hx hN hb (by omega) (by omega) hz fun H1 cA e1 z1 o1 hAr hNm => ?_
  have hcA : cA = ETc E 1 := Option.some.inj (hNm.symm.trans (hE.1.2 1 (ETc E 1, .char) rfl).2)
  refine K p l e R s m args below meth c Q C ret H1 locs (cells + 1) (slots + N) lsA (hI.push hlen (by rw [z1, hz]) (fun q hq => o1 q (by rw [← hz]; exact hq)) ?_) (hS.grow (by rw [z1, hz]) (fun q hq => o1 q (by rw [← hz]; exact hq))) (by omega) (by omega) hL
  rw [← e2]
  show H1[aR E h.length]? = some (vp_cell (ETc E 1) (N, .inl (fun _ => 0)))
  rw [e1, hcA]
  rfl
theorem go_newStates {idx N : Nat} {x : Int32} (hd : Dc Y pc (.anewarray idx) pc') (hlk : Cond.classLink Y.1.cls idx RX4 ∈ BW) (hx : ¬ x < 0) (hN : x.toNatClampNeg = N) (hb : N * 4 ≤ 536870912) (hlen : h.length < BIGN)
    (K : Go E Y d k n pc' ls (.ref h.length :: st) (h ++ [.inl (2, N, .inr (.inr (.inr (.inr (fun _ => none)))))]) Ψ) : Go E Y d (1 + k) (N + n) pc ls (.int x :: st) h Ψ := by
  intro p l e R s m args below meth c Q C ret H locs cells slots lsA hI hS hc hs hL
  obtain ⟨rfl, dd⟩ := hd.is (n := 2) rfl
  have hE := C.2.2.2.2.2.1
  have hts := C.2.2.2.2.1
  have hz : H.size = aR E h.length := aR_new hI hlen
  have e2 : aR E h.length = EB E + h.length := by rw [← hz]; exact hI.2.1
  subst hN
  refine W.anew C.1 C.2.1 C.2.2.2.1 (hts _ hlk) (va_AO.use hE.2.2.1) rfl dd rfl hx hb (by omega) (by omega) fun cA kA comp f1 f2 f3 f4 => ?_
  obtain ⟨kA', comp', g1, g2, g3, g4⟩ := (hE.1.2 2 (ETc E 2, .object RX4) rfl).2
  have hcA : cA = ETc E 2 := Option.some.inj (f1.symm.trans g4)
  subst hcA
  generalize hH1 : H.push ({ cls := ETc E 2, slots := Array.replicate x.toNatClampNeg .null, vm := .none } : Cell) = H1
  have z1 : H1.size = H.size + 1 := by rw [← hH1, Array.size_push]
  have e1 : H1[H.size]? = some (arrV (ETc E 2) x.toNatClampNeg (fun _ => .null)) := by rw [← hH1, Array.getElem?_push_size, ← arrV_new]
  have o1 : ∀ q : Nat, q < H.size → H1[q]? = H[q]? := fun q hq => by rw [← hH1, Array.getElem?_push, if_neg (Nat.ne_of_lt hq)]
  show W p l e R s m args below meth c H1 locs (cells + 1) (slots + x.toNatClampNeg) Q (F0 m (pc + 3) lsA (.ref H.size :: st.map (cV E)))
  rw [hz]
  refine K p l e R s m args below meth c Q C ret H1 locs (cells + 1) (slots + x.toNatClampNeg) lsA (hI.push hlen z1 o1 ?_) (hS.grow z1 o1) (by omega) (by omega) hL
  rw [← e2, ← hz]
  exact e1
theorem go_arraycopy {idx a0 a n0 n1 : Nat} {f g : Nat → Int32} {sp dp x : Int32} (hd : Dc Y pc (.invokestatic idx) pc') (hlk : Cond.methodLink Y.1.cls idx arraycopyName ∈ BW) (hnat : Cond.native arraycopyName ∈ BW) (hstat : Cond.static arraycopyName ∈ BW) (hini : Cond.initialized "java/lang/System" ∈ BW)
    (ha0 : h[a0]? = some (.inl (0, n0, .inl f))) (ha1 : h[a]? = some (.inl (0, n1, .inl g))) (h1 : ¬ sp < 0) (h2 : ¬ dp < 0) (h3 : ¬ x < 0) (h4 : sp.toNatClampNeg + x.toNatClampNeg ≤ n0) (h5 : dp.toNatClampNeg + x.toNatClampNeg ≤ n1) (hd1 : 1 ≤ d) (hcat : (st.map fun v => v.category).sum ≤ 8)
    (K : Go E Y d k n pc' ls st (h.set a (.inl (0, n1, .inl (va_cpy f g sp.toNatClampNeg dp.toNatClampNeg x.toNatClampNeg)))) Ψ) : Go E Y d k n pc ls (.int x :: .int dp :: .ref a :: .int sp :: .ref a0 :: st) h Ψ := by
  intro p l e R s m args below meth c Q C ret H locs cells slots lsA hI hS hc hs hL
  obtain ⟨rfl, dd⟩ := hd.is (n := 2) rfl
  have hE := C.2.2.2.2.2.1
  have hts := C.2.2.2.2.1
  have hK := hE.1
  have w0 := cW_get (E := E) ha0
  have w1 := cW_get (E := E) ha1
  have hP := hI.2.2
  have r5 := C.2.2.2.2.2.2.1
  have r6 := C.2.2.2.2.2.2.2.1
  show W p l e R s m args below meth c H locs cells slots Q (F0 m pc lsA (.int x :: .int dp :: .ref (aR E a) :: .int sp :: .ref (aR E a0) :: st.map (cV E)))
  rw [aR_lo hI ha0, aR_lo hI ha1]
  have nn : ∀ z : Int32, ¬ z < 0 → z.toInt = (z.toNatClampNeg : Int) := by
    intro z hz
    have hz0 : (0 : Int) ≤ z.toInt := by
      have := Int32.not_lt.mp hz
      simpa using Int32.le_iff_toInt_le.mp this
    show z.toInt = ((z.toInt.toNat : Nat) : Int)
    omega
  intro T hT X
  have hc0 : H[EB E + a0]? = some (vp_cell (ETc E 0) (n0, .inl f)) := hP a0 _ w0
  have hc1 : H[EB E + a]? = some (vp_cell (ETc E 0) (n1, .inl g)) := hP a _ w1
  obtain ⟨-, k0, hk0, cm0, hkk0⟩ := (hK.2 0 (ETc E 0, .int) rfl).1 n0 (fun j => .int (f j))
  obtain ⟨-, k1, hk1, cm1, hkk1⟩ := (hK.2 0 (ETc E 0, .int) rfl).1 n1 (fun j => .int (g j))
  have hcs : ((st.map (cV E)).map fun v => v.category).sum ≤ 8 := by rw [cV_sum]; exact hcat
  have hnw : nativeFrameWords "java/lang/System" "arraycopy" 5 + 11 ≤ 36 := by decide +kernel
  obtain ⟨vm', X', step⟩ := X.arraycopy C.1 C.2.2.2.1 (hts _ hlk) (hts _ hnat) (hts _ hstat) (hts _ hini) (src := EB E + a0) (dst := EB E + a) (cs := vp_cell (ETc E 0) (n0, .inl f)) (cd := vp_cell (ETc E 0) (n1, .inl g)) (srcPos := sp) (destPos := dp) (n := x) (by rw [hT]; exact hc0) (by rw [hT]; exact hc1)
    (fun _ h => by cases h) (fun _ h => by cases h) (fun h => by cases h) (fun h => by cases h) hk0 hk1 hkk0 hkk1 (by simp [show refKind FieldType.int = false from rfl]) h1 h2 h3
    (by rw [nn sp h1, nn x h3]; show ¬ _ > ((arrV (ETc E 0) n0 (fun j => .int (f j))).slots.size : Int); rw [arrV_size]; omega)
    (by rw [nn dp h2, nn x h3]; show ¬ _ > ((arrV (ETc E 0) n1 (fun j => .int (g j))).slots.size : Int); rw [arrV_size]; omega)
    (fun vm₁ _ i hi => by
      have ee : (vp_cell (ETc E 0) (n0, .inl f)).slots.getD (sp.toNatClampNeg + i) .null = .int (f (sp.toNatClampNeg + i)) := by
        show (arrV (ETc E 0) n0 (fun j => .int (f j))).slots.getD _ _ = _
        rw [Array.getD_eq_getD_getElem?, arrV_read _ _ (by omega)]
        rfl
      refine ⟨?_, ?_⟩
      · rw [ee]
        rfl
      · rw [ee]
        exact trivial)
    (g := F0 m pc lsA (.int x :: .int dp :: .ref (EB E + a) :: .int sp :: .ref (EB E + a0) :: st.map (cV E))) rfl (by show lsA.size = c.maxLocals; rw [C.2.2.1]; exact hL.1) (rest := st.map (cV E)) rfl (by rw [C.2.1]; exact dd) (by omega) (by show 2 * 0 + _ + _ ≤ _; omega)
  have e1 : copied (vp_cell (ETc E 0) (n0, .inl f)) (vp_cell (ETc E 0) (n1, .inl g)) sp dp x = vp_cell (ETc E 0) (n1, .inl (va_cpy f g sp.toNatClampNeg dp.toNatClampNeg x.toNatClampNeg)) := va_copied (fun z => .int z) (ETc E 0) (ETc E 0) f g h4
  rw [e1] at X' step
  have hl : EB E + a < H.size := (Array.getElem?_eq_some_iff.mp hc1).1
  have hheap : ((T.setVm vm').setCell (EB E + a) (vp_cell (ETc E 0) (n1, .inl (va_cpy f g sp.toNatClampNeg dp.toNatClampNeg x.toNatClampNeg)))).heap = H.setIfInBounds (EB E + a) (vp_cell (ETc E 0) (n1, .inl (va_cpy f g sp.toNatClampNeg dp.toNatClampNeg x.toNatClampNeg))) := by rw [← hT]; rfl
  have oq : ∀ q : Nat, q ≠ EB E + a → (H.setIfInBounds (EB E + a) (vp_cell (ETc E 0) (n1, .inl (va_cpy f g sp.toNatClampNeg dp.toNatClampNeg x.toNatClampNeg))))[q]? = H[q]? := fun q hq => by simp [Array.getElem?_setIfInBounds, Ne.symm hq]
  have hI2 : Inv E (h.set a (.inl (0, n1, .inl (va_cpy f g sp.toNatClampNeg dp.toNatClampNeg x.toNatClampNeg)))) (H.setIfInBounds (EB E + a) (vp_cell (ETc E 0) (n1, .inl (va_cpy f g sp.toNatClampNeg dp.toNatClampNeg x.toNatClampNeg)))) :=
    hI.set (by simp) (hP.set cW_D w1 (show (H.setIfInBounds (EB E + a) _)[EB E + a]? = some _ by simp [Array.getElem?_setIfInBounds, hl]; rfl) oq)
  obtain ⟨t, a1, b1⟩ := K p l e R s m args below meth c Q C ret _ _ cells slots lsA hI2 ⟨by simp; exact hS.1, fun q g1 g2 => by
      rw [oq q (fun e => g2 (by rw [e]; exact cW_D.2 a _ w1))]
      exact hS.2.1 q g1 g2, fun q hq => by
      rcases List.mem_append.mp hq with h | h
      · exact hS.2.2 q h
      · obtain ⟨z, -, hz⟩ := List.mem_map.mp h
        rw [← hz]
        exact cW_D.2 a _ w1⟩ hc hs hL _ hheap X'
  exact ⟨t, step t a1, b1⟩
end GC
