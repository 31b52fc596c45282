/-! THE CLAIM OUT OF ONE WALK OF THE LAW'S BODY. Your part is whole_start (and what it stands on); all else here is the same for every law, but numbers. -/
def R_law : String := "LocalMendersLaw"
def lw_P (b : Addr) (xs : List Int32) (args : Array Value) (s : State) : Prop := args = #[.ref b] ∧ s.IntsAt b xs ∧ xs.length ≤ 260 ∧ (Jvm.Cond.and given_1 narrow_1).before args s = true
def lw_Q (_ : Array Value) (s : State) (o : Outcome) (t : State) : Prop := o = .returned (some (.int 1)) ∧ Framed s o t [] 600000 7302250
def lw_Z (below : List Frame) (a : Array Value) (s : State) : State → Prop := fun t => ∃ o, t.status = .running ∧ Ended t below o ∧ lw_Q a s o t
/-- the law's own end, with 1 on the stack, nothing written that was there before, its room as the claim has it -/
theorem lw_ret {p : Program} {l : Launch} {e : Env} {s : State} {m : MethodId} {below : List Frame} {meth : Method} {c : Code} {b : Nat} (hx : p.tables.exec = Jvm.exec) (hb : c.code = code) (hr : meth.sig.returnType = ret) (hlocks : meth.locks = false) {pc : Nat} {H : Heap} {ls : Array Slot} (hdg : decode code pc = .ok (.ireturn, 1)) : W p l e room_1 s m #[Value.ref b] below meth c H [] 600000 7302250 (lw_Z below #[Value.ref b] s) (F0 m pc ls [.int 1]) := by
  intro T hT X
  obtain ⟨fs, hret, hrun, hended, hW, hframe⟩ := X.leave (v := some (.int 1)) (hlocks := hlocks) (fun h => by rw [hr] at h; cases h)
  have hmeth' : T.vm.method? m = some meth := X.method'
  refine ⟨T.setFrames fs, ?_, .returned (some (.int 1)), hrun, hended, rfl, ⟨_, rfl⟩, hW, hframe⟩
  jvm_step X.here [X.here.top, hx, hb, hdg, hmeth', hr, ret, narrow_b1]
  (try refine ⟨rfl, ?_⟩); (try refine ⟨rfl, ?_⟩)
  first | (intro acts; rw [hret _ acts rfl rfl rfl]) | rw [hret _ _ rfl rfl rfl]
  exact Steps.refl _
/-- what holds at the law's entry: the machine, the code, the tables' words (any of lw_tbl by 'hts w (by decide +kernel)'), the script of L ints xs at the cell b, what the Statement gives of the start (any of its parts by flat_of_before) -/
def lw_At (p : Program) (s : State) (m : MethodId) (meth : Method) (c : Code) (b L : Nat) (xs : Nat → Int32) : Prop :=
  p.tables.exec = Jvm.exec ∧ c.code = code ∧ meth.sig.returnType = ret ∧ c.maxLocals = 17 ∧ s.vm.findClass R_law = some m.cls ∧ (∀ w ∈ lw_tbl, w.before #[Value.ref b] s = true) ∧ va_X b L xs s s.heap ∧ b < s.heap.size ∧ meth.locks = false ∧ (Jvm.Cond.and given_1 narrow_1).before #[Value.ref b] s = true ∧ meth.name = "law"
theorem st_POWERS {s : State} {a : Array Value} {A : Nat → Prop} (hs : ∀ c ∈ flatC (Jvm.Cond.and given_1 narrow_1), c.before a s = true) (hA : ∀ q : Nat, q < s.heap.size → ¬ A q) : ∃ t : Nat, (Term.static "LocalMenders" "POWERS" "[I").eval a s none [] s = some (.ref t) ∧ va_T .int t 15 (fun j => .int (POWf j)) A s s.heap := by
  refine va_Tof (tm := (Term.static "LocalMenders" "POWERS" "[I")) (N := 15) (by decide) (hs (Cond.arrayOf (Term.static "LocalMenders" "POWERS" "[I") .int) (by decide +kernel)) (va_eqt (hs (Cond.eq (.length (Term.static "LocalMenders" "POWERS" "[I")) (.int 15)) (by decide +kernel))) (fun j hj => ?_) hA
  rcases (show (0 ≤ j ∧ j ≤ 7) ∨ (8 ≤ j ∧ j ≤ 14) by omega) with g | g
  · rcases (show j = 0 ∨ j = 1 ∨ j = 2 ∨ j = 3 ∨ j = 4 ∨ j = 5 ∨ j = 6 ∨ j = 7 by omega) with rfl | rfl | rfl | rfl | rfl | rfl | rfl | rfl
    · exact va_eqt (z := 1) (hs (Cond.eq (.elem (Term.static "LocalMenders" "POWERS" "[I") (.int 0)) (.int 1)) (by decide +kernel))
    · exact va_eqt (z := 2) (hs (Cond.eq (.elem (Term.static "LocalMenders" "POWERS" "[I") (.int 1)) (.int 2)) (by decide +kernel))
    · exact va_eqt (z := 4) (hs (Cond.eq (.elem (Term.static "LocalMenders" "POWERS" "[I") (.int 2)) (.int 4)) (by decide +kernel))
    · exact va_eqt (z := 8) (hs (Cond.eq (.elem (Term.static "LocalMenders" "POWERS" "[I") (.int 3)) (.int 8)) (by decide +kernel))
    · exact va_eqt (z := 3) (hs (Cond.eq (.elem (Term.static "LocalMenders" "POWERS" "[I") (.int 4)) (.int 3)) (by decide +kernel))
    · exact va_eqt (z := 6) (hs (Cond.eq (.elem (Term.static "LocalMenders" "POWERS" "[I") (.int 5)) (.int 6)) (by decide +kernel))
    · exact va_eqt (z := 12) (hs (Cond.eq (.elem (Term.static "LocalMenders" "POWERS" "[I") (.int 6)) (.int 12)) (by decide +kernel))
    · exact va_eqt (z := 11) (hs (Cond.eq (.elem (Term.static "LocalMenders" "POWERS" "[I") (.int 7)) (.int 11)) (by decide +kernel))
  · rcases (show j = 8 ∨ j = 9 ∨ j = 10 ∨ j = 11 ∨ j = 12 ∨ j = 13 ∨ j = 14 by omega) with rfl | rfl | rfl | rfl | rfl | rfl | rfl
    · exact va_eqt (z := 5) (hs (Cond.eq (.elem (Term.static "LocalMenders" "POWERS" "[I") (.int 8)) (.int 5)) (by decide +kernel))
    · exact va_eqt (z := 10) (hs (Cond.eq (.elem (Term.static "LocalMenders" "POWERS" "[I") (.int 9)) (.int 10)) (by decide +kernel))
    · exact va_eqt (z := 7) (hs (Cond.eq (.elem (Term.static "LocalMenders" "POWERS" "[I") (.int 10)) (.int 7)) (by decide +kernel))
    · exact va_eqt (z := 14) (hs (Cond.eq (.elem (Term.static "LocalMenders" "POWERS" "[I") (.int 11)) (.int 14)) (by decide +kernel))
    · exact va_eqt (z := 15) (hs (Cond.eq (.elem (Term.static "LocalMenders" "POWERS" "[I") (.int 12)) (.int 15)) (by decide +kernel))
    · exact va_eqt (z := 13) (hs (Cond.eq (.elem (Term.static "LocalMenders" "POWERS" "[I") (.int 13)) (.int 13)) (by decide +kernel))
    · exact va_eqt (z := 9) (hs (Cond.eq (.elem (Term.static "LocalMenders" "POWERS" "[I") (.int 14)) (.int 9)) (by decide +kernel))
theorem st_INVERSES {s : State} {a : Array Value} {A : Nat → Prop} (hs : ∀ c ∈ flatC (Jvm.Cond.and given_1 narrow_1), c.before a s = true) (hA : ∀ q : Nat, q < s.heap.size → ¬ A q) : ∃ t : Nat, (Term.static "LocalMenders" "INVERSES" "[I").eval a s none [] s = some (.ref t) ∧ va_T .int t 16 (fun j => .int (INVf j)) A s s.heap := by
  refine va_Tof (tm := (Term.static "LocalMenders" "INVERSES" "[I")) (N := 16) (by decide) (hs (Cond.arrayOf (Term.static "LocalMenders" "INVERSES" "[I") .int) (by decide +kernel)) (va_eqt (hs (Cond.eq (.length (Term.static "LocalMenders" "INVERSES" "[I")) (.int 16)) (by decide +kernel))) (fun j hj => ?_) hA
  rcases (show (0 ≤ j ∧ j ≤ 7) ∨ (8 ≤ j ∧ j ≤ 15) by omega) with g | g
  · rcases (show j = 0 ∨ j = 1 ∨ j = 2 ∨ j = 3 ∨ j = 4 ∨ j = 5 ∨ j = 6 ∨ j = 7 by omega) with rfl | rfl | rfl | rfl | rfl | rfl | rfl | rfl
    · exact va_eqt (z := 0) (hs (Cond.eq (.elem (Term.static "LocalMenders" "INVERSES" "[I") (.int 0)) (.int 0)) (by decide +kernel))
    · exact va_eqt (z := 1) (hs (Cond.eq (.elem (Term.static "LocalMenders" "INVERSES" "[I") (.int 1)) (.int 1)) (by decide +kernel))
    · exact va_eqt (z := 9) (hs (Cond.eq (.elem (Term.static "LocalMenders" "INVERSES" "[I") (.int 2)) (.int 9)) (by decide +kernel))
    · exact va_eqt (z := 14) (hs (Cond.eq (.elem (Term.static "LocalMenders" "INVERSES" "[I") (.int 3)) (.int 14)) (by decide +kernel))
    · exact va_eqt (z := 13) (hs (Cond.eq (.elem (Term.static "LocalMenders" "INVERSES" "[I") (.int 4)) (.int 13)) (by decide +kernel))
    · exact va_eqt (z := 11) (hs (Cond.eq (.elem (Term.static "LocalMenders" "INVERSES" "[I") (.int 5)) (.int 11)) (by decide +kernel))
    · exact va_eqt (z := 7) (hs (Cond.eq (.elem (Term.static "LocalMenders" "INVERSES" "[I") (.int 6)) (.int 7)) (by decide +kernel))
    · exact va_eqt (z := 6) (hs (Cond.eq (.elem (Term.static "LocalMenders" "INVERSES" "[I") (.int 7)) (.int 6)) (by decide +kernel))
  · rcases (show j = 8 ∨ j = 9 ∨ j = 10 ∨ j = 11 ∨ j = 12 ∨ j = 13 ∨ j = 14 ∨ j = 15 by omega) with rfl | rfl | rfl | rfl | rfl | rfl | rfl | rfl
    · exact va_eqt (z := 15) (hs (Cond.eq (.elem (Term.static "LocalMenders" "INVERSES" "[I") (.int 8)) (.int 15)) (by decide +kernel))
    · exact va_eqt (z := 2) (hs (Cond.eq (.elem (Term.static "LocalMenders" "INVERSES" "[I") (.int 9)) (.int 2)) (by decide +kernel))
    · exact va_eqt (z := 12) (hs (Cond.eq (.elem (Term.static "LocalMenders" "INVERSES" "[I") (.int 10)) (.int 12)) (by decide +kernel))
    · exact va_eqt (z := 5) (hs (Cond.eq (.elem (Term.static "LocalMenders" "INVERSES" "[I") (.int 11)) (.int 5)) (by decide +kernel))
    · exact va_eqt (z := 10) (hs (Cond.eq (.elem (Term.static "LocalMenders" "INVERSES" "[I") (.int 12)) (.int 10)) (by decide +kernel))
    · exact va_eqt (z := 4) (hs (Cond.eq (.elem (Term.static "LocalMenders" "INVERSES" "[I") (.int 13)) (.int 4)) (by decide +kernel))
    · exact va_eqt (z := 3) (hs (Cond.eq (.elem (Term.static "LocalMenders" "INVERSES" "[I") (.int 14)) (.int 3)) (by decide +kernel))
    · exact va_eqt (z := 8) (hs (Cond.eq (.elem (Term.static "LocalMenders" "INVERSES" "[I") (.int 15)) (.int 8)) (by decide +kernel))
theorem ar_ty {s : State} {a : Array Value} {ty : FieldType} (hc : (Cond.arrayClass ty).before a s = true) (h : ∀ cA, s.vm.findClass ("[" ++ ty.toString) = some cA → va_RA s cA ty) : ∃ cA : ClassId, ArrOfT s cA ty ∧ va_RA s cA ty := by
  obtain ⟨cA, kA, comp, h1, h2, h3⟩ := Cond.arrayClass_spec hc
  exact ⟨cA, fun n z => ⟨(fun k hq => by cases hq), kA, h2, comp, h3⟩, h cA h1⟩
theorem env_start {s : State} {b L : Nat} {xs : Nat → Int32} (hts : ∀ w ∈ lw_tbl, w.before #[Value.ref b] s = true) (hX : va_X b L xs s s.heap) (hbl : b < s.heap.size) (hgv : (Jvm.Cond.and given_1 narrow_1).before #[Value.ref b] s = true) : ∃ E : AEnv, EnvOK E s ∧ EB E = s.heap.size ∧ ESp E 2 = b ∧ ESc E = (L, xs) := by
  have hbw : ∀ w ∈ BW, w.before #[Value.ref b] s = true := fun w hw => hts w (List.mem_filter.mp hw).1
  have hA : ∀ q : Nat, q < s.heap.size → ¬ (fun q : Nat => s.heap.size ≤ q) q := fun q hq => Nat.not_le.mpr hq
  have hs := flat_of_before _ hgv
  obtain ⟨t0, e0, v0⟩ := st_POWERS (A := fun q : Nat => s.heap.size ≤ q) hs hA
  obtain ⟨t1, e1, v1⟩ := st_INVERSES (A := fun q : Nat => s.heap.size ≤ q) hs hA
  have hi : (Cond.initialized "LocalMenders").before #[Value.ref b] s = true := hts _ (List.mem_of_getElem? (i := 41) (by decide +kernel))
  have z0 := va_Zref (A := fun q : Nat => s.heap.size ≤ q) (hts (Cond.laysStatic "LocalMenders" "POWERS" "[I") (List.mem_of_getElem? (i := 88) (by decide +kernel))) hi e0 hA
  have z1 := va_Zref (A := fun q : Nat => s.heap.size ≤ q) (hts (Cond.laysStatic "LocalMenders" "INVERSES" "[I") (List.mem_of_getElem? (i := 389) (by decide +kernel))) hi e1 hA
  have hin : ∀ (k : Nat) (q : vw_C), vwCl[k]? = some q → (Cond.instantiable q.1 q.2.2).before #[Value.ref b] s = true := by
    intro k q hq
    match k, hq with
    | 0, hq => obtain rfl := Option.some.inj hq; exact hts _ (List.mem_of_getElem? (i := 192) (by decide +kernel))
    | 1, hq => obtain rfl := Option.some.inj hq; exact hts _ (List.mem_of_getElem? (i := 150) (by decide +kernel))
    | 2, hq => obtain rfl := Option.some.inj hq; exact hts _ (List.mem_of_getElem? (i := 186) (by decide +kernel))
    | 3, hq => obtain rfl := Option.some.inj hq; exact hts _ (List.mem_of_getElem? (i := 221) (by decide +kernel))
    | 4, hq => obtain rfl := Option.some.inj hq; exact hts _ (List.mem_of_getElem? (i := 60) (by decide +kernel))
    | 5, hq => obtain rfl := Option.some.inj hq; exact hts _ (List.mem_of_getElem? (i := 52) (by decide +kernel))
    | k + 6, hq => simp [vwCl] at hq
  have hc : ∀ k : Nat, ∃ (c : ClassId) (i : Nat → Nat), ∀ q : vw_C, vwCl[k]? = some q → u_Kn s q.1 q.2.1 q.2.2 c i := by
    intro k
    cases e : vwCl[k]? with
    | none => exact ⟨0, fun _ => 0, fun q hq => by cases hq⟩
    | some q =>
      obtain ⟨c, i, h⟩ := u_known hbw (cl_ok k q e) (hin k q e)
      exact ⟨c, i, fun q' hq => by cases hq; exact h⟩
  obtain ⟨cA0, a0, r0⟩ := ar_ty (ty := .int) (hts (Cond.arrayClass .int) (List.mem_of_getElem? (i := 147) (by decide +kernel))) (fun cA h => h)
  obtain ⟨cA1, a1, r1⟩ := ar_ty (ty := .char) (hts (Cond.arrayClass .char) (List.mem_of_getElem? (i := 184) (by decide +kernel))) (fun cA h => h)
  have ho : (Cond.arrayOver (.object RX4)).before #[Value.ref b] s = true := hts _ (List.mem_of_getElem? (i := 148) (by decide +kernel))
  obtain ⟨comp, cA2, kA, f1, f2, f3, f4, f5⟩ := Cond.arrayOver_spec ho
  obtain ⟨scr, x1, x2, x3, x4, x5⟩ := hX
  refine ⟨(s.heap.size, (fun k => (hc k).choose, fun k => (hc k).choose_spec.choose), (fun k => match k with | 0 => cA0 | 1 => cA1 | _ => cA2), (fun k => match k with | 0 => t0 | 1 => t1 | _ => b), (L, xs)), ⟨⟨fun k q hq => (hc k).choose_spec.choose_spec q hq, fun k q hq => ?_⟩, fun w hw => ?_, va_AO.of ho, Nat.le_refl _, v0, v1, ⟨scr, x1, x2, x3, Nat.le_of_eq x4.symm, by rw [x4]; rfl, x5, hA b hbl⟩, z0, z1⟩, rfl, rfl, rfl⟩
  · match k, hq with
    | 0, hq => obtain rfl := Option.some.inj hq; exact ⟨a0, r0⟩
    | 1, hq => obtain rfl := Option.some.inj hq; exact ⟨a1, r1⟩
    | 2, hq => obtain rfl := Option.some.inj hq; exact ⟨fun n z => ⟨(fun k hq => by cases hq), kA, f3, comp, f4⟩, kA, comp, f3, f4, f1, f5⟩
    | k + 3, hq => simp [tysE] at hq
  · have h1 := (List.mem_filter.mp hw).1
    have h2 : isNestW w = true := (List.mem_filter.mp hw).2
    have h3 := hts w (List.mem_append_right _ h1)
    cases w <;> first | exact va_Nw.of rfl h3 | (simp [isNestW] at h2)
theorem whole_start {p : Program} {e : Env} {s : State} {m : MethodId} {below : List Frame} {meth : Method} {c : Code} (l : Launch) (hflags : l.flags = flags0) {b L : Nat} {xs : Nat → Int32} (hL : L ≤ 260) (C0 : lw_At p s m meth c b L xs) : W p l e room_1 s m #[Value.ref b] below meth c s.heap [] 0 0 (lw_Z below #[Value.ref b] s) (entryFrame m ([Value.ref b] : List Value).toArray 17) := by
  obtain ⟨hx, hb, hr, hml, hown, hts, hX, hbl, hlocks, hgv, hnm⟩ := C0
  obtain ⟨E, hE, hB, hsp, hsc⟩ := env_start hts hX hbl hgv
  have hLE : (ESc E).1 ≤ 260 := by rw [hsc]; exact hL
  have G := c_law (E := E) (d := 10) (Ψ := fun r _ => r = some (.int 1)) (Nat.le_refl _) hLE (fun _ => rfl)
  have hbE : aR E (BIGN + 2) = b := by
    unfold aR
    rw [if_neg (by omega), Nat.add_sub_cancel_left]
    exact hsp
  have hen := lv_entry ([.ref b]) (n := 17) (Nat.le_of_ble_eq_true rfl)
  rw [lg_entry_eq]
  have C : Ctx E mL_law 10 p room_1 s m #[Value.ref b] meth c := ⟨hx, hb, hml, hown, fun w hw => hts w (List.mem_filter.mp hw).1, hE, by decide, by decide, hnm⟩
  refine G p l e room_1 s m _ below meth c _ C ?_ s.heap [] 0 0 _ ⟨by decide, by rw [hB]; rfl, fun k q hk => by simp [cW] at hk⟩ va_S.rf (by decide) (by decide) ?_
  · intro r h' H locs cells slots lsA pc hΨ hr' hI' hS' hc hsl hdg
    have hΨ : r = some (.int 1) := hΨ
    subst hΨ
    refine va_forget (fun q hq => by have := hS'.2.2 q hq; rw [← hB]; exact this) ?_
    refine W.widen (k := 600000) (n := 7302250) hc hsl ?_
    exact lw_ret hx hb hr hlocks hdg
  · refine ⟨hen.1, hen.2.1, Nat.le_refl _, fun i v hi _ => ?_⟩
    match i, hi with
    | 0, hi =>
      obtain rfl := Option.some.inj (Option.some.inj hi)
      show _ = some (Slot.val (.ref (aR E (BIGN + 2))))
      rw [hbE]
      exact hen.2.2 _ (args_mem [.ref b] 0 0 (.ref b) (fun v hv => by rw [List.mem_singleton.mp hv]; rfl) rfl)
    | 1, hi => simp at hi
    | 2, hi => simp at hi
    | 3, hi => simp at hi
    | 4, hi => simp at hi
    | 5, hi => simp at hi
    | 6, hi => simp at hi
    | 7, hi => simp at hi
    | 8, hi => simp at hi
    | 9, hi => simp at hi
    | 10, hi => simp at hi
    | 11, hi => simp at hi
    | 12, hi => simp at hi
    | 13, hi => simp at hi
    | 14, hi => simp at hi
    | 15, hi => simp at hi
    | 16, hi => simp at hi
    | i + 17, hi => simp at hi
set_option maxHeartbeats 4000000 in
theorem lw_walk (l : Launch) (hflags : l.flags = flags0) (b : Addr) (xs : List Int32) : MetFree l x (headSpec (Jvm.Cond.code x code maxLocals ret :: tables_1) room_1) (lw_P b xs) (fun _ _ _ _ _ => True) lw_Q := by
  refine MetFree.of_bodyS (code := code) (maxLocals := maxLocals) (ret := ret) (by decide) ?_ ?_
  · intro args s m h hn
    obtain ⟨meth, c, h1, h2, h3, h4, h5, h6, -, -⟩ := Cond.code_spec hn (atoms_spec (ws := Jvm.Cond.code x code maxLocals ret :: tables_1) h _ List.mem_cons_self)
    exact ⟨meth, c, h1, h2, h3, h4, h5, h6⟩
  · intro p e s m args below meth c s₁ B hml0 hP _
    obtain ⟨rfl, hx, hbd, hgv⟩ := hP
    obtain ⟨scr, harrAt, hlist, hof, hsmall⟩ := hx
    obtain ⟨hcb, hkn, -, -⟩ := State.arrayAt?_spec harrAt
    have hown : s.vm.findClass R_law = some m.cls := findClass_of_methodNamed B.named
    have hts0 : ∀ c ∈ (Jvm.Cond.code x code maxLocals ret :: tables_1), c.before #[Value.ref b] s = true := atoms_spec (ws := Jvm.Cond.code x code maxLocals ret :: tables_1) B.pre
    have hts : ∀ w ∈ lw_tbl, w.before #[Value.ref b] s = true := k2_hts_sels lw_privs (fun w hw => hts0 w (List.mem_cons_of_mem _ hw)) lw_privs_ok
    have hml : c.maxLocals = 17 := B.maxLocals_eq (hts0 _ List.mem_cons_self)
    have X₀ : Stand p l e room_1 s m #[Value.ref b] below meth c s₁ [] 0 0 := Stand.of_body B
    have hh0 : s₁.heap = s.heap := by rw [B.state]; rfl
    have hsz : scr.slots.size = xs.length := by rw [← Array.length_toList, hlist, List.length_map]
    have hval : ∀ j : Nat, j < xs.length → scr.slots[j]? = some (.int (xs.getD j 0)) := fun j hj => by
      rw [← Array.getElem?_toList, hlist]
      simp [hj]
    have hbl : b < s.heap.size := (Array.getElem?_eq_some_iff.mp hcb).1
    have hX : va_X b xs.length (fun j => xs.getD j 0) s s.heap := ⟨scr, hcb, hof, hkn, hsz, hval⟩
    have K : W p l e room_1 s m #[Value.ref b] below meth c s₁.heap [] 0 0 (lw_Z below #[Value.ref b] s) (entryFrame m ([Value.ref b] : List Value).toArray 17) := by
      rw [hh0]
      exact whole_start l hflags hbd ⟨B.exec, B.bytes, B.returns, hml, hown, hts, hX, hbl, B.notSynchronized, hgv, (name_of_methodNamed B.named B.method).1⟩
    obtain ⟨t, a1, o, b1, b2, b3⟩ := K s₁ rfl X₀
    exact ⟨t, o, a1, b1, b2, b3⟩
theorem lw_pre_spec {args : Array Value} {s : State} (h : (Jvm.Cond.and given_1 narrow_1).before args s = true) (hr : rest_1_c.before args s = true) : ∃ (b : Addr) (xs : List Int32), lw_P b xs args s := by
  have hs := flat_of_before _ h
  have hq := flat_of_before _ hr
  have hc : (Cond.count 1).before args s = true := hs _ (by decide +kernel)
  have harr : (Cond.arrayOf (.arg 0) .int).before args s = true := hs _ (by decide +kernel)
  have hle : (Cond.le (.length (.arg 0)) (.int 260)).before args s = true := hs _ (by decide +kernel)
  have hlen : (Cond.isInt (.length (.arg 0))).before args s = true := hq _ (by decide +kernel)
  have hall : (Cond.all (.arg 0) (.isInt (.elem (.arg 0) (.index 0)))).before args s = true := hq _ (by decide +kernel)
  obtain ⟨b, xs, hb, hx⟩ := State.ints_of_pre rfl harr hlen hall
  have hsm : xs.length < 2 ^ 31 := hx.choose_spec.2.2.2
  have hev : (Term.length (.arg 0)).eval args s none [] s = some (.int xs.length.toInt32) := hx.length_eval hb
  have hv := Cond.le_ints hev (show (Term.int 260).eval args s none [] s = some (.int 260) from rfl)
  have hd : xs.length.toInt32 ≤ 260 := by
    simpa [Cond.before, Cond.holds, hv] using hle
  have hN : xs.length ≤ 260 := (Int32.ofNat_le_ofNat hsm (by decide)).mp (show Int32.ofNat xs.length ≤ Int32.ofNat 260 from hd)
  exact ⟨b, xs, Cond.one_arg hc (show args[0]? = some (.ref b) from hb), hx, hN, h⟩
theorem lw_comes (l : Launch) (hflags : l.flags = flags0) : Comes l x (Jvm.Cond.code x code maxLocals ret :: tables_1) room_1 (fun tb e args s => Calls_1 tb e args s ∧ rest_1 tb e args s ∧ Pre_1 tb e args s)
    (fun _ _ args s o t => lw_Q args s o t) := by
  intro p e ha hc hk s m args below hf hfit hheap happ hpre
  obtain ⟨b, xs, hP⟩ := lw_pre_spec hpre.2.2 hpre.2.1
  obtain ⟨k, o, h1, h2, h3, hQ⟩ := lw_walk l hflags b xs p e ha hc hk s m args below hf ((Spec.applies_iff_loose hf).mp happ).1 hP trivial
  exact ⟨k, o, h1, h2, h3, hQ⟩
theorem lw_frame {s t : State} {o : Outcome} {args : Array Value} (h : Framed s o t [] 600000 7302250) :
    Framed s o t (fieldLocs frame_1_writes args s ++ arrayLocs frame_1_arrays args s ++ staticLocs frame_1_statics s) 600000 7302250 := h
theorem lw_limb (L : Cond) (hL : ∀ (args : Array Value) (s t : State), L.after args s (.returned (some (.int 1))) t = true) :
    ArmFor flags0 classFile x code maxLocals ret World_1 tables_1 room_1 Calls_1 rest_1 Pre_1
      (fun tb e a s o t => postC L tb e a s o t ∧ Framed s o t (fieldLocs frame_1_writes a s ++ arrayLocs frame_1_arrays a s ++ staticLocs frame_1_statics s) 600000 7302250) := by
  intro l hflags _ _ p e ha hc hk s m args below hf hfit hheap happ hpre
  obtain ⟨k, o, h1, h2, h3, rfl, hF⟩ := lw_comes l hflags p e ha hc hk s m args below hf hfit hheap happ hpre
  exact ⟨k, _, h1, h2, h3, hL args s _, lw_frame hF⟩
theorem i_vc : Claimed_1_1 ∧ Claimed_1_2 := ⟨lw_limb limb_1_1 (fun args s t => by simp [limb_1_1, Cond.after, Cond.holds, Cond.value]), lw_limb limb_1_2 (fun args s t => Cond.after_iff.mpr (by
  first | (rw [show limb_1_2 = Cond.eq .result (.int 1) from rfl, Cond.eq_ints (x := 1) (y := 1) rfl rfl]; simp; done) | (simp [limb_1_2, Cond.value, Term.eval]; done)))⟩
