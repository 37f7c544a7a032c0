/-! ===== throwing and catching (the search through a table whose classes may not be resolved yet: after the library's Shelf42/NT86, NT97, which rounds leave out) ===== -/
section VT
theorem vc_link {Q : Handler → Pre} {E : CtlPost} {e : Env} {d : Bool} {acts : List Action} {s : State} {f : JFrame} {a : Addr} {x : ExceptionTableEntry} {t : List ExceptionTableEntry} {c : ClassId} {cell : Cell} (hx : covers x f.pc = true) (h0 : x.catchType ≠ 0)
    (hl : s.vm.ClassLinks e.platform f.method.cls x.catchType c) (hcell : s.heap[a]? = some cell) (hobj : ∀ k, cell.vm ≠ .statics k)
    (hk : ∃ k, s.vm.classes[cell.cls]? = some k) (hc : ∃ k, s.vm.classes[c]? = some k) :
    wp (findHandler.go f a (x :: t)) Q E e d acts s ↔ (if s.vm.assignable cell.cls c = true then Q (.found x.handlerPc) d acts (s.setVm (s.vm.noted f.method.cls x.catchType (.cls c))) else wp (findHandler.go f a t) Q E e d acts (s.setVm (s.vm.noted f.method.cls x.catchType (.cls c)))) := by
  simp only [covers] at hx
  obtain ⟨ha, ht⟩ := (resolveClass_links e.toSetting hl).op (op := VmOp.resolveClass f.method.cls x.catchType) rfl
  have hal : s.vm.Alike (s.vm.noted f.method.cls x.catchType (.cls c)) := (Vm.Alike.refl s.vm).noted _ _ _
  obtain ⟨k1, hk1⟩ := hk
  obtain ⟨k2, hk2⟩ := hc
  obtain ⟨k1', hk1', -⟩ := hal.2.2 _ _ hk1
  obtain ⟨k2', hk2', -⟩ := hal.2.2 _ _ hk2
  cases hfit : s.vm.assignable cell.cls c with
  | true =>
    have hfit' : (s.vm.noted f.method.cls x.catchType (.cls c)).assignable cell.cls c = true := by rw [hal.assignable]; exact hfit
    simp [findHandler.go, hx, h0, ha, ht, hcell, hobj, hk1', hk2', hfit', VmOp.dirties, VmOp.acts]
  | false =>
    have hno' : (s.vm.noted f.method.cls x.catchType (.cls c)).assignable cell.cls c = false := by rw [hal.assignable]; exact hfit
    simp [findHandler.go, hx, h0, ha, ht, hcell, hobj, hk1', hk2', hno', VmOp.dirties, VmOp.acts]
/-- a row that lets the exception pass -/
def vc_pass (pl : Platform) (s₀ : State) (d : ClassId) (pc : Nat) (thrown : ClassId) (y : ExceptionTableEntry) : Prop :=
  covers y pc = false ∨ (y.catchType ≠ 0 ∧ ∃ c, s₀.vm.ClassLinks pl d y.catchType c ∧ s₀.vm.assignable thrown c = false)
theorem vc_go {e : Env} {s₀ : State} {f : JFrame} {a : Addr} {cell : Cell} (hobj : ∀ k, cell.vm ≠ .statics k) (hk0 : ∃ k, s₀.vm.classes[cell.cls]? = some k)
    (x : ExceptionTableEntry) (rest : List ExceptionTableEntry) (hx : covers x f.pc = true) (h0 : x.catchType ≠ 0) {c : ClassId} (hl : s₀.vm.ClassLinks e.platform f.method.cls x.catchType c) (hfit : s₀.vm.assignable cell.cls c = true) :
    ∀ (pre : List ExceptionTableEntry) (S : State), s₀.WarmedH S.vm → S.heap[a]? = some cell → (∀ y ∈ pre, vc_pass e.platform s₀ f.method.cls f.pc cell.cls y) →
      ∃ vm', s₀.WarmedH vm' ∧ ∀ (Q : Handler → Pre) (E : CtlPost) (d : Bool) (acts : List Action), wp (findHandler.go f a (pre ++ x :: rest)) Q E e d acts S ↔ Q (.found x.handlerPc) d acts (S.setVm vm') := by
  obtain ⟨k0, hk0⟩ := hk0
  intro pre
  induction pre with
  | nil =>
    intro S hW hcell _
    obtain ⟨k0', hk0', -⟩ := hW.alike.2.2 _ _ hk0
    obtain ⟨dk, _, _, kt, hd, _, _, _, _, hkt, _, hopen⟩ := hl.here
    obtain ⟨kt', hkt', -⟩ := hW.alike.2.2 _ _ hkt
    refine ⟨_, hW.noted hd hopen (State.rightAt_cls hl), fun Q E d acts => ?_⟩
    rw [List.nil_append, vc_link hx h0 (hW.classLinks hl) hcell hobj ⟨k0', hk0'⟩ ⟨kt', hkt'⟩, if_pos (by rw [hW.alike.assignable]; exact hfit)]
  | cons y ys ih =>
    intro S hW hcell hpass
    obtain ⟨k0', hk0', -⟩ := hW.alike.2.2 _ _ hk0
    have hrest : ∀ z ∈ ys, vc_pass e.platform s₀ f.method.cls f.pc cell.cls z := fun z hz => hpass z (List.mem_cons_of_mem _ hz)
    by_cases hcov : covers y f.pc = true
    · rcases hpass y (List.mem_cons_self ..) with h | ⟨hy0, c9, hl9, hno⟩
      · rw [h] at hcov; cases hcov
      · obtain ⟨dk, _, _, kt, hd, _, _, _, _, hkt, _, hopen⟩ := hl9.here
        obtain ⟨kt', hkt', -⟩ := hW.alike.2.2 _ _ hkt
        obtain ⟨vm', hW', hq⟩ := ih (S.setVm (S.vm.noted f.method.cls y.catchType (.cls c9))) (hW.noted hd hopen (State.rightAt_cls hl9)) hcell hrest
        refine ⟨vm', hW', fun Q E d acts => ?_⟩
        rw [List.cons_append, vc_link hcov hy0 (hW.classLinks hl9) hcell hobj ⟨k0', hk0'⟩ ⟨kt', hkt'⟩, if_neg (by rw [hW.alike.assignable, hno]; decide)]
        exact hq Q E d acts
    · obtain ⟨vm', hW', hq⟩ := ih S hW hcell hrest
      refine ⟨vm', hW', fun Q E d acts => ?_⟩
      rw [List.cons_append, W.findHandler_go_skip (by simpa using hcov)]
      exact hq Q E d acts
theorem vc_step {e : Env} {s : State} {a : Addr} {f : JFrame} {r : List Frame} {pc : Nat} {vm' : Vm} (hfind : ∀ (Q : Handler → Pre) (E : CtlPost) (d : Bool) (acts : List Action), wp (findHandler f a) Q E e d acts s ↔ Q (.found pc) d acts (s.setVm vm')) :
    (stepThrowing e s a (.java f :: r)).Is ((s.setVm vm').setFrames (.java { f with pc := pc, stack := [.ref a] } :: r)) [] := by
  simp only [stepThrowing, searchFrame, vmDo]
  generalize hr : Sem.go _ e false [] s = res
  obtain ⟨as, rfl, ha⟩ := Sem.eq_ok_of hr (a := Handler.found pc) (s' := s.setVm vm') (acts' := []) (by simp [hfind _ _ _ _])
  exact ⟨rfl, ha⟩
theorem vc_frames (u : State) (vm' : Vm) (F G : List Frame) : ((u.setFrames F).setVm vm').setFrames G = (u.setVm vm').setFrames G := by
  have h1 : (u.setFrames F).setVm vm' = (u.setVm vm').setFrames F := rfl
  rw [h1, State.setFrames_setFrames]
theorem vc_caught {tb : Tables} {e : Env} {s target : State} {g : JFrame} {c : Code} {below : List Frame} {a : Addr} (h : At s g.method c below) {pc : Nat} {vm' : Vm}
    (hfind : ∀ (Q : Handler → Pre) (E : CtlPost) (d : Bool) (acts : List Action), wp (findHandler g a) Q E e d acts ((s.setTop g).pushFrame (.throwing a)) ↔ Q (.found pc) d acts (((s.setTop g).pushFrame (.throwing a)).setVm vm')) (hrest : Steps tb e below ((s.setVm vm').setTop { g with pc := pc, stack := [.ref a] }) target) :
    Steps tb e below ((s.setTop g).pushFrame (.throwing a)) target := by
  obtain ⟨hgo, hw⟩ := h.throwing a
  refine Steps.head hgo hw ?_
  rw [stepThread_throwing (frames_entered h.top _), (vc_step (s := (s.setTop g).pushFrame (.throwing a)) hfind).1]
  obtain ⟨g₀, hg⟩ := Option.isSome_iff_exists.mp h.top
  obtain ⟨r, hr⟩ := State.topJava?_eq_some.mp hg
  have hr' : (s.setVm vm').frames = .java g₀ :: r := hr
  rw [State.setTop_of_frames _ hr'] at hrest
  rw [hr, List.tail_cons, State.pushFrame, vc_frames, State.setTop_of_frames _ hr, vc_frames]
  exact hrest
variable {G : vg_G} {M : vg_M} {uc us pc : Nat} {L : List (Option vg_V)} {st : List vg_V} {h : vg_H} {Q : vg_O → vg_H → Prop}
/-- caught by the row x, behind rows 'pre' that name the other kind -/
theorem vx_here {k : Nat} (pre suf : List (Nat × Nat × Nat × Nat)) (x : Nat × Nat × Nat × Nat) (hh : M.2.2.2.2.1 = pre ++ x :: suf)
    (hpass : ∀ z ∈ pre, k = 1 ∧ z.2.2.2 ≠ 0 ∧ Cond.classLink M.1.cls z.2.2.2 (vg_ex 0) ∈ vg_ws) (hx : x.1 ≤ pc ∧ pc < x.2.1) (h0 : x.2.2.2 ≠ 0)
    (hw : Cond.classLink M.1.cls x.2.2.2 (vg_ex k) ∈ vg_ws) (hcast : Cond.castable (vg_ex k) (vg_ex k) ∈ vg_xs)
    (kk : ∀ q : Nat, vg_A G M uc us x.2.2.1 L [.inr (.inr (some q))] h Q) : vg_X G M uc us pc L st h Q k := by
  intro p l e R s m args below meth c F H locs ls q ce hR hlo hl hce hcv hcl T hT X
  obtain ⟨hxx, hb, hml, hrt, hlk, hown, hnm, hts, hSt, hRm, hxt, hst⟩ := id F
  have hpl : e.platform.magicAccessors = ({} : Platform).magicAccessors := by rw [X.admits.platform]
  have hcs : (Cond.castable (vg_ex k) (vg_ex k)).before args s = true := va_Nw.use rfl (hSt.2.2.2.2.2.2.2.2.2.2.2.2 _ hcast)
  obtain ⟨c3, c4, hc3, hc4, hasg⟩ := Cond.castable_spec hcs
  cases Option.some.inj (hc3.symm.trans hcl)
  obtain ⟨c5, hc5, hcl5⟩ := Cond.classLink_spec hown (hts _ hw) e.platform hpl
  cases Option.some.inj (hc4.symm.trans hc5)
  have hsplit : c.exceptionTable.toList = tableOf pre ++ (⟨x.1, x.2.1, x.2.2.1, x.2.2.2⟩ : ExceptionTableEntry) :: tableOf suf := by
    rw [hxt, hh]; simp [tableOf]
  have hobj : ∀ k, ce.vm ≠ .statics k := fun k hk => by rw [hcv] at hk; cases hk
  have hk0 : ∃ k, s.vm.classes[ce.cls]? = some k := by obtain ⟨k9, h9, -⟩ := Vm.findClass_spec hcl; exact ⟨k9, h9⟩
  obtain ⟨vm', hW', hq⟩ := vc_go (e := e) (s₀ := s) (f := F0 m pc ls (st.map vg_v)) (a := q) (cell := ce) hobj hk0 (⟨x.1, x.2.1, x.2.2.1, x.2.2.2⟩ : ExceptionTableEntry) (tableOf suf) (by simp [covers, hx.1, hx.2]) h0 hcl5 hasg (tableOf pre) ((T.setTop (F0 m pc ls (st.map vg_v))).pushFrame (.throwing q)) X.warmed (by
      show T.heap[q]? = some ce
      rw [hT]; exact hce) (fun y hy => by
      obtain ⟨z, hz, rfl⟩ := List.mem_map.mp hy
      obtain ⟨z1, z2, z3⟩ := hpass z hz
      subst z1
      obtain ⟨c6, hc6, hcl6⟩ := Cond.classLink_spec hown (hts _ z3) e.platform hpl
      obtain ⟨a8, b8, e1, e2, e3⟩ := hSt.2.2.2.2.2.2.2.2.2.2.1
      cases Option.some.inj (e1.symm.trans hcl)
      cases Option.some.inj (e2.symm.trans hc6)
      exact Or.inr ⟨z2, _, hcl6, e3⟩)
  obtain ⟨t, a1, b1⟩ := kk q p l e R s m args below meth c F H locs ls hR hlo hl (T.setVm vm') hT (X.noted hW')
  refine ⟨t, vc_caught (g := F0 m pc ls (st.map vg_v)) X.here (pc := x.2.2.1) (vm' := vm') (fun Q E d acts => ?_) a1, b1⟩
  rw [W.findHandler_eq (meth := meth) (code := c) X.method' X.code, hsplit]
  exact hq Q E d acts
/-- 'throw new E()' -/
theorem vr_throw {k ik ic : Nat} (hk : Cond.classLink M.1.cls ik (vg_ex k) ∈ vg_ws) (hi : Cond.initialized (vg_ex k) ∈ vg_ws) (hfit : Bundle.fit (vg_ex k) = true)
    (hat : ∀ w ∈ vx_at0 M.1.cls ic (vg_ex k) ["java/lang/RuntimeException", "java/lang/Exception"], w ∈ vg_ws ∨ (w ∈ vg_xs ∧ w.onTables = true))
    (hgood : ∀ w ∈ Cond.classLink M.1.cls ik (vg_ex k) :: Cond.initialized (vg_ex k) :: vx_at0 M.1.cls ic (vg_ex k) ["java/lang/RuntimeException", "java/lang/Exception"], vx_ot w = true)
    (d0 : decode M.2.1 pc = .ok (.new ik, 3)) (d3 : decode M.2.1 (pc + 3) = .ok (.dup, 1)) (d4 : decode M.2.1 (pc + 4) = .ok (.invokespecial ic, 3)) (d7 : decode M.2.1 (pc + 7) = .ok (.athrow, 1))
    (hh : M.2.2.2.2.1 = []) (hfr : 5 < (vg_rm M).frames) (hlo8 : ((st.map vg_v).map fun v => v.category).sum + 81 ≤ (vg_rm M).locals) (hc : uc + 1 ≤ (vg_rm M).cells ∧ us + 6 ≤ (vg_rm M).slots)
    (kk : ∀ n : Nat, vg_z h ≤ n → Q (.inr k) (vg_skip h n)) : vg_A G M uc us pc L st h Q := by
  intro p l e R s m args below meth c F H locs ls hR hlo hl T hT X
  obtain ⟨hx, hb, hml, hrt, hlk, hown, hnm, hts, hSt, hRm, hxt, hst⟩ := id F
  refine vx_throw0 (names := ["java/lang/RuntimeException", "java/lang/Exception"]) (A := vg_Fr G) hx hb hst hown hfit (by decide +kernel) (hts _ hk) (hts _ hi) (fun w hw => ?_) hgood hSt.2.2.2.2.2.2.2.2.1 hSt.2.2.2.2.2.2.2.2.2.1 (vg_S hT X hSt hR hlo) (by rw [hml]; exact hl.1) d0 d3 d4 d7 (fun x hx => ?_) (by rw [hRm]; exact hfr) (by rw [hRm]; show _ + (13 * (2 + 1) + 42) ≤ _; omega) (by rw [hRm]; exact hc.1) (by rw [hRm]; exact hc.2) hlk (fun t hvm h1 h2 => ⟨k, vg_skip h t.heap.size, rfl, hR.skip h1 h2, kk _ (by rw [← hR.1]; exact h1)⟩) (fun z hz => hlo z hz) hc.1 hc.2 T hT X
  · rcases hat w hw with h1 | ⟨h1, h2⟩
    · exact hts _ h1
    · exact va_Nw.use h2 (hSt.2.2.2.2.2.2.2.2.2.2.2.2 _ h1)
  · rw [hxt, hh] at hx
    cases hx
end VT
