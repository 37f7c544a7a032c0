/-! ===== contracts and calls ===== -/
def vg_cw (M : vg_M) : Cond := match M.2.2.2.2.1 with
  | [] => .code M.1 M.2.1 M.2.2.1 M.2.2.2.1
  | x :: t => .codeWith M.1 M.2.1 M.2.2.1 M.2.2.2.1 (x :: t)
/-- the contract of a method: from arguments 'as' and heap h it ends as Q says -/
def vg_C (G : vg_G) (M : vg_M) (as : List vg_V) (h : vg_H) (Q : vg_O → vg_H → Prop) : Prop :=
  ∀ l : Launch, l.stackTraces = false → vx_Met l M.1 (vg_cw M :: vg_ws) (vg_rm M) (va_Pc (as.map vg_v) (fun U => vg_St G U ∧ vg_Rep G h U.heap)) (vg_Qc G Q) (vg_Xc G Q) (vg_rm M).cells (vg_rm M).slots (vg_Fr G)
/-- a method's locals at its entry -/
def vg_en : List vg_V → List (Option vg_V)
  | [] => []
  | .inr (.inl x) :: r => some (.inr (.inl x)) :: none :: vg_en r
  | v :: r => some v :: vg_en r
def vg_ent (as : List vg_V) (n : Nat) : List (Option vg_V) := vg_en as ++ List.replicate (n - (vg_en as).length) none
theorem vg_en_len : ∀ as : List vg_V, (vg_en as).length = (lg_sl (as.map vg_v)).length
  | [] => rfl
  | .inl x :: r => by simp [vg_en, lg_sl, vg_v, Value.category, vg_en_len r]
  | .inr (.inl x) :: r => by simp [vg_en, lg_sl, vg_v, Value.category, vg_en_len r]
  | .inr (.inr none) :: r => by simp [vg_en, lg_sl, vg_v, va_rf, Value.category, vg_en_len r]
  | .inr (.inr (some x)) :: r => by simp [vg_en, lg_sl, vg_v, va_rf, Value.category, vg_en_len r]
theorem vg_as_none : ∀ (k n : Nat), vg_as n (List.replicate k none) = []
  | 0, n => rfl
  | k + 1, n => by rw [List.replicate_succ, vg_as, vg_as_none k (n + 1)]
theorem vg_en_as : ∀ (as : List vg_V) (n k : Nat), vg_as n (vg_en as ++ List.replicate k none) = lv_args n (as.map vg_v)
  | [], n, k => by simp [vg_en, vg_as_none, lv_args]
  | .inl x :: r, n, k => by simp [vg_en, vg_as, lv_args, vg_v, Value.category, vg_en_as r (n + 1) k]
  | .inr (.inl x) :: r, n, k => by simp [vg_en, vg_as, lv_args, vg_v, Value.category, vg_en_as r (n + 2) k]
  | .inr (.inr none) :: r, n, k => by simp [vg_en, vg_as, lv_args, vg_v, va_rf, Value.category, vg_en_as r (n + 1) k]
  | .inr (.inr (some x)) :: r, n, k => by simp [vg_en, vg_as, lv_args, vg_v, va_rf, Value.category, vg_en_as r (n + 1) k]
section VC
variable {G : vg_G} {M N : vg_M} {uc us pc : Nat} {L : List (Option vg_V)} {st as : List vg_V} {h : vg_H} {Q Q1 : vg_O → vg_H → Prop}
theorem vg_C.mono (hq : ∀ o h, Q o h → Q1 o h) (k : vg_C G M as h Q) : vg_C G M as h Q1 := by
  intro l hl p e ha hc hk s m args below hf happ hP hK
  obtain ⟨n, o, w1, w2, w3, w4⟩ := k l hl p e ha hc hk s m args below hf happ hP hK
  refine ⟨n, o, w1, w2, w3, ?_⟩
  rcases w4 with ⟨⟨v, h', e1, e2, e3⟩, c2⟩ | ⟨q, e1, E, ce, L', ⟨k', h', d1, d2, d3⟩, d4⟩
  · exact Or.inl ⟨⟨v, h', e1, e2, hq _ _ e3⟩, c2⟩
  · exact Or.inr ⟨q, e1, E, ce, L', ⟨k', h', d1, d2, hq _ _ d3⟩, d4⟩
/-- a contract out of the walk of the body -/
theorem vg_C_of (hh : M.2.2.2.2.1 = []) (hp : plainName M.1.cls = true) (hn : (vg_en as).length ≤ M.2.2.1) (body : vg_A G M 0 0 0 (vg_ent as M.2.2.1) [] h Q) : vg_C G M as h Q := by
  intro l hl
  have hcw : vg_cw M = .code M.1 M.2.1 M.2.2.1 M.2.2.2.1 := by unfold vg_cw; rw [hh]
  refine vx_ofW (cc := M.2.1) (maxL := M.2.2.1) (ret := M.2.2.2.1) (ws' := vg_ws) hp (by rw [hcw]) ?_
  intro p e s m args below meth c s₁ B hml ht hP
  obtain ⟨rfl, hSt, hR⟩ := hP
  have hts := atoms_spec (ws := vg_cw M :: vg_ws) B.pre
  have hl0 := lv_entry (as.map vg_v) (n := M.2.2.1) (by rw [← vg_en_len]; exact hn)
  rw [lg_entry_eq]
  refine body p l e _ s m _ below meth c ⟨B.exec, B.bytes, hml, B.returns, B.notSynchronized, findClass_of_methodNamed B.named, (name_of_methodNamed B.named B.method).1, fun w hw => hts w (List.mem_cons_of_mem _ hw), hSt, rfl, ?_, hl⟩ s.heap [] _ hR (fun q hq => by cases hq) ?_
  · rw [hh]
    cases hx : c.exceptionTable.toList with
    | nil => rfl
    | cons x t => exact (ht x (by rw [hx]; exact List.mem_cons_self)).elim
  · show lv_has _ _ (vg_as 0 (vg_en as ++ List.replicate _ none))
    rw [vg_en_as]
    exact hl0
theorem vg_C_ofH {x : Nat × Nat × Nat × Nat} {t : List (Nat × Nat × Nat × Nat)} (hh : M.2.2.2.2.1 = x :: t) (hp : plainName M.1.cls = true) (hn : (vg_en as).length ≤ M.2.2.1) (body : vg_A G M 0 0 0 (vg_ent as M.2.2.1) [] h Q) : vg_C G M as h Q := by
  intro l hl
  have hcw : vg_cw M = .codeWith M.1 M.2.1 M.2.2.1 M.2.2.2.1 (x :: t) := by unfold vg_cw; rw [hh]
  refine vx_ofWH (cc := M.2.1) (maxL := M.2.2.1) (ret := M.2.2.2.1) (hh := x :: t) (ws' := vg_ws) hp (by rw [hcw]) ?_
  intro p e s m args below meth c s₁ B hml hP
  obtain ⟨rfl, hSt, hR⟩ := hP
  have hts := atoms_spec (ws := vg_cw M :: vg_ws) B.pre
  have hl0 := lv_entry (as.map vg_v) (n := M.2.2.1) (by rw [← vg_en_len]; exact hn)
  rw [lg_entry_eq]
  refine body p l e _ s m _ below meth c ⟨B.exec, B.bytes, hml, B.returns, B.notSynchronized, findClass_of_methodNamed B.named, (name_of_methodNamed B.named B.method).1, fun w hw => hts w (List.mem_cons_of_mem _ hw), hSt, rfl, ?_, hl⟩ s.heap [] _ hR (fun q hq => by cases hq) ?_
  · rw [hh]
    have h1 := hts _ List.mem_cons_self
    rw [hcw] at h1
    exact vx_table (x := M.1) B h1
  · show lv_has _ _ (vg_as 0 (vg_en as ++ List.replicate _ none))
    rw [vg_en_as]
    exact hl0
/-- an exception of kind k has come to this frame -/
def vg_X (G : vg_G) (M : vg_M) (uc us pc : Nat) (L : List (Option vg_V)) (st : List vg_V) (h : vg_H) (Q : vg_O → vg_H → Prop) (k : Nat) : Prop :=
  ∀ (p : Program) (l : Launch) (e : Env) (R : Room) (s : State) (m : MethodId) (args : Array Value) (below : List Frame) (meth : Method) (c : Code), vg_F G M p l R s m args meth c →
    ∀ (H : Heap) (locs : List Loc) (ls : Array Slot) (q : Addr) (ce : Cell), vg_Rep G h H → (∀ q ∈ locs, vg_b G ≤ q.base) → vg_lh ls M.2.2.1 L → H[q]? = some ce → ce.vm = .none → s.vm.findClass (vg_ex k) = some ce.cls →
      vx_W p l e R s m args below meth c H locs uc us (vx_MQ below (vg_Qc G Q) (vg_Xc G Q) args s (vg_rm M).cells (vg_rm M).slots (vg_Fr G)) (F0 m pc ls (st.map vg_v)) q
/-- it isn't caught here -/
theorem vx_up {k : Nat} (hh : M.2.2.2.2.1 = []) (hc : uc ≤ (vg_rm M).cells ∧ us ≤ (vg_rm M).slots) (hq : Q (.inr k) h) : vg_X G M uc us pc L st h Q k := by
  intro p l e R s m args below meth c F H locs ls q ce hR hlo hl hce hcv hcl
  refine vx_out (fun x hx => ?_) F.2.2.2.2.1 hce hcv hcl (fun t ht hvm => ⟨k, h, rfl, by rw [ht]; exact hR, hq⟩) (fun z hz => hlo z hz) hc.1 hc.2
  rw [F.2.2.2.2.2.2.2.2.2.2.1, hh] at hx
  cases hx
theorem vg_pre {s : State} {H : Heap} (hSt : vg_St G s) (hR : vg_Rep G h H) : PreS s H (va_Pc (as.map vg_v) (fun U => vg_St G U ∧ vg_Rep G h U.heap)) (as.map vg_v) := by
  refine ⟨fun a U g mk hp => ?_, fun U hU hW => ?_⟩
  · obtain ⟨e1, e2, e3⟩ := hp
    exact ⟨e1, vg_St.same (u := U) (U := U.calling g mk a) rfl rfl e2, e3⟩
  · refine ⟨rfl, hSt.moved hW (by rw [hU]; exact hR.2.1) (fun q hq => by rw [hU]; exact hR.2.2.1 q hq), by rw [hU]; exact hR⟩
/-- behind a call that returned or threw -/
theorem vg_back {p : Program} {l : Launch} {e : Env} {R : Room} {s : State} {m : MethodId} {args : Array Value} {below : List Frame} {meth : Method} {c : Code} {H : Heap} {locs : List Loc} {ls : Array Slot} {st0 : List Value} {mc ms : Nat} {a : Array Value} (F : vg_F G M p l R s m args meth c) (hlo : ∀ q ∈ locs, vg_b G ≤ q.base) (hl : vg_lh ls M.2.2.1 L)
    (hr : vx_Run p l e R s m args below meth c H locs uc us mc ms (F0 m pc ls st0) (st.map vg_v) (vg_Qc G Q1 a) (vg_Xc G Q1) (vg_Fr G))
    (kr : ∀ (v : Option vg_V) (h' : vg_H), Q1 (.inl v) h' → vg_A G M (uc + mc) (us + ms) (pc + 3) L (v.toList ++ st) h' Q) (kx : ∀ (k : Nat) (h' : vg_H), Q1 (.inr k) h' → vg_X G M (uc + mc) (us + ms) pc L st h' Q k) :
    W p l e R s m args below meth c H locs uc us (vx_MQ below (vg_Qc G Q) (vg_Xc G Q) args s (vg_rm M).cells (vg_rm M).slots (vg_Fr G)) (F0 m pc ls st0) := by
  intro T hT X
  have hlo' : ∀ L' : List Loc, (∀ q ∈ L', vg_Fr G q.base) → ∀ q ∈ locs ++ L', vg_b G ≤ q.base := fun L' hL q hq => by
    rcases List.mem_append.mp hq with h1 | h1
    · exact hlo q h1
    · exact hL q h1
  rcases hr T hT X with ⟨v, st₀, t, T', L', h0, X', hL, e1, e2, ⟨v', h', e3, e4, e5⟩, stp⟩ | ⟨q, st₀, t, T', L', E, ce, h0, X', hL, e1, e2, ⟨k, h', e3, e4, e5⟩, hce, hcv, hcl, stp⟩
  · cases e3
    obtain ⟨t2, a1, b1⟩ := kr v' h' e5 p l e R s m args below meth c F T'.heap (locs ++ L') ls (by rw [e1]; exact e4) (hlo' L' hL) hl T' rfl X'
    refine ⟨t2, stp t2 ?_, b1⟩
    have es : (v'.map vg_v).toList ++ st.map vg_v = (v'.toList ++ st).map vg_v := by cases v' <;> rfl
    show Steps p.tables e below (T'.setTop { F0 m pc ls st0 with pc := pc + 3, stack := (v'.map vg_v).toList ++ st.map vg_v }) t2
    rw [es]
    exact a1
  · subst e3
    obtain ⟨t2, a1, b1⟩ := kx k h' e5 p l e R s m args below meth c F T'.heap (locs ++ L') ls q ce (by rw [e1]; exact e4) (hlo' L' hL) hl (by rw [e1]; exact hce) hcv hcl T' rfl X'
    exact ⟨t2, stp.trans a1, b1⟩
/-- what a call asks of the words: the link, the callee's code, its class's state -/
def vg_cs (M N : vg_M) (idx n : Nat) : Prop := Cond.methodLink M.1.cls idx N.1 ∈ vg_ws ∧ Cond.code N.1 N.2.1 N.2.2.1 N.2.2.2.1 ∈ vg_ws ∧ Cond.initialized N.1.cls ∈ vg_ws ∧ N.2.2.2.2.1 = [] ∧ (N.1.cls ≠ "java/lang/invoke/MethodHandle" ∧ N.1.cls ≠ "java/lang/invoke/VarHandle" ∧ (parseMethodDescriptor N.1.desc).map (fun d => d.parameters.length) = some n) ∧ ((vg_rm N).frames + 1 ≤ (vg_rm M).frames ∧ 8 + (N.2.2.1 + 11) + (vg_rm N).locals ≤ (vg_rm M).locals)
theorem vg_cwN {N : vg_M} (h : N.2.2.2.2.1 = []) : vg_cw N = .code N.1 N.2.1 N.2.2.1 N.2.2.2.1 := by unfold vg_cw; rw [h]
theorem vg_wds (st : List vg_V) (ls : Array Slot) (m : MethodId) (s0 : List Value) (hs : ((st.map vg_v).map fun v => v.category).sum ≤ 8) : 2 * (F0 m pc ls s0).monitorRoom + ((st.map vg_v).map fun v => v.category).sum ≤ 8 := lv_room hs
theorem vr_callS {idx n : Nat} (hcs : vg_cs M N idx n) (hstat : Cond.static N.1 ∈ vg_ws) (hn : as.length = n) (hd : decode M.2.1 pc = .ok (.invokestatic idx, 3)) (hs : ((st.map vg_v).map fun v => v.category).sum ≤ 8) (hc : uc + (vg_rm N).cells ≤ (vg_rm M).cells ∧ us + (vg_rm N).slots ≤ (vg_rm M).slots)
    (hC : vg_C G N as h Q1) (kr : ∀ (v : Option vg_V) (h' : vg_H), Q1 (.inl v) h' → vg_A G M (uc + (vg_rm N).cells) (us + (vg_rm N).slots) (pc + 3) L (v.toList ++ st) h' Q) (kx : ∀ (k : Nat) (h' : vg_H), Q1 (.inr k) h' → vg_X G M (uc + (vg_rm N).cells) (us + (vg_rm N).slots) pc L st h' Q k) : vg_A G M uc us pc L (as.reverse ++ st) h Q := by
  intro p l e R s m args below meth c F H locs ls hR hlo hl
  obtain ⟨hx, hb, hml, hrt, hlk, hown, hnm, hts, hSt, hRm, hxt, hst⟩ := id F
  obtain ⟨w1, w2, w3, w4, w5, w6⟩ := hcs
  have hG : GoodIn vg_ws (va_wsS M.1.cls idx N.1 (vg_cw N :: vg_ws)) := by
    intro w hw
    simp only [va_wsS, List.mem_append, List.mem_cons, List.not_mem_nil, or_false] at hw
    rcases hw with (rfl | rfl | rfl) | rfl | hw
    · exact vg_goodSelf _ w1
    · exact vg_goodSelf _ hstat
    · exact vg_goodSelf _ w3
    · rw [vg_cwN w4]; exact vg_goodSelf _ w2
    · exact vg_goodSelf _ hw
  have cw := va_cwS (R := R) (maxL := N.2.2.1) (bytes := N.2.1) (ret := N.2.2.2.1) (rm := vg_rm N) (ws' := vg_ws) n hts hG (by rw [vg_cwN w4]) rfl rfl w5 (by rw [hRm]; exact w6)
  rw [List.map_append, List.map_reverse]
  exact vg_back F hlo hl (vx_runS (As := as.map vg_v) (Ts := vg_ws) (nL := M.2.2.1) (own := M.1.cls) ⟨hx, hb, hml, hown, hts⟩ (hC l hst) cw (vg_pre hSt hR) rfl (by rw [List.length_map]; exact hn) hl.1 rfl (vg_wds st ls m _ hs) hd (by rw [hRm]; exact hc)) kr kx
theorem vr_callV {idx n ci a : Nat} {r : vw_C} (hcs : vg_cs M N idx n) (hr : vwCl[ci]? = some r) (hcl : N.1.cls = r.1) (hin : Cond.instanceMethod N.1 ∈ vg_ws) (hsel : Cond.selects N.1.cls N.1 N.1 ∈ vg_ws) (ha : h.1 a = ci + 1) (hn : as.length = n) (hd : decode M.2.1 pc = .ok (.invokevirtual idx, 3)) (hs : ((st.map vg_v).map fun v => v.category).sum ≤ 8) (hc : uc + (vg_rm N).cells ≤ (vg_rm M).cells ∧ us + (vg_rm N).slots ≤ (vg_rm M).slots)
    (hC : vg_C G N (.inr (.inr (some a)) :: as) h Q1) (kr : ∀ (v : Option vg_V) (h' : vg_H), Q1 (.inl v) h' → vg_A G M (uc + (vg_rm N).cells) (us + (vg_rm N).slots) (pc + 3) L (v.toList ++ st) h' Q) (kx : ∀ (k : Nat) (h' : vg_H), Q1 (.inr k) h' → vg_X G M (uc + (vg_rm N).cells) (us + (vg_rm N).slots) pc L st h' Q k) : vg_A G M uc us pc L (as.reverse ++ .inr (.inr (some a)) :: st) h Q := by
  intro p l e R s m args below meth c F H locs ls hR hlo hl
  obtain ⟨hx, hb, hml, hrt, hlk, hown, hnm, hts, hSt, hRm, hxt, hst⟩ := id F
  obtain ⟨w1, w2, w3, w4, w5, w6⟩ := hcs
  have hG : GoodIn vg_ws (wsV M.1.cls idx N.1.cls N.1 (vg_cw N :: vg_ws)) := by
    intro w hw
    simp only [wsV, List.mem_append, List.mem_cons, List.not_mem_nil, or_false] at hw
    rcases hw with (rfl | rfl | rfl | rfl) | rfl | hw
    · exact vg_goodSelf _ w1
    · exact vg_goodSelf _ hin
    · exact vg_goodSelf _ hsel
    · exact vg_goodSelf _ w3
    · rw [vg_cwN w4]; exact vg_goodSelf _ w2
    · exact vg_goodSelf _ hw
  have cw := cwV (R := R) (maxL := N.2.2.1) (bytes := N.2.1) (ret := N.2.2.2.1) (rm := vg_rm N) (ws' := vg_ws) (C := N.1.cls) n hts hG (by rw [vg_cwN w4]) rfl rfl ⟨rfl, w5⟩ (by rw [hRm]; exact w6)
  obtain ⟨-, cellB, g1, g2, g3, -⟩ := hR.2.2.2.1 a ci r ha hr
  have hpre := vg_pre (as := .inr (.inr (some a)) :: as) hSt hR
  rw [List.map_append, List.map_reverse, List.map_cons]
  exact vg_back F hlo hl (vx_runV (As := as.map vg_v) (b := a) (Ts := vg_ws) (nL := M.2.2.1) (own := M.1.cls) ⟨hx, hb, hml, hown, hts⟩ (hC l hst) cw ⟨hpre.1, ⟨cellB, g1, by rw [g3]; rfl, by rw [g2, hcl]; exact (hSt.1.1 ci r hr).2.1⟩, hpre.2⟩ rfl (by rw [List.length_map]; exact hn) hl.1 rfl (vg_wds st ls m _ hs) hd (by rw [hRm]; exact hc)) kr kx
/-- a contract without exceptions -/
theorem vg_met {l : Launch} (hl : l.stackTraces = false) (hC : vg_C G N as h Q1) (hq : ∀ k h', ¬ Q1 (.inr k) h') : Met l N.1 (vg_cw N :: vg_ws) (vg_rm N) (va_Pc (as.map vg_v) (fun U => vg_St G U ∧ vg_Rep G h U.heap)) (vg_Qc G Q1) (vg_rm N).cells (vg_rm N).slots (vg_Fr G) := by
  intro p e ha hc hk s m args below hf happ hP hK
  obtain ⟨n, o, w1, w2, w3, w4⟩ := hC l hl p e ha hc hk s m args below hf happ hP hK
  refine ⟨n, o, w1, w2, w3, ?_⟩
  rcases w4 with w4 | ⟨q, e1, E, ce, L', ⟨k', h', d1, d2, d3⟩, d4⟩
  · exact w4
  · exact absurd d3 (hq _ _)
theorem vg_run {p : Program} {l : Launch} {e : Env} {R : Room} {s : State} {m : MethodId} {args : Array Value} {below : List Frame} {meth : Method} {c : Code} {H : Heap} {locs : List Loc} {cells slots mc ms : Nat} {g : JFrame} {rest : List Value} {Qa : State → Outcome → State → Prop} {XC : String → State → State → Prop} {free : Addr → Prop}
    (hr : va_Run p l e R s m args below meth c H locs cells slots mc ms g rest Qa free) : vx_Run p l e R s m args below meth c H locs cells slots mc ms g rest Qa XC free := fun T hT X => Or.inl (hr T hT X)
/-- a constructor of another class, or of a nest mate's -/
theorem vr_callI {idx n a : Nat} (hcs : vg_cs M N idx n) (hin : Cond.instanceMethod N.1 ∈ vg_ws) (hini : N.1.name = "<init>") (hv : N.2.2.2.1 = none) (hn : as.length = n) (hd : decode M.2.1 pc = .ok (.invokespecial idx, 3)) (hs : ((st.map vg_v).map fun v => v.category).sum ≤ 8) (hc : uc + (vg_rm N).cells ≤ (vg_rm M).cells ∧ us + (vg_rm N).slots ≤ (vg_rm M).slots)
    (hC : vg_C G N (.inr (.inr (some a)) :: as) h Q1) (hq : ∀ k h', ¬ Q1 (.inr k) h') (kr : ∀ (v : Option vg_V) (h' : vg_H), Q1 (.inl v) h' → vg_A G M (uc + (vg_rm N).cells) (us + (vg_rm N).slots) (pc + 3) L (v.toList ++ st) h' Q) : vg_A G M uc us pc L (as.reverse ++ .inr (.inr (some a)) :: st) h Q := by
  intro p l e R s m args below meth c F H locs ls hR hlo hl
  obtain ⟨hx, hb, hml, hrt, hlk, hown, hnm, hts, hSt, hRm, hxt, hst⟩ := id F
  obtain ⟨w1, w2, w3, w4, w5, w6⟩ := hcs
  have hG : GoodIn vg_ws (vg_cw N :: vg_ws) := by
    intro w hw
    rcases List.mem_cons.mp hw with rfl | hw
    · rw [vg_cwN w4]; exact vg_goodSelf _ w2
    · exact vg_goodSelf _ hw
  have cb := callB_of (R := R) (own := M.1.cls) (index := idx) (maxL := N.2.2.1) (bytes := N.2.1) (ret := none) (rm := vg_rm N) (ws' := vg_ws) n hts hG (by rw [vg_cwN w4, hv]) rfl rfl (hts _ w3) (hts _ w1) w5 (by rw [hRm]; exact w6)
  rw [List.map_append, List.map_reverse, List.map_cons]
  exact vg_back F hlo hl (vg_run (va_runI (As := as.map vg_v) (b := a) (Ts := vg_ws) (nL := M.2.2.1) (own := M.1.cls) ⟨hx, hb, hml, hown, hts⟩ (vg_met hst hC hq) ⟨cb, hini, hts _ hin⟩ (vg_pre (as := .inr (.inr (some a)) :: as) hSt hR) rfl (by rw [List.length_map]; exact hn) hl.1 rfl (vg_wds st ls m _ hs) hd (by rw [hRm]; exact hc))) kr (fun k h' hk => absurd hk (hq k h'))
theorem vr_callIN {idx n a : Nat} {host : String} (hlk : Cond.methodLinkNest M.1.cls idx N.1 host ∈ vg_xs) (w2 : Cond.code N.1 N.2.1 N.2.2.1 N.2.2.2.1 ∈ vg_ws) (w3 : Cond.initialized N.1.cls ∈ vg_ws) (w4 : N.2.2.2.2.1 = []) (w5 : N.1.cls ≠ "java/lang/invoke/MethodHandle" ∧ N.1.cls ≠ "java/lang/invoke/VarHandle" ∧ (parseMethodDescriptor N.1.desc).map (fun d => d.parameters.length) = some n) (w6 : (vg_rm N).frames + 1 ≤ (vg_rm M).frames ∧ 8 + (N.2.2.1 + 11) + (vg_rm N).locals ≤ (vg_rm M).locals)
    (hin : Cond.instanceMethod N.1 ∈ vg_ws) (hini : N.1.name = "<init>") (hv : N.2.2.2.1 = none) (hn : as.length = n) (hd : decode M.2.1 pc = .ok (.invokespecial idx, 3)) (hs : ((st.map vg_v).map fun v => v.category).sum ≤ 8) (hc : uc + (vg_rm N).cells ≤ (vg_rm M).cells ∧ us + (vg_rm N).slots ≤ (vg_rm M).slots)
    (hC : vg_C G N (.inr (.inr (some a)) :: as) h Q1) (hq : ∀ k h', ¬ Q1 (.inr k) h') (kr : ∀ (v : Option vg_V) (h' : vg_H), Q1 (.inl v) h' → vg_A G M (uc + (vg_rm N).cells) (us + (vg_rm N).slots) (pc + 3) L (v.toList ++ st) h' Q) : vg_A G M uc us pc L (as.reverse ++ .inr (.inr (some a)) :: st) h Q := by
  intro p l e R s m args below meth c F H locs ls hR hlo hl
  obtain ⟨hx, hb, hml, hrt, hlkk, hown, hnm, hts, hSt, hRm, hxt, hst⟩ := id F
  have hG : GoodIn vg_ws (vg_cw N :: vg_ws) := by
    intro w hw
    rcases List.mem_cons.mp hw with rfl | hw
    · rw [vg_cwN w4]; exact vg_goodSelf _ w2
    · exact vg_goodSelf _ hw
  have cb := va_cnB (R := R) (own := M.1.cls) (index := idx) (host := host) (maxL := N.2.2.1) (bytes := N.2.1) (ret := none) (rm := vg_rm N) (ws' := vg_ws) n hts hG (by rw [vg_cwN w4, hv]) rfl rfl (hSt.2.2.2.2.2.2.2.2.2.2.2.2 _ hlk) (hts _ w3) w5 (by rw [hRm]; exact w6)
  rw [List.map_append, List.map_reverse, List.map_cons]
  exact vg_back F hlo hl (vg_run (va_runIN (As := as.map vg_v) (b := a) (Ts := vg_ws) (nL := M.2.2.1) (own := M.1.cls) ⟨hx, hb, hml, hown, hts⟩ (vg_met hst hC hq) ⟨cb, hini, hts _ hin⟩ (vg_pre (as := .inr (.inr (some a)) :: as) hSt hR) rfl (by rw [List.length_map]; exact hn) hl.1 rfl (vg_wds st ls m _ hs) hd (by rw [hRm]; exact hc))) kr (fun k h' hk => absurd hk (hq k h'))
/-- Object's constructor -/
theorem vr_obj {idx : Nat} {a : Nat} (hw : Cond.methodLink M.1.cls idx objectInit ∈ vg_ws) (hi : Cond.instanceMethod objectInit ∈ vg_ws) (hcd : Cond.code objectInit ⟨#[0xb1]⟩ 1 none ∈ vg_ws) (hd : decode M.2.1 pc = .ok (.invokespecial idx, 3)) (hf : 1 ≤ (vg_rm M).frames) (hs : ((st.map vg_v).map fun v => v.category).sum + 12 ≤ (vg_rm M).locals) (k : vg_A G M uc us (pc + 3) L st h Q) : vg_A G M uc us pc L (.inr (.inr (some a)) :: st) h Q := by
  intro p l e R s m args below meth c F H locs ls hR hlo hl
  obtain ⟨hx, hb, hml, hrt, hlkk, hown, hnm, hts, hSt, hRm, hxt, hst⟩ := id F
  exact W.objInit hx hb hown (hts _ hw) (hts _ hi) (hts _ hcd) rfl (by rw [hml]; exact hl.1) rfl hd (by rw [hRm]; exact hf) (by rw [hRm]; show 2 * 0 + _ + 12 ≤ _; omega) (k p l e R s m args below meth c F H locs ls hR hlo hl)
end VC
