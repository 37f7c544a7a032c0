/-! ===== calls where something is caught ===== -/
section HC
variable {G : vg_G} {M N : vg_M} {uc us pc : Nat} {L : List (Option vg_V)} {st as : List vg_V} {h : vg_H} {Q Q1 : vg_O → vg_H → Prop}
/-- a static call of a method that catches -/
theorem vr_callSH {idx n : Nat} {x : Nat × Nat × Nat × Nat} {t : List (Nat × Nat × Nat × Nat)} (w1 : Cond.methodLink M.1.cls idx N.1 ∈ vg_ws) (w4 : N.2.2.2.2.1 = x :: t) (w2 : Cond.codeWith N.1 N.2.1 N.2.2.1 N.2.2.2.1 (x :: t) ∈ vg_ws) (w3 : Cond.initialized N.1.cls ∈ vg_ws) (w5 : N.1.cls ≠ "java/lang/invoke/MethodHandle" ∧ N.1.cls ≠ "java/lang/invoke/VarHandle" ∧ (parseMethodDescriptor N.1.desc).map (fun d => d.parameters.length) = some n) (w6 : (vg_rm N).frames + 1 ≤ (vg_rm M).frames ∧ 8 + (N.2.2.1 + 11) + (vg_rm N).locals ≤ (vg_rm M).locals) (hstat : Cond.static N.1 ∈ vg_ws) (hn : as.length = n) (hd : decode M.2.1 pc = .ok (.invokestatic idx, 3)) (hs : ((st.map vg_v).map fun v => v.category).sum ≤ 8) (hc : uc + (vg_rm N).cells ≤ (vg_rm M).cells ∧ us + (vg_rm N).slots ≤ (vg_rm M).slots)
    (hC : vg_C G N as h Q1) (kr : ∀ (v : Option vg_V) (h' : vg_H), Q1 (.inl v) h' → vg_A G M (uc + (vg_rm N).cells) (us + (vg_rm N).slots) (pc + 3) L (v.toList ++ st) h' Q) (kx : ∀ (k : Nat) (h' : vg_H), Q1 (.inr k) h' → vg_X G M (uc + (vg_rm N).cells) (us + (vg_rm N).slots) pc L st h' Q k) : vg_A G M uc us pc L (as.reverse ++ st) h Q := by
  intro p l e R s m args below meth c F H locs ls hR hlo hl
  obtain ⟨hx, hb, hml, hrt, hlk, hown, hnm, hts, hSt, hRm, hxt, hst⟩ := id F
  have hcw : vg_cw N = .codeWith N.1 N.2.1 N.2.2.1 N.2.2.2.1 (x :: t) := by unfold vg_cw; rw [w4]
  have hG : GoodIn vg_ws (va_wsS M.1.cls idx N.1 (vg_cw N :: vg_ws)) := by
    intro w hw
    simp only [va_wsS, List.mem_append, List.mem_cons, List.not_mem_nil, or_false] at hw
    rcases hw with (rfl | rfl | rfl) | rfl | hw
    · exact vg_goodSelf _ w1
    · exact vg_goodSelf _ hstat
    · exact vg_goodSelf _ w3
    · rw [hcw]; exact vg_goodSelf _ w2
    · exact vg_goodSelf _ hw
  have cw := vx_cwSW (R := R) (maxL := N.2.2.1) (bytes := N.2.1) (ret := N.2.2.2.1) (hh := x :: t) (rm := vg_rm N) (ws' := vg_ws) n hts hG (by rw [hcw]) rfl rfl w5 (by rw [hRm]; exact w6)
  rw [List.map_append, List.map_reverse]
  exact vg_back F hlo hl (vx_runSX (As := as.map vg_v) (Ts := vg_ws) (nL := M.2.2.1) (own := M.1.cls) ⟨hx, hb, hml, hown, hts⟩ (hC l hst) cw (vg_pre hSt hR) rfl (by rw [List.length_map]; exact hn) hl.1 rfl (vg_wds st ls m _ hs) hd (by rw [hRm]; exact hc)) kr kx
/-- a call of a method of an object, where the caller may catch -/
theorem vh_callV {MT : Nat → vg_M} {idx mi n ci a b c d f q : Nat} (hE : vi_okE MT M (pc, 3, .invokevirtual idx, [mi, n, ci, a, b, c, d, f]) = true) (ha : h.1 q = ci + 1) (hn : as.length = n) (hs : vi_ws st ≤ 8) (hc : uc + (vg_rm (MT mi)).cells ≤ (vg_rm M).cells ∧ us + (vg_rm (MT mi)).slots ≤ (vg_rm M).slots)
    (hC : vg_C G (MT mi) (.inr (.inr (some q)) :: as) h Q1) (kr : ∀ (v : Option vg_V) (h' : vg_H), Q1 (.inl v) h' → vg_A G M (uc + (vg_rm (MT mi)).cells) (us + (vg_rm (MT mi)).slots) (pc + 3) L (v.toList ++ st) h' Q) (kx : ∀ (k : Nat) (h' : vg_H), Q1 (.inr k) h' → vg_X G M (uc + (vg_rm (MT mi)).cells) (us + (vg_rm (MT mi)).slots) pc L st h' Q k) : vg_A G M uc us pc L (as.reverse ++ .inr (.inr (some q)) :: st) h Q := by
  simp only [vi_okE, Bool.and_eq_true, decide_eq_true_eq] at hE
  obtain ⟨⟨hd, hk⟩, hl⟩ := hE
  simp only [vi_ok1, Bool.and_eq_true, decide_eq_true_eq] at hk
  obtain ⟨⟨⟨⟨-, h2⟩, h3⟩, h4⟩, h5⟩ := hk
  split at h5
  · rename_i r9 heq
    exact vr_callV (vi_cs_ok h2) heq (of_decide_eq_true h5) (vi_w_ok h3) (vi_w_ok h4) ha hn hd hs hc hC kr kx
  · cases h5
theorem vi_okE_mem {MT : Nat → vg_M} {cd : List vi_E} (ho : vi_okC MT M cd = true) {e : vi_E} (he : e ∈ cd) : vi_okE MT M e = true := by
  simp only [vi_okC, Bool.and_eq_true] at ho
  exact List.all_eq_true.mp ho.1 e he
end HC
