/-! ===== the class: covers ===== -/
def oP (S : SS) (z i : Nat) : Nat := (offs S z).getD i 0
theorem offs_len (S : SS) (z : Nat) : (offs S z).length ≤ 24 := by
  unfold offs
  exact Nat.le_trans (List.length_filter_le _ _) (by rw [List.length_range]; omega)
theorem offs_ok {S : SS} {z i : Nat} (h : i < (offs S z).length) : inZ S z (oP S z i) := by
  have e : oP S z i = (offs S z)[i] := by unfold oP; simp [h]
  have hm : (offs S z)[i] ∈ offs S z := List.getElem_mem h
  rw [e]
  unfold offs at hm
  have := List.mem_filter.mp hm
  have h1 := List.mem_range.mp this.1
  have h2 := of_decide_eq_true this.2
  exact ⟨h1, h2.1, h2.2⟩
theorem offs_ex {S : SS} {z p : Nat} (h : inZ S z p) : ∃ i, i < (offs S z).length ∧ oP S z i = p := by
  have hm : p ∈ offs S z := by
    unfold offs
    exact List.mem_filter.mpr ⟨List.mem_range.mpr h.1, decide_eq_true ⟨h.2.1, h.2.2⟩⟩
  obtain ⟨i, h1, h2⟩ := List.getElem_of_mem hm
  exact ⟨i, h1, by unfold oP; simp [h1, h2]⟩
def hrOK (S : SS) : Prop := ∀ p, p < 24 → ¬ S 5 p = 0 → ∃ f t, f ≤ 168 ∧ t ≤ 168 ∧ S 9 p = nI f ∧ S 10 p = nI t
/-- what the table of ends says of product p in the hour of minute e -/
def phE (S : SS) (p fr e : Nat) (E : Int32) : Prop := (mayE S p fr e ∧ E = 0) ∨ (¬ mayE S p fr e ∧ ((∃ y, LB S p fr e y ∧ E = nI (fr + y + lenP S p)) ∨ ((∀ y, ¬ LB S p fr e y) ∧ E = -1)))
theorem phE_hour {S : SS} {p fr e e' : Nat} {E : Int32} (h : (fr + e) / 60 = (fr + e') / 60) (p1 : phE S p fr e E) : phE S p fr e' E := by
  rcases p1 with ⟨a1, a2⟩ | ⟨a1, a2⟩
  · exact Or.inl ⟨(mayE_hour h).mp a1, a2⟩
  · have n' : ¬ mayE S p fr e' := fun z => a1 ((mayE_hour h).mpr z)
    refine Or.inr ⟨n', ?_⟩
    rcases a2 with ⟨y, y1, y2⟩ | ⟨y1, y2⟩
    · exact Or.inl ⟨y, LB_hour h a1 y1, y2⟩
    · exact Or.inr ⟨fun y hy => y1 y (LB_hour h.symm n' hy), y2⟩
/-- what of the covers stands while a table is made -/
def CVm (b : Nat) (A : AA) (S : SS) (h : vg_H) : Prop := (∀ z, z < 4 → h.2.2.1 (b + 17 + 2 * z) 2 = nI (offs S z).length ∧ ∀ i, i < (offs S z).length → h.2.2.2.2.1 (b + 18 + 2 * z) i = some (A 6 (oP S z i))) ∧ ∀ k, k < 509 → ∀ z fr m, z < 4 → fr < 10080 → m ≤ 4320 → h.2.2.1 (b + 7) k = nI (stN z fr m) → PR S z fr m (h.2.2.1 (b + 8) k)
/-- the making of a table for m minutes from minute fr of the week on in zone z -/
def TC (G : vg_G) (b : Nat) (A : AA) (S : SS) (z fw m : Nat) (h0 h : vg_H) : Prop := fr b h0 h ∧ CX G b A S h ∧ CVm b A S h ∧ h.2.2.2.2.1 (b + 3) 5 = some (b + 17 + 2 * z) ∧ h.2.2.1 (b + 3) 6 = nI fw ∧ h.2.2.1 (b + 3) 7 = nI m ∧ h.2.2.1 (b + 3) 8 = nI (stN z fw m)
section CCV
variable {G : vg_G} {b : Nat} {A : AA} {S : SS} {Q : vg_O → vg_H → Prop}
theorem TC.wi {z fr m : Nat} {h0 h : vg_H} (p : TC G b A S z fr m h0 h) {k : Nat} {v : Int32} : TC G b A S z fr m h0 (vg_wi h (b + 6) k v) := by
  obtain ⟨p1, p2, p3, p4, p5, p6, p7⟩ := p
  have ak6 : h.1 (b + 6) = 100 := by have := p2.1; unfold cxK at this; grind
  refine ⟨p1.wi (by omega) _ _, p2.wi (by omega) (by omega), ?_, p4, ?_, ?_, ?_⟩
  · refine ⟨fun z hz => ?_, fun k hk z fr m h1 h2 h3 h4 => ?_⟩
    · rw [wi_row (by omega)]; exact p3.1 z hz
    · rw [wi_row (by omega)] at h4; rw [wi_row (by omega)]; exact p3.2 k hk z fr m h1 h2 h3 h4
  · rw [wi_row (by omega)]; exact p5
  · rw [wi_row (by omega)]; exact p6
  · rw [wi_row (by omega)]; exact p7
theorem TC.wl {z fr m : Nat} {h0 h : vg_H} (p : TC G b A S z fr m h0 h) {a k : Nat} {v : Int64} (ha : a = b + 4 ∨ a = b + 5) : TC G b A S z fr m h0 (vg_wl h a k v) := by
  obtain ⟨p1, p2, p3, p4, p5, p6, p7⟩ := p
  exact ⟨p1.wl (by omega) _ _, p2.wl, p3, p4, p5, p6, p7⟩
/-- the offer at place i -/
theorem TC.off {z fr m : Nat} {h0 h : vg_H} (p : TC G b A S z fr m h0 h) (hz : z < 4) {i : Nat} (hi : i < (offs S z).length) : h.2.2.2.2.1 (b + 18 + 2 * z) i = some (A 6 (oP S z i)) ∧ h.1 (A 6 (oP S z i)) = 6 ∧ h.2.2.1 (A 6 (oP S z i)) 0 = nI (oP S z i) ∧ h.2.2.1 (A 6 (oP S z i)) 1 = S 6 (oP S z i) ∧ h.2.2.1 (A 6 (oP S z i)) 2 = S 7 (oP S z i) ∧ h.2.2.1 (A 6 (oP S z i)) 4 = S 9 (oP S z i) ∧ h.2.2.1 (A 6 (oP S z i)) 5 = S 10 (oP S z i) := by
  have ok := offs_ok hi
  obtain ⟨a1, a2, a3, a4, a5, a6, a7, a8, a9, a10⟩ := (p.2.1.2.2.2.1 (oP S z i) ok.1).2 ok.2.1
  exact ⟨(p.2.2.1.1 z hz).2 i hi, a2, a5, a6, a7, a9, a10⟩
set_option maxRecDepth 100000 in
/-- endFromOutsideHours -/
theorem c_83 {h : vg_H} {a p fr e : Nat} (hk : h.1 a = 6) (h2 : h.2.2.1 a 2 = S 7 p) (h4 : h.2.2.1 a 4 = S 9 p) (h5 : h.2.2.1 a 5 = S 10 p) (hp : p < 24) (hs : ¬ S 5 p = 0) (hr : hrOK S) (hl : S 7 p = nI (lenP S p)) (hlb : lenP S p ≤ 4320) (hf : fr < 10080) (he : e ≤ 4320) (hn : ¬ mayE S p fr e) (hQ : ∀ E, phE S p fr e E → Q (.inl (some (.inl E))) h) : vg_C G (MT 83) [.inr (.inr (some a)), .inl (nI (fr + e)), .inl (nI fr)] h Q := by
  obtain ⟨f, t, f1, t1, f2, t2⟩ := hr p hp hs
  rw [f2] at h4
  rw [t2] at h5
  rw [hl] at h2
  have mm : ∀ y, mayE S p fr y ↔ mayN f t ((fr + y) % 10080 / 60) := fun y => by
    unfold mayE; rw [f2, t2]; exact mayB_n f1 t1 (by omega)
  have nM := fun q => hn ((mm e).mpr q)
  have j19 : ¬ (f = 168 ∧ t = 0) → vg_A G (MT 83) 0 0 19 [some (.inr (.inr (some a))), some (.inl (nI (fr + e))), some (.inl (nI fr)), none, none] [] h Q := by
    intro hx
    obtain ⟨o1, o2⟩ := out_hours f1 t1 (show fr + e < 20000 by omega) nM hx
    have xb : (fr + e + 10080 + 1 - 60 * t) % 10080 < 10080 := Nat.mod_lt _ (by omega)
    generalize hX : (fr + e + 10080 + 1 - 60 * t) % 10080 = X at *
    refine vi_run ok_83 [] 60 ?_
    rw [at_83_19]
    simp only [↓reduceIte, vi_go_c, ↓v1_iadd, ↓v1_isub, ↓v1_imul, ↓v1_iand, ↓v1_idiv, ↓v1_irem, ↓v1_ineg, ↓v1_ladd, ↓v1_lsub, ↓v1_land, ↓v1_lcmp, ↓v1_lshl, ↓v1_lshr, ↓v1_i2l, ↓v1_l2i, ↓v1_iconst_0, ↓v1_iconst_m, ↓v1_bipush, ↓v1_sipush, ↓v1_ldc, ↓v1_ldc_w, ↓v1_lconst, ↓v1_ldc2_w, ↓v1_aconst_null, ↓v1_iload, ↓v1_iload_n, ↓v1_lload, ↓v1_lload_n, ↓v1_aload, ↓v1_aload_n, ↓v1_istore, ↓v1_istore_n, ↓v1_lstore, ↓v1_lstore_n, ↓v1_astore, ↓v1_astore_n, ↓v1_iinc, ↓v1_dup, ↓v1_dup2, ↓v1_ifCond_eq, ↓v1_ifCond_ne, ↓v1_ifCond_lt, ↓v1_ifCond_ge, ↓v1_ifCond_gt, ↓v1_ifCond_le, ↓v1_if_icmp_eq, ↓v1_if_icmp_ne, ↓v1_if_icmp_lt, ↓v1_if_icmp_ge, ↓v1_if_icmp_gt, ↓v1_if_icmp_le, ↓v1_if_acmp_ne, ↓v1_ifnull, ↓v1_ifnonnull, ↓v1_goto, ↓v1_tableswitch_0, ↓v1_return_, ↓v1_ireturn, ↓v1_lreturn, ↓v1_areturn, ↓v1_getfield_0, ↓v1_putfield_0, ↓v1_getstatic, ↓v1_iaload, ↓v1_laload, ↓v1_baload, ↓v1_aaload, ↓v1_iastore, ↓v1_lastore, ↓v1_bastore, ↓v1_aastore_0, ↓v1_arraylength, ↓v1_new_0, ↓v1_newarray, ↓v1_anewarray, ↓v1_invokestatic_0, ↓v1_invokestatic_1, ↓v1_invokestatic_2a, ↓v1_invokevirtual_0, ↓v1_invokespecial_0, ↓v1_invokespecial_1a, ↓v1_invokespecial_1b, ↓vi_ii_e, ↓vi_i_e, ↓vi_jj_e, ↓vi_j_e, ↓vi_ij_e, ↓vi_r_e, ↓vi_rr_e, ↓vi_o_e, ↓vi_ir_e, ↓vi_iir_e, ↓vi_jir_e, ↓vi_rir_e, ↓vi_pop_z, ↓vi_pop_s, ↓vi_sw_n, ↓vi_sw_c, ↓vi_li_z, ↓vi_li_s, ↓vi_ll_z, ↓vi_ll_s, ↓vi_lr_z, ↓vi_lr_s, ↓vi_ret_l, ↓vi_ret_r, vi_sv, vg_set1, vg_set2, vg_lo, List.headD, List.contains_nil, List.contains_cons, Bool.or_false, Bool.false_eq_true, if_false, if_true, Nat.reduceAdd, Nat.reduceBEq, List.nil_append, List.cons_append, List.append_nil, Option.toList, Int32.reduceOfNat, Int64.reduceOfNat, reduceCtorEq, Nat.reduceLeDiff, Nat.le_refl, Nat.zero_le, true_and, and_true, false_or, or_false, or_true, true_or, and_self, not_true_eq_false, not_false_eq_true, forall_const, false_implies, true_implies, Sum.inl.injEq, Sum.inr.injEq, Option.some.injEq, eq_self, oI_1, oI_m, oI_5, oI_L, vi_ws_nil, vi_ws_I, vi_ws_J, vi_ws_R, wi_k, wi_n, wi_r, wi_l, wr_k, wr_n, wr_i, wr_l, wl_k, wl_n, wl_i, wl_r, Nat.reduceSub, Nat.reduceMul, cd_83_0, cd_83_19, cd_83_54, cd_83_61, at_83_19, at_83_54, at_83_61, mc_83, ms_83, mr_83, mh_83, ml_83, hk, h2, h5]
    intro v1 e1 v2 e2 v3 e3 v4 e4
    rw [show (60 : Int32) = nI 60 from rfl, nI_m] at e1
    subst e1
    rw [show (10080 : Int32) = nI 10080 from rfl, nI_add] at e3
    have e4' : v4 = nI (fr + e + 10080 + 1 - 60 * t) := by
      rw [e4, e3, e2]
      have : nI (fr + e + 10080) - (nI (t * 60) - 1) = nI (fr + e + 10080) + 1 - nI (t * 60) := by
        rw [Int32.sub_eq_add_neg, Int32.neg_sub, Int32.sub_eq_add_neg 1, ← Int32.add_assoc, ← Int32.sub_eq_add_neg]
      rw [this, nI_1, nI_subN (by omega)]
      congr 1
      omega
    subst e4'
    refine ⟨by decide, fun v5 e5 v6 e6 => ?_⟩
    rw [show (10080 : Int32) = nI 10080 from rfl, nI_rem (by omega) (by omega), hX] at e5
    subst e5
    rcases Nat.lt_or_ge (fr + e) X with q | q
    · have lt : v6 < 0 := by rw [e6]; exact nI_neg q (by omega)
      refine ⟨fun z => absurd (Int32.le_trans (nI_pos' (by omega)) z) (Int32.not_le.mpr lt), fun _ => hQ _ (Or.inr ⟨hn, Or.inr ⟨fun y hy => ?_, rfl⟩⟩)⟩
      have := hy.1
      exact o1 (e - y) (by omega) (by omega) (by rw [show fr + e - (e - y) = fr + y by omega]; exact (mm y).mp hy.2.1)
    · rw [nI_subN q] at e6
      subst e6
      rw [nI_leI (by omega) (by omega)]
      refine ⟨fun z v7 e7 => ?_, fun z => hQ _ (Or.inr ⟨hn, Or.inr ⟨fun y hy => ?_, rfl⟩⟩)⟩
      · rw [nI_add] at e7
        subst e7
        refine hQ _ (Or.inr ⟨hn, Or.inl ⟨fr + e - X - fr, ⟨by omega, ?_, fun j j1 j2 hj => ?_⟩, by rw [show fr + (fr + e - X - fr) = fr + e - X by omega]⟩⟩)
        · rw [mm, show fr + (fr + e - X - fr) = fr + e - X by omega]; exact o2 q
        · exact o1 (e - j) (by omega) (by omega) (by rw [show fr + e - (e - j) = fr + j by omega]; exact (mm j).mp hj)
      · have := hy.1
        exact o1 (e - y) (by omega) (by omega) (by rw [show fr + e - (e - y) = fr + y by omega]; exact (mm y).mp hy.2.1)
  by_cases a1 : f = 168
  · by_cases a2 : t = 0
    · subst a1; subst a2
      have e1 : (nI 168 = 168) = True := eq_true rfl
      have e2 : (nI 0 = 0) = True := eq_true rfl
      refine vg_C_of rfl (by decide +kernel) (Nat.le_of_ble_eq_true rfl) ?_
      refine vi_run ok_83 [19] 40 ?_
      rw [at_83_0]
      simp only [vg_ent, vg_en, List.length_cons, List.length_nil, Nat.reduceAdd, Nat.reduceSub, List.replicate, List.append_nil, List.nil_append, List.cons_append, mn_83]
      simp only [↓reduceIte, vi_go_c, ↓v1_iadd, ↓v1_isub, ↓v1_imul, ↓v1_iand, ↓v1_idiv, ↓v1_irem, ↓v1_ineg, ↓v1_ladd, ↓v1_lsub, ↓v1_land, ↓v1_lcmp, ↓v1_lshl, ↓v1_lshr, ↓v1_i2l, ↓v1_l2i, ↓v1_iconst_0, ↓v1_iconst_m, ↓v1_bipush, ↓v1_sipush, ↓v1_ldc, ↓v1_ldc_w, ↓v1_lconst, ↓v1_ldc2_w, ↓v1_aconst_null, ↓v1_iload, ↓v1_iload_n, ↓v1_lload, ↓v1_lload_n, ↓v1_aload, ↓v1_aload_n, ↓v1_istore, ↓v1_istore_n, ↓v1_lstore, ↓v1_lstore_n, ↓v1_astore, ↓v1_astore_n, ↓v1_iinc, ↓v1_dup, ↓v1_dup2, ↓v1_ifCond_eq, ↓v1_ifCond_ne, ↓v1_ifCond_lt, ↓v1_ifCond_ge, ↓v1_ifCond_gt, ↓v1_ifCond_le, ↓v1_if_icmp_eq, ↓v1_if_icmp_ne, ↓v1_if_icmp_lt, ↓v1_if_icmp_ge, ↓v1_if_icmp_gt, ↓v1_if_icmp_le, ↓v1_if_acmp_ne, ↓v1_ifnull, ↓v1_ifnonnull, ↓v1_goto, ↓v1_tableswitch_0, ↓v1_return_, ↓v1_ireturn, ↓v1_lreturn, ↓v1_areturn, ↓v1_getfield_0, ↓v1_putfield_0, ↓v1_getstatic, ↓v1_iaload, ↓v1_laload, ↓v1_baload, ↓v1_aaload, ↓v1_iastore, ↓v1_lastore, ↓v1_bastore, ↓v1_aastore_0, ↓v1_arraylength, ↓v1_new_0, ↓v1_newarray, ↓v1_anewarray, ↓v1_invokestatic_0, ↓v1_invokestatic_1, ↓v1_invokestatic_2a, ↓v1_invokevirtual_0, ↓v1_invokespecial_0, ↓v1_invokespecial_1a, ↓v1_invokespecial_1b, ↓vi_ii_e, ↓vi_i_e, ↓vi_jj_e, ↓vi_j_e, ↓vi_ij_e, ↓vi_r_e, ↓vi_rr_e, ↓vi_o_e, ↓vi_ir_e, ↓vi_iir_e, ↓vi_jir_e, ↓vi_rir_e, ↓vi_pop_z, ↓vi_pop_s, ↓vi_sw_n, ↓vi_sw_c, ↓vi_li_z, ↓vi_li_s, ↓vi_ll_z, ↓vi_ll_s, ↓vi_lr_z, ↓vi_lr_s, ↓vi_ret_l, ↓vi_ret_r, vi_sv, vg_set1, vg_set2, vg_lo, List.headD, List.contains_nil, List.contains_cons, Bool.or_false, Bool.false_eq_true, if_false, if_true, Nat.reduceAdd, Nat.reduceBEq, List.nil_append, List.cons_append, List.append_nil, Option.toList, Int32.reduceOfNat, Int64.reduceOfNat, reduceCtorEq, Nat.reduceLeDiff, Nat.le_refl, Nat.zero_le, true_and, and_true, false_or, or_false, or_true, true_or, and_self, not_true_eq_false, not_false_eq_true, forall_const, false_implies, true_implies, Sum.inl.injEq, Sum.inr.injEq, Option.some.injEq, eq_self, oI_1, oI_m, oI_5, oI_L, vi_ws_nil, vi_ws_I, vi_ws_J, vi_ws_R, wi_k, wi_n, wi_r, wi_l, wr_k, wr_n, wr_i, wr_l, wl_k, wl_n, wl_i, wl_r, Nat.reduceSub, Nat.reduceMul, cd_83_0, cd_83_19, cd_83_54, cd_83_61, at_83_19, at_83_54, at_83_61, mc_83, ms_83, mr_83, mh_83, ml_83, hk, h4, h5, e1, e2]
      refine hQ _ (Or.inr ⟨hn, Or.inr ⟨fun y hy => no_hours _ (by omega) ((mm y).mp hy.2.1), rfl⟩⟩)
    · subst a1
      have e1 : (nI 168 = 168) = True := eq_true rfl
      have e2 : ¬ nI t = 0 := nI_ne0 (by omega) (by omega)
      refine vg_C_of rfl (by decide +kernel) (Nat.le_of_ble_eq_true rfl) ?_
      refine vi_run ok_83 [19] 40 ?_
      rw [at_83_0]
      simp only [vg_ent, vg_en, List.length_cons, List.length_nil, Nat.reduceAdd, Nat.reduceSub, List.replicate, List.append_nil, List.nil_append, List.cons_append, mn_83]
      simp only [↓reduceIte, vi_go_c, ↓v1_iadd, ↓v1_isub, ↓v1_imul, ↓v1_iand, ↓v1_idiv, ↓v1_irem, ↓v1_ineg, ↓v1_ladd, ↓v1_lsub, ↓v1_land, ↓v1_lcmp, ↓v1_lshl, ↓v1_lshr, ↓v1_i2l, ↓v1_l2i, ↓v1_iconst_0, ↓v1_iconst_m, ↓v1_bipush, ↓v1_sipush, ↓v1_ldc, ↓v1_ldc_w, ↓v1_lconst, ↓v1_ldc2_w, ↓v1_aconst_null, ↓v1_iload, ↓v1_iload_n, ↓v1_lload, ↓v1_lload_n, ↓v1_aload, ↓v1_aload_n, ↓v1_istore, ↓v1_istore_n, ↓v1_lstore, ↓v1_lstore_n, ↓v1_astore, ↓v1_astore_n, ↓v1_iinc, ↓v1_dup, ↓v1_dup2, ↓v1_ifCond_eq, ↓v1_ifCond_ne, ↓v1_ifCond_lt, ↓v1_ifCond_ge, ↓v1_ifCond_gt, ↓v1_ifCond_le, ↓v1_if_icmp_eq, ↓v1_if_icmp_ne, ↓v1_if_icmp_lt, ↓v1_if_icmp_ge, ↓v1_if_icmp_gt, ↓v1_if_icmp_le, ↓v1_if_acmp_ne, ↓v1_ifnull, ↓v1_ifnonnull, ↓v1_goto, ↓v1_tableswitch_0, ↓v1_return_, ↓v1_ireturn, ↓v1_lreturn, ↓v1_areturn, ↓v1_getfield_0, ↓v1_putfield_0, ↓v1_getstatic, ↓v1_iaload, ↓v1_laload, ↓v1_baload, ↓v1_aaload, ↓v1_iastore, ↓v1_lastore, ↓v1_bastore, ↓v1_aastore_0, ↓v1_arraylength, ↓v1_new_0, ↓v1_newarray, ↓v1_anewarray, ↓v1_invokestatic_0, ↓v1_invokestatic_1, ↓v1_invokestatic_2a, ↓v1_invokevirtual_0, ↓v1_invokespecial_0, ↓v1_invokespecial_1a, ↓v1_invokespecial_1b, ↓vi_ii_e, ↓vi_i_e, ↓vi_jj_e, ↓vi_j_e, ↓vi_ij_e, ↓vi_r_e, ↓vi_rr_e, ↓vi_o_e, ↓vi_ir_e, ↓vi_iir_e, ↓vi_jir_e, ↓vi_rir_e, ↓vi_pop_z, ↓vi_pop_s, ↓vi_sw_n, ↓vi_sw_c, ↓vi_li_z, ↓vi_li_s, ↓vi_ll_z, ↓vi_ll_s, ↓vi_lr_z, ↓vi_lr_s, ↓vi_ret_l, ↓vi_ret_r, vi_sv, vg_set1, vg_set2, vg_lo, List.headD, List.contains_nil, List.contains_cons, Bool.or_false, Bool.false_eq_true, if_false, if_true, Nat.reduceAdd, Nat.reduceBEq, List.nil_append, List.cons_append, List.append_nil, Option.toList, Int32.reduceOfNat, Int64.reduceOfNat, reduceCtorEq, Nat.reduceLeDiff, Nat.le_refl, Nat.zero_le, true_and, and_true, false_or, or_false, or_true, true_or, and_self, not_true_eq_false, not_false_eq_true, forall_const, false_implies, true_implies, Sum.inl.injEq, Sum.inr.injEq, Option.some.injEq, eq_self, oI_1, oI_m, oI_5, oI_L, vi_ws_nil, vi_ws_I, vi_ws_J, vi_ws_R, wi_k, wi_n, wi_r, wi_l, wr_k, wr_n, wr_i, wr_l, wl_k, wl_n, wl_i, wl_r, Nat.reduceSub, Nat.reduceMul, cd_83_0, cd_83_19, cd_83_54, cd_83_61, at_83_19, at_83_54, at_83_61, mc_83, ms_83, mr_83, mh_83, ml_83, hk, h4, h5, e1, e2]
      exact j19 (fun z => a2 z.2)
  · have e1 : ¬ nI f = 168 := fun z => a1 ((nI_eq (by omega) (by omega)).mp z)
    refine vg_C_of rfl (by decide +kernel) (Nat.le_of_ble_eq_true rfl) ?_
    refine vi_run ok_83 [19] 40 ?_
    rw [at_83_0]
    simp only [vg_ent, vg_en, List.length_cons, List.length_nil, Nat.reduceAdd, Nat.reduceSub, List.replicate, List.append_nil, List.nil_append, List.cons_append, mn_83]
    simp only [↓reduceIte, vi_go_c, ↓v1_iadd, ↓v1_isub, ↓v1_imul, ↓v1_iand, ↓v1_idiv, ↓v1_irem, ↓v1_ineg, ↓v1_ladd, ↓v1_lsub, ↓v1_land, ↓v1_lcmp, ↓v1_lshl, ↓v1_lshr, ↓v1_i2l, ↓v1_l2i, ↓v1_iconst_0, ↓v1_iconst_m, ↓v1_bipush, ↓v1_sipush, ↓v1_ldc, ↓v1_ldc_w, ↓v1_lconst, ↓v1_ldc2_w, ↓v1_aconst_null, ↓v1_iload, ↓v1_iload_n, ↓v1_lload, ↓v1_lload_n, ↓v1_aload, ↓v1_aload_n, ↓v1_istore, ↓v1_istore_n, ↓v1_lstore, ↓v1_lstore_n, ↓v1_astore, ↓v1_astore_n, ↓v1_iinc, ↓v1_dup, ↓v1_dup2, ↓v1_ifCond_eq, ↓v1_ifCond_ne, ↓v1_ifCond_lt, ↓v1_ifCond_ge, ↓v1_ifCond_gt, ↓v1_ifCond_le, ↓v1_if_icmp_eq, ↓v1_if_icmp_ne, ↓v1_if_icmp_lt, ↓v1_if_icmp_ge, ↓v1_if_icmp_gt, ↓v1_if_icmp_le, ↓v1_if_acmp_ne, ↓v1_ifnull, ↓v1_ifnonnull, ↓v1_goto, ↓v1_tableswitch_0, ↓v1_return_, ↓v1_ireturn, ↓v1_lreturn, ↓v1_areturn, ↓v1_getfield_0, ↓v1_putfield_0, ↓v1_getstatic, ↓v1_iaload, ↓v1_laload, ↓v1_baload, ↓v1_aaload, ↓v1_iastore, ↓v1_lastore, ↓v1_bastore, ↓v1_aastore_0, ↓v1_arraylength, ↓v1_new_0, ↓v1_newarray, ↓v1_anewarray, ↓v1_invokestatic_0, ↓v1_invokestatic_1, ↓v1_invokestatic_2a, ↓v1_invokevirtual_0, ↓v1_invokespecial_0, ↓v1_invokespecial_1a, ↓v1_invokespecial_1b, ↓vi_ii_e, ↓vi_i_e, ↓vi_jj_e, ↓vi_j_e, ↓vi_ij_e, ↓vi_r_e, ↓vi_rr_e, ↓vi_o_e, ↓vi_ir_e, ↓vi_iir_e, ↓vi_jir_e, ↓vi_rir_e, ↓vi_pop_z, ↓vi_pop_s, ↓vi_sw_n, ↓vi_sw_c, ↓vi_li_z, ↓vi_li_s, ↓vi_ll_z, ↓vi_ll_s, ↓vi_lr_z, ↓vi_lr_s, ↓vi_ret_l, ↓vi_ret_r, vi_sv, vg_set1, vg_set2, vg_lo, List.headD, List.contains_nil, List.contains_cons, Bool.or_false, Bool.false_eq_true, if_false, if_true, Nat.reduceAdd, Nat.reduceBEq, List.nil_append, List.cons_append, List.append_nil, Option.toList, Int32.reduceOfNat, Int64.reduceOfNat, reduceCtorEq, Nat.reduceLeDiff, Nat.le_refl, Nat.zero_le, true_and, and_true, false_or, or_false, or_true, true_or, and_self, not_true_eq_false, not_false_eq_true, forall_const, false_implies, true_implies, Sum.inl.injEq, Sum.inr.injEq, Option.some.injEq, eq_self, oI_1, oI_m, oI_5, oI_L, vi_ws_nil, vi_ws_I, vi_ws_J, vi_ws_R, wi_k, wi_n, wi_r, wi_l, wr_k, wr_n, wr_i, wr_l, wl_k, wl_n, wl_i, wl_r, Nat.reduceSub, Nat.reduceMul, cd_83_0, cd_83_19, cd_83_54, cd_83_61, at_83_19, at_83_54, at_83_61, mc_83, ms_83, mr_83, mh_83, ml_83, hk, h4, e1]
    exact j19 (fun z => a1 z.1)
/-- the table of ends for the hour of minute e -/
def PH (S : SS) (b z fw e n : Nat) (h : vg_H) : Prop := ∀ i, i < n → phE S (oP S z i) fw e (h.2.2.1 (b + 6) i)
set_option maxRecDepth 100000 in
theorem l_71 {z w m e : Nat} {h0 : vg_H} (hT : Tar S) (hr : hrOK S) (hz : z < 4) (hw : w < 10080) (he : e < 4320) (hQ : ∀ h', TC G b A S z w m h0 h' → PH S b z w e (offs S z).length h' → h'.2.2.2.1 = h0.2.2.2.1 → Q (.inl none) h') : ∀ (n i : Nat) (h : vg_H), i + n = (offs S z).length → TC G b A S z w m h0 h → PH S b z w e i h → h.2.2.2.1 = h0.2.2.2.1 →
    vg_A G (MT 71) 0 0 16 [some (.inr (.inr (some (b + 3)))), some (.inl (nI e)), some (.inl (nI ((w + e) / 60 % 168))), some (.inl (nI i)), none] [] h Q := by
  have ol := offs_len S z
  intro n
  induction n with
  | zero =>
    intro i h hi hC' hP hL
    have hC := hC'.2.1
    obtain ⟨xk, xr0, xr1, xr2, xr3, xr4, xr5, xr6, xr7, xr8, ak1, ak2, ak3, ak4, ak5, ak6, ak7, ak8, ak9, ak10, ak11, ak12, ak13, ak14, ak15, ak16, an1, an2, an4, an5, an6, an7, an8, an9, an10, an11, an12, an14, an15, an16, vr0, vr1, vr2, vr3, vr4, hr0, hr1, xz⟩ := hC.1
    obtain ⟨xi9, xi10, xi11, xi12⟩ := hC.2.1
    have c5 := hC'.2.2.2.1
    have zk := (hC.2.2.1 z hz).2.1
    have cn := (hC'.2.2.1.1 z hz).1
    have e1 : nI (offs S z).length ≤ nI i := nI_le (by omega) (by omega)
    refine vi_run ok_71 [27] 40 ?_
    rw [at_71_16]
    simp only [↓reduceIte, vi_go_c, ↓v1_iadd, ↓v1_isub, ↓v1_imul, ↓v1_iand, ↓v1_idiv, ↓v1_irem, ↓v1_ineg, ↓v1_ladd, ↓v1_lsub, ↓v1_land, ↓v1_lcmp, ↓v1_lshl, ↓v1_lshr, ↓v1_i2l, ↓v1_l2i, ↓v1_iconst_0, ↓v1_iconst_m, ↓v1_bipush, ↓v1_sipush, ↓v1_ldc, ↓v1_ldc_w, ↓v1_lconst, ↓v1_ldc2_w, ↓v1_aconst_null, ↓v1_iload, ↓v1_iload_n, ↓v1_lload, ↓v1_lload_n, ↓v1_aload, ↓v1_aload_n, ↓v1_istore, ↓v1_istore_n, ↓v1_lstore, ↓v1_lstore_n, ↓v1_astore, ↓v1_astore_n, ↓v1_iinc, ↓v1_dup, ↓v1_dup2, ↓v1_ifCond_eq, ↓v1_ifCond_ne, ↓v1_ifCond_lt, ↓v1_ifCond_ge, ↓v1_ifCond_gt, ↓v1_ifCond_le, ↓v1_if_icmp_eq, ↓v1_if_icmp_ne, ↓v1_if_icmp_lt, ↓v1_if_icmp_ge, ↓v1_if_icmp_gt, ↓v1_if_icmp_le, ↓v1_if_acmp_ne, ↓v1_ifnull, ↓v1_ifnonnull, ↓v1_goto, ↓v1_tableswitch_0, ↓v1_return_, ↓v1_ireturn, ↓v1_lreturn, ↓v1_areturn, ↓v1_getfield_0, ↓v1_putfield_0, ↓v1_getstatic, ↓v1_iaload, ↓v1_laload, ↓v1_baload, ↓v1_aaload, ↓v1_iastore, ↓v1_lastore, ↓v1_bastore, ↓v1_aastore_0, ↓v1_arraylength, ↓v1_new_0, ↓v1_newarray, ↓v1_anewarray, ↓v1_invokestatic_0, ↓v1_invokestatic_1, ↓v1_invokestatic_2a, ↓v1_invokevirtual_0, ↓v1_invokespecial_0, ↓v1_invokespecial_1a, ↓v1_invokespecial_1b, ↓vi_ii_e, ↓vi_i_e, ↓vi_jj_e, ↓vi_j_e, ↓vi_ij_e, ↓vi_r_e, ↓vi_rr_e, ↓vi_o_e, ↓vi_ir_e, ↓vi_iir_e, ↓vi_jir_e, ↓vi_rir_e, ↓vi_pop_z, ↓vi_pop_s, ↓vi_sw_n, ↓vi_sw_c, ↓vi_li_z, ↓vi_li_s, ↓vi_ll_z, ↓vi_ll_s, ↓vi_lr_z, ↓vi_lr_s, ↓vi_ret_l, ↓vi_ret_r, vi_sv, vg_set1, vg_set2, vg_lo, List.headD, List.contains_nil, List.contains_cons, Bool.or_false, Bool.false_eq_true, if_false, if_true, Nat.reduceAdd, Nat.reduceBEq, List.nil_append, List.cons_append, List.append_nil, Option.toList, Int32.reduceOfNat, Int64.reduceOfNat, reduceCtorEq, Nat.reduceLeDiff, Nat.le_refl, Nat.zero_le, true_and, and_true, false_or, or_false, or_true, true_or, and_self, not_true_eq_false, not_false_eq_true, forall_const, false_implies, true_implies, Sum.inl.injEq, Sum.inr.injEq, Option.some.injEq, eq_self, oI_1, oI_m, oI_5, oI_L, vi_ws_nil, vi_ws_I, vi_ws_J, vi_ws_R, wi_k, wi_n, wi_r, wi_l, wr_k, wr_n, wr_i, wr_l, wl_k, wl_n, wl_i, wl_r, Nat.reduceSub, Nat.reduceMul, cd_71_0, cd_71_16, cd_71_56, cd_71_71, cd_71_78, at_71_16, at_71_56, at_71_71, at_71_78, mc_71, ms_71, mr_71, mh_71, ml_71, mc_83, ms_83, mc_85, ms_85, xk, xr0, xr1, xr2, xr3, xr4, xr5, xr6, xr7, xr8, ak1, ak2, ak3, ak4, ak5, ak6, ak7, ak8, ak9, ak10, ak11, ak12, ak13, ak14, ak15, ak16, an1, an2, an4, an5, an6, an7, an8, an9, an10, an11, an12, an14, an15, an16, vr0, vr1, vr2, vr3, vr4, hr0, hr1, xi9, xi10, xi11, xi12, c5, zk, cn, e1]
    exact hQ h hC' (by rw [show (offs S z).length = i by omega]; exact hP) hL
  | succ n ih =>
    intro i h hi hC' hP hL
    have hC := hC'.2.1
    obtain ⟨xk, xr0, xr1, xr2, xr3, xr4, xr5, xr6, xr7, xr8, ak1, ak2, ak3, ak4, ak5, ak6, ak7, ak8, ak9, ak10, ak11, ak12, ak13, ak14, ak15, ak16, an1, an2, an4, an5, an6, an7, an8, an9, an10, an11, an12, an14, an15, an16, vr0, vr1, vr2, vr3, vr4, hr0, hr1, xz⟩ := hC.1
    obtain ⟨xi9, xi10, xi11, xi12⟩ := hC.2.1
    have c5 := hC'.2.2.2.1
    have c6 := hC'.2.2.2.2.1
    obtain ⟨z1, zk, z3, z4, z5, z6, z7, z8⟩ := hC.2.2.1 z hz
    have cn := (hC'.2.2.1.1 z hz).1
    have e1 : ¬ nI (offs S z).length ≤ nI i := nI_ge (by omega) (by omega)
    obtain ⟨o1, o2, o3, o4, o5, o6, o7⟩ := hC'.off hz (show i < _ by omega)
    have ok := offs_ok (show i < (offs S z).length by omega)
    have y1 := nI_clamp (show i < 2 ^ 31 by omega)
    have y2 : vp_in (nI i) 24 := vp_nI (by omega) (by omega)
    have hh : (w + e) / 60 % 168 = (w + e) % 10080 / 60 := by omega
    have nx : ∀ E, phE S (oP S z i) w e E → vg_A G (MT 71) 0 0 71 [some (.inr (.inr (some (b + 3)))), some (.inl (nI e)), some (.inl (nI ((w + e) / 60 % 168))), some (.inl (nI i)), some (.inr (.inr (some (A 6 (oP S z i)))))] [.inl E, .inl (nI i), .inr (.inr (some (b + 6)))] h Q := by
      intro E hE
      refine vi_run ok_71 [16] 40 ?_
      rw [at_71_71]
      simp only [↓reduceIte, vi_go_c, ↓v1_iadd, ↓v1_isub, ↓v1_imul, ↓v1_iand, ↓v1_idiv, ↓v1_irem, ↓v1_ineg, ↓v1_ladd, ↓v1_lsub, ↓v1_land, ↓v1_lcmp, ↓v1_lshl, ↓v1_lshr, ↓v1_i2l, ↓v1_l2i, ↓v1_iconst_0, ↓v1_iconst_m, ↓v1_bipush, ↓v1_sipush, ↓v1_ldc, ↓v1_ldc_w, ↓v1_lconst, ↓v1_ldc2_w, ↓v1_aconst_null, ↓v1_iload, ↓v1_iload_n, ↓v1_lload, ↓v1_lload_n, ↓v1_aload, ↓v1_aload_n, ↓v1_istore, ↓v1_istore_n, ↓v1_lstore, ↓v1_lstore_n, ↓v1_astore, ↓v1_astore_n, ↓v1_iinc, ↓v1_dup, ↓v1_dup2, ↓v1_ifCond_eq, ↓v1_ifCond_ne, ↓v1_ifCond_lt, ↓v1_ifCond_ge, ↓v1_ifCond_gt, ↓v1_ifCond_le, ↓v1_if_icmp_eq, ↓v1_if_icmp_ne, ↓v1_if_icmp_lt, ↓v1_if_icmp_ge, ↓v1_if_icmp_gt, ↓v1_if_icmp_le, ↓v1_if_acmp_ne, ↓v1_ifnull, ↓v1_ifnonnull, ↓v1_goto, ↓v1_tableswitch_0, ↓v1_return_, ↓v1_ireturn, ↓v1_lreturn, ↓v1_areturn, ↓v1_getfield_0, ↓v1_putfield_0, ↓v1_getstatic, ↓v1_iaload, ↓v1_laload, ↓v1_baload, ↓v1_aaload, ↓v1_iastore, ↓v1_lastore, ↓v1_bastore, ↓v1_aastore_0, ↓v1_arraylength, ↓v1_new_0, ↓v1_newarray, ↓v1_anewarray, ↓v1_invokestatic_0, ↓v1_invokestatic_1, ↓v1_invokestatic_2a, ↓v1_invokevirtual_0, ↓v1_invokespecial_0, ↓v1_invokespecial_1a, ↓v1_invokespecial_1b, ↓vi_ii_e, ↓vi_i_e, ↓vi_jj_e, ↓vi_j_e, ↓vi_ij_e, ↓vi_r_e, ↓vi_rr_e, ↓vi_o_e, ↓vi_ir_e, ↓vi_iir_e, ↓vi_jir_e, ↓vi_rir_e, ↓vi_pop_z, ↓vi_pop_s, ↓vi_sw_n, ↓vi_sw_c, ↓vi_li_z, ↓vi_li_s, ↓vi_ll_z, ↓vi_ll_s, ↓vi_lr_z, ↓vi_lr_s, ↓vi_ret_l, ↓vi_ret_r, vi_sv, vg_set1, vg_set2, vg_lo, List.headD, List.contains_nil, List.contains_cons, Bool.or_false, Bool.false_eq_true, if_false, if_true, Nat.reduceAdd, Nat.reduceBEq, List.nil_append, List.cons_append, List.append_nil, Option.toList, Int32.reduceOfNat, Int64.reduceOfNat, reduceCtorEq, Nat.reduceLeDiff, Nat.le_refl, Nat.zero_le, true_and, and_true, false_or, or_false, or_true, true_or, and_self, not_true_eq_false, not_false_eq_true, forall_const, false_implies, true_implies, Sum.inl.injEq, Sum.inr.injEq, Option.some.injEq, eq_self, oI_1, oI_m, oI_5, oI_L, vi_ws_nil, vi_ws_I, vi_ws_J, vi_ws_R, wi_k, wi_n, wi_r, wi_l, wr_k, wr_n, wr_i, wr_l, wl_k, wl_n, wl_i, wl_r, Nat.reduceSub, Nat.reduceMul, cd_71_0, cd_71_16, cd_71_56, cd_71_71, cd_71_78, at_71_16, at_71_56, at_71_71, at_71_78, mc_71, ms_71, mr_71, mh_71, ml_71, mc_83, ms_83, mc_85, ms_85, xk, xr0, xr1, xr2, xr3, xr4, xr5, xr6, xr7, xr8, ak1, ak2, ak3, ak4, ak5, ak6, ak7, ak8, ak9, ak10, ak11, ak12, ak13, ak14, ak15, ak16, an1, an2, an4, an5, an6, an7, an8, an9, an10, an11, an12, an14, an15, an16, vr0, vr1, vr2, vr3, vr4, hr0, hr1, xi9, xi10, xi11, xi12, y1, y2]
      intro v ev
      rw [← nI_succ] at ev; subst ev
      refine vr_less (vr_none 4 rfl) (ih (i + 1) _ (by omega) hC'.wi (fun j hj => ?_) hL)
      rw [wi_i]
      by_cases q : j = i
      · subst q; rw [if_pos ⟨rfl, rfl⟩]; exact hE
      · rw [if_neg (fun y => q y.2)]; exact hP j (by omega)
    refine vi_run ok_71 [71] 60 ?_
    rw [at_71_16]
    simp only [↓reduceIte, vi_go_c, ↓v1_iadd, ↓v1_isub, ↓v1_imul, ↓v1_iand, ↓v1_idiv, ↓v1_irem, ↓v1_ineg, ↓v1_ladd, ↓v1_lsub, ↓v1_land, ↓v1_lcmp, ↓v1_lshl, ↓v1_lshr, ↓v1_i2l, ↓v1_l2i, ↓v1_iconst_0, ↓v1_iconst_m, ↓v1_bipush, ↓v1_sipush, ↓v1_ldc, ↓v1_ldc_w, ↓v1_lconst, ↓v1_ldc2_w, ↓v1_aconst_null, ↓v1_iload, ↓v1_iload_n, ↓v1_lload, ↓v1_lload_n, ↓v1_aload, ↓v1_aload_n, ↓v1_istore, ↓v1_istore_n, ↓v1_lstore, ↓v1_lstore_n, ↓v1_astore, ↓v1_astore_n, ↓v1_iinc, ↓v1_dup, ↓v1_dup2, ↓v1_ifCond_eq, ↓v1_ifCond_ne, ↓v1_ifCond_lt, ↓v1_ifCond_ge, ↓v1_ifCond_gt, ↓v1_ifCond_le, ↓v1_if_icmp_eq, ↓v1_if_icmp_ne, ↓v1_if_icmp_lt, ↓v1_if_icmp_ge, ↓v1_if_icmp_gt, ↓v1_if_icmp_le, ↓v1_if_acmp_ne, ↓v1_ifnull, ↓v1_ifnonnull, ↓v1_goto, ↓v1_tableswitch_0, ↓v1_return_, ↓v1_ireturn, ↓v1_lreturn, ↓v1_areturn, ↓v1_getfield_0, ↓v1_putfield_0, ↓v1_getstatic, ↓v1_iaload, ↓v1_laload, ↓v1_baload, ↓v1_aaload, ↓v1_iastore, ↓v1_lastore, ↓v1_bastore, ↓v1_aastore_0, ↓v1_arraylength, ↓v1_new_0, ↓v1_newarray, ↓v1_anewarray, ↓v1_invokestatic_0, ↓v1_invokestatic_1, ↓v1_invokestatic_2a, ↓v1_invokevirtual_0, ↓v1_invokespecial_0, ↓v1_invokespecial_1a, ↓v1_invokespecial_1b, ↓vi_ii_e, ↓vi_i_e, ↓vi_jj_e, ↓vi_j_e, ↓vi_ij_e, ↓vi_r_e, ↓vi_rr_e, ↓vi_o_e, ↓vi_ir_e, ↓vi_iir_e, ↓vi_jir_e, ↓vi_rir_e, ↓vi_pop_z, ↓vi_pop_s, ↓vi_sw_n, ↓vi_sw_c, ↓vi_li_z, ↓vi_li_s, ↓vi_ll_z, ↓vi_ll_s, ↓vi_lr_z, ↓vi_lr_s, ↓vi_ret_l, ↓vi_ret_r, vi_sv, vg_set1, vg_set2, vg_lo, List.headD, List.contains_nil, List.contains_cons, Bool.or_false, Bool.false_eq_true, if_false, if_true, Nat.reduceAdd, Nat.reduceBEq, List.nil_append, List.cons_append, List.append_nil, Option.toList, Int32.reduceOfNat, Int64.reduceOfNat, reduceCtorEq, Nat.reduceLeDiff, Nat.le_refl, Nat.zero_le, true_and, and_true, false_or, or_false, or_true, true_or, and_self, not_true_eq_false, not_false_eq_true, forall_const, false_implies, true_implies, Sum.inl.injEq, Sum.inr.injEq, Option.some.injEq, eq_self, oI_1, oI_m, oI_5, oI_L, vi_ws_nil, vi_ws_I, vi_ws_J, vi_ws_R, wi_k, wi_n, wi_r, wi_l, wr_k, wr_n, wr_i, wr_l, wl_k, wl_n, wl_i, wl_r, Nat.reduceSub, Nat.reduceMul, cd_71_0, cd_71_16, cd_71_56, cd_71_71, cd_71_78, at_71_16, at_71_56, at_71_71, at_71_78, mc_71, ms_71, mr_71, mh_71, ml_71, mc_83, ms_83, mc_85, ms_85, xk, xr0, xr1, xr2, xr3, xr4, xr5, xr6, xr7, xr8, ak1, ak2, ak3, ak4, ak5, ak6, ak7, ak8, ak9, ak10, ak11, ak12, ak13, ak14, ak15, ak16, an1, an2, an4, an5, an6, an7, an8, an9, an10, an11, an12, an14, an15, an16, vr0, vr1, vr2, vr3, vr4, hr0, hr1, xi9, xi10, xi11, xi12, c5, c6, zk, z4, z5, z6, cn, e1, y1, y2, o1]
    refine ⟨o2, c_85 o2 (fun nm => ?_) (fun nm => ?_)⟩
    · rw [o6, o7] at nm
      have nm' : ¬ mayE S (oP S z i) w e := by unfold mayE; rw [← hh]; exact nm
      simp only [↓reduceIte, vi_go_c, ↓v1_iadd, ↓v1_isub, ↓v1_imul, ↓v1_iand, ↓v1_idiv, ↓v1_irem, ↓v1_ineg, ↓v1_ladd, ↓v1_lsub, ↓v1_land, ↓v1_lcmp, ↓v1_lshl, ↓v1_lshr, ↓v1_i2l, ↓v1_l2i, ↓v1_iconst_0, ↓v1_iconst_m, ↓v1_bipush, ↓v1_sipush, ↓v1_ldc, ↓v1_ldc_w, ↓v1_lconst, ↓v1_ldc2_w, ↓v1_aconst_null, ↓v1_iload, ↓v1_iload_n, ↓v1_lload, ↓v1_lload_n, ↓v1_aload, ↓v1_aload_n, ↓v1_istore, ↓v1_istore_n, ↓v1_lstore, ↓v1_lstore_n, ↓v1_astore, ↓v1_astore_n, ↓v1_iinc, ↓v1_dup, ↓v1_dup2, ↓v1_ifCond_eq, ↓v1_ifCond_ne, ↓v1_ifCond_lt, ↓v1_ifCond_ge, ↓v1_ifCond_gt, ↓v1_ifCond_le, ↓v1_if_icmp_eq, ↓v1_if_icmp_ne, ↓v1_if_icmp_lt, ↓v1_if_icmp_ge, ↓v1_if_icmp_gt, ↓v1_if_icmp_le, ↓v1_if_acmp_ne, ↓v1_ifnull, ↓v1_ifnonnull, ↓v1_goto, ↓v1_tableswitch_0, ↓v1_return_, ↓v1_ireturn, ↓v1_lreturn, ↓v1_areturn, ↓v1_getfield_0, ↓v1_putfield_0, ↓v1_getstatic, ↓v1_iaload, ↓v1_laload, ↓v1_baload, ↓v1_aaload, ↓v1_iastore, ↓v1_lastore, ↓v1_bastore, ↓v1_aastore_0, ↓v1_arraylength, ↓v1_new_0, ↓v1_newarray, ↓v1_anewarray, ↓v1_invokestatic_0, ↓v1_invokestatic_1, ↓v1_invokestatic_2a, ↓v1_invokevirtual_0, ↓v1_invokespecial_0, ↓v1_invokespecial_1a, ↓v1_invokespecial_1b, ↓vi_ii_e, ↓vi_i_e, ↓vi_jj_e, ↓vi_j_e, ↓vi_ij_e, ↓vi_r_e, ↓vi_rr_e, ↓vi_o_e, ↓vi_ir_e, ↓vi_iir_e, ↓vi_jir_e, ↓vi_rir_e, ↓vi_pop_z, ↓vi_pop_s, ↓vi_sw_n, ↓vi_sw_c, ↓vi_li_z, ↓vi_li_s, ↓vi_ll_z, ↓vi_ll_s, ↓vi_lr_z, ↓vi_lr_s, ↓vi_ret_l, ↓vi_ret_r, vi_sv, vg_set1, vg_set2, vg_lo, List.headD, List.contains_nil, List.contains_cons, Bool.or_false, Bool.false_eq_true, if_false, if_true, Nat.reduceAdd, Nat.reduceBEq, List.nil_append, List.cons_append, List.append_nil, Option.toList, Int32.reduceOfNat, Int64.reduceOfNat, reduceCtorEq, Nat.reduceLeDiff, Nat.le_refl, Nat.zero_le, true_and, and_true, false_or, or_false, or_true, true_or, and_self, not_true_eq_false, not_false_eq_true, forall_const, false_implies, true_implies, Sum.inl.injEq, Sum.inr.injEq, Option.some.injEq, eq_self, oI_1, oI_m, oI_5, oI_L, vi_ws_nil, vi_ws_I, vi_ws_J, vi_ws_R, wi_k, wi_n, wi_r, wi_l, wr_k, wr_n, wr_i, wr_l, wl_k, wl_n, wl_i, wl_r, Nat.reduceSub, Nat.reduceMul, cd_71_0, cd_71_16, cd_71_56, cd_71_71, cd_71_78, at_71_16, at_71_56, at_71_71, at_71_78, mc_71, ms_71, mr_71, mh_71, ml_71, mc_83, ms_83, mc_85, ms_85, xk, xr0, xr1, xr2, xr3, xr4, xr5, xr6, xr7, xr8, ak1, ak2, ak3, ak4, ak5, ak6, ak7, ak8, ak9, ak10, ak11, ak12, ak13, ak14, ak15, ak16, an1, an2, an4, an5, an6, an7, an8, an9, an10, an11, an12, an14, an15, an16, vr0, vr1, vr2, vr3, vr4, hr0, hr1, xi9, xi10, xi11, xi12, c6]
      intro v ev
      rw [nI_add] at ev
      subst ev
      refine ⟨o2, c_83 (S := S) (p := oP S z i) o2 o5 o6 o7 ok.1 ok.2.1 hr (hT.2.2.2.1 _ ok.1 ok.2.1).2 (hT.1 _ ok.1 ok.2.1).2.2.2 hw (by omega) nm' (fun E hE => ?_)⟩
      simp only [↓reduceIte, vi_go_c, ↓v1_iadd, ↓v1_isub, ↓v1_imul, ↓v1_iand, ↓v1_idiv, ↓v1_irem, ↓v1_ineg, ↓v1_ladd, ↓v1_lsub, ↓v1_land, ↓v1_lcmp, ↓v1_lshl, ↓v1_lshr, ↓v1_i2l, ↓v1_l2i, ↓v1_iconst_0, ↓v1_iconst_m, ↓v1_bipush, ↓v1_sipush, ↓v1_ldc, ↓v1_ldc_w, ↓v1_lconst, ↓v1_ldc2_w, ↓v1_aconst_null, ↓v1_iload, ↓v1_iload_n, ↓v1_lload, ↓v1_lload_n, ↓v1_aload, ↓v1_aload_n, ↓v1_istore, ↓v1_istore_n, ↓v1_lstore, ↓v1_lstore_n, ↓v1_astore, ↓v1_astore_n, ↓v1_iinc, ↓v1_dup, ↓v1_dup2, ↓v1_ifCond_eq, ↓v1_ifCond_ne, ↓v1_ifCond_lt, ↓v1_ifCond_ge, ↓v1_ifCond_gt, ↓v1_ifCond_le, ↓v1_if_icmp_eq, ↓v1_if_icmp_ne, ↓v1_if_icmp_lt, ↓v1_if_icmp_ge, ↓v1_if_icmp_gt, ↓v1_if_icmp_le, ↓v1_if_acmp_ne, ↓v1_ifnull, ↓v1_ifnonnull, ↓v1_goto, ↓v1_tableswitch_0, ↓v1_return_, ↓v1_ireturn, ↓v1_lreturn, ↓v1_areturn, ↓v1_getfield_0, ↓v1_putfield_0, ↓v1_getstatic, ↓v1_iaload, ↓v1_laload, ↓v1_baload, ↓v1_aaload, ↓v1_iastore, ↓v1_lastore, ↓v1_bastore, ↓v1_aastore_0, ↓v1_arraylength, ↓v1_new_0, ↓v1_newarray, ↓v1_anewarray, ↓v1_invokestatic_0, ↓v1_invokestatic_1, ↓v1_invokestatic_2a, ↓v1_invokevirtual_0, ↓v1_invokespecial_0, ↓v1_invokespecial_1a, ↓v1_invokespecial_1b, ↓vi_ii_e, ↓vi_i_e, ↓vi_jj_e, ↓vi_j_e, ↓vi_ij_e, ↓vi_r_e, ↓vi_rr_e, ↓vi_o_e, ↓vi_ir_e, ↓vi_iir_e, ↓vi_jir_e, ↓vi_rir_e, ↓vi_pop_z, ↓vi_pop_s, ↓vi_sw_n, ↓vi_sw_c, ↓vi_li_z, ↓vi_li_s, ↓vi_ll_z, ↓vi_ll_s, ↓vi_lr_z, ↓vi_lr_s, ↓vi_ret_l, ↓vi_ret_r, vi_sv, vg_set1, vg_set2, vg_lo, List.headD, List.contains_nil, List.contains_cons, Bool.or_false, Bool.false_eq_true, if_false, if_true, Nat.reduceAdd, Nat.reduceBEq, List.nil_append, List.cons_append, List.append_nil, Option.toList, Int32.reduceOfNat, Int64.reduceOfNat, reduceCtorEq, Nat.reduceLeDiff, Nat.le_refl, Nat.zero_le, true_and, and_true, false_or, or_false, or_true, true_or, and_self, not_true_eq_false, not_false_eq_true, forall_const, false_implies, true_implies, Sum.inl.injEq, Sum.inr.injEq, Option.some.injEq, eq_self, oI_1, oI_m, oI_5, oI_L, vi_ws_nil, vi_ws_I, vi_ws_J, vi_ws_R, wi_k, wi_n, wi_r, wi_l, wr_k, wr_n, wr_i, wr_l, wl_k, wl_n, wl_i, wl_r, Nat.reduceSub, Nat.reduceMul, cd_71_0, cd_71_16, cd_71_56, cd_71_71, cd_71_78, at_71_16, at_71_56, at_71_71, at_71_78, mc_71, ms_71, mr_71, mh_71, ml_71, mc_83, ms_83, mc_85, ms_85, xk, xr0, xr1, xr2, xr3, xr4, xr5, xr6, xr7, xr8, ak1, ak2, ak3, ak4, ak5, ak6, ak7, ak8, ak9, ak10, ak11, ak12, ak13, ak14, ak15, ak16, an1, an2, an4, an5, an6, an7, an8, an9, an10, an11, an12, an14, an15, an16, vr0, vr1, vr2, vr3, vr4, hr0, hr1, xi9, xi10, xi11, xi12]
      exact nx E hE
    · rw [o6, o7] at nm
      have nm' : mayE S (oP S z i) w e := by unfold mayE; rw [← hh]; exact nm
      simp only [↓reduceIte, vi_go_c, ↓v1_iadd, ↓v1_isub, ↓v1_imul, ↓v1_iand, ↓v1_idiv, ↓v1_irem, ↓v1_ineg, ↓v1_ladd, ↓v1_lsub, ↓v1_land, ↓v1_lcmp, ↓v1_lshl, ↓v1_lshr, ↓v1_i2l, ↓v1_l2i, ↓v1_iconst_0, ↓v1_iconst_m, ↓v1_bipush, ↓v1_sipush, ↓v1_ldc, ↓v1_ldc_w, ↓v1_lconst, ↓v1_ldc2_w, ↓v1_aconst_null, ↓v1_iload, ↓v1_iload_n, ↓v1_lload, ↓v1_lload_n, ↓v1_aload, ↓v1_aload_n, ↓v1_istore, ↓v1_istore_n, ↓v1_lstore, ↓v1_lstore_n, ↓v1_astore, ↓v1_astore_n, ↓v1_iinc, ↓v1_dup, ↓v1_dup2, ↓v1_ifCond_eq, ↓v1_ifCond_ne, ↓v1_ifCond_lt, ↓v1_ifCond_ge, ↓v1_ifCond_gt, ↓v1_ifCond_le, ↓v1_if_icmp_eq, ↓v1_if_icmp_ne, ↓v1_if_icmp_lt, ↓v1_if_icmp_ge, ↓v1_if_icmp_gt, ↓v1_if_icmp_le, ↓v1_if_acmp_ne, ↓v1_ifnull, ↓v1_ifnonnull, ↓v1_goto, ↓v1_tableswitch_0, ↓v1_return_, ↓v1_ireturn, ↓v1_lreturn, ↓v1_areturn, ↓v1_getfield_0, ↓v1_putfield_0, ↓v1_getstatic, ↓v1_iaload, ↓v1_laload, ↓v1_baload, ↓v1_aaload, ↓v1_iastore, ↓v1_lastore, ↓v1_bastore, ↓v1_aastore_0, ↓v1_arraylength, ↓v1_new_0, ↓v1_newarray, ↓v1_anewarray, ↓v1_invokestatic_0, ↓v1_invokestatic_1, ↓v1_invokestatic_2a, ↓v1_invokevirtual_0, ↓v1_invokespecial_0, ↓v1_invokespecial_1a, ↓v1_invokespecial_1b, ↓vi_ii_e, ↓vi_i_e, ↓vi_jj_e, ↓vi_j_e, ↓vi_ij_e, ↓vi_r_e, ↓vi_rr_e, ↓vi_o_e, ↓vi_ir_e, ↓vi_iir_e, ↓vi_jir_e, ↓vi_rir_e, ↓vi_pop_z, ↓vi_pop_s, ↓vi_sw_n, ↓vi_sw_c, ↓vi_li_z, ↓vi_li_s, ↓vi_ll_z, ↓vi_ll_s, ↓vi_lr_z, ↓vi_lr_s, ↓vi_ret_l, ↓vi_ret_r, vi_sv, vg_set1, vg_set2, vg_lo, List.headD, List.contains_nil, List.contains_cons, Bool.or_false, Bool.false_eq_true, if_false, if_true, Nat.reduceAdd, Nat.reduceBEq, List.nil_append, List.cons_append, List.append_nil, Option.toList, Int32.reduceOfNat, Int64.reduceOfNat, reduceCtorEq, Nat.reduceLeDiff, Nat.le_refl, Nat.zero_le, true_and, and_true, false_or, or_false, or_true, true_or, and_self, not_true_eq_false, not_false_eq_true, forall_const, false_implies, true_implies, Sum.inl.injEq, Sum.inr.injEq, Option.some.injEq, eq_self, oI_1, oI_m, oI_5, oI_L, vi_ws_nil, vi_ws_I, vi_ws_J, vi_ws_R, wi_k, wi_n, wi_r, wi_l, wr_k, wr_n, wr_i, wr_l, wl_k, wl_n, wl_i, wl_r, Nat.reduceSub, Nat.reduceMul, cd_71_0, cd_71_16, cd_71_56, cd_71_71, cd_71_78, at_71_16, at_71_56, at_71_71, at_71_78, mc_71, ms_71, mr_71, mh_71, ml_71, mc_83, ms_83, mc_85, ms_85, xk, xr0, xr1, xr2, xr3, xr4, xr5, xr6, xr7, xr8, ak1, ak2, ak3, ak4, ak5, ak6, ak7, ak8, ak9, ak10, ak11, ak12, ak13, ak14, ak15, ak16, an1, an2, an4, an5, an6, an7, an8, an9, an10, an11, an12, an14, an15, an16, vr0, vr1, vr2, vr3, vr4, hr0, hr1, xi9, xi10, xi11, xi12, i10]
      exact nx 0 (Or.inl ⟨nm', rfl⟩)
set_option maxRecDepth 100000 in
theorem c_71 {z w m e : Nat} {h : vg_H} (hT : Tar S) (hr : hrOK S) (hz : z < 4) (hw : w < 10080) (he : e < 4320) {h0 : vg_H} (hC' : TC G b A S z w m h0 h) (hQ : ∀ h', TC G b A S z w m h0 h' → PH S b z w e (offs S z).length h' → h'.2.2.2.1 = h.2.2.2.1 → Q (.inl none) h') : vg_C G (MT 71) [.inr (.inr (some (b + 3))), .inl (nI e)] h Q := by
  have hC := hC'.2.1
  have c6 := hC'.2.2.2.2.1
  have c5 := hC'.2.2.2.1
  obtain ⟨xk, xr0, xr1, xr2, xr3, xr4, xr5, xr6, xr7, xr8, ak1, ak2, ak3, ak4, ak5, ak6, ak7, ak8, ak9, ak10, ak11, ak12, ak13, ak14, ak15, ak16, an1, an2, an4, an5, an6, an7, an8, an9, an10, an11, an12, an14, an15, an16, vr0, vr1, vr2, vr3, vr4, hr0, hr1, xz⟩ := hC.1
  obtain ⟨xi9, xi10, xi11, xi12⟩ := hC.2.1
  refine vg_C_of rfl (by decide +kernel) (Nat.le_of_ble_eq_true rfl) ?_
  refine vi_run ok_71 [16] 40 ?_
  rw [at_71_0]
  simp only [vg_ent, vg_en, List.length_cons, List.length_nil, Nat.reduceAdd, Nat.reduceSub, List.replicate, List.append_nil, List.nil_append, List.cons_append, mn_71]
  simp only [↓reduceIte, vi_go_c, ↓v1_iadd, ↓v1_isub, ↓v1_imul, ↓v1_iand, ↓v1_idiv, ↓v1_irem, ↓v1_ineg, ↓v1_ladd, ↓v1_lsub, ↓v1_land, ↓v1_lcmp, ↓v1_lshl, ↓v1_lshr, ↓v1_i2l, ↓v1_l2i, ↓v1_iconst_0, ↓v1_iconst_m, ↓v1_bipush, ↓v1_sipush, ↓v1_ldc, ↓v1_ldc_w, ↓v1_lconst, ↓v1_ldc2_w, ↓v1_aconst_null, ↓v1_iload, ↓v1_iload_n, ↓v1_lload, ↓v1_lload_n, ↓v1_aload, ↓v1_aload_n, ↓v1_istore, ↓v1_istore_n, ↓v1_lstore, ↓v1_lstore_n, ↓v1_astore, ↓v1_astore_n, ↓v1_iinc, ↓v1_dup, ↓v1_dup2, ↓v1_ifCond_eq, ↓v1_ifCond_ne, ↓v1_ifCond_lt, ↓v1_ifCond_ge, ↓v1_ifCond_gt, ↓v1_ifCond_le, ↓v1_if_icmp_eq, ↓v1_if_icmp_ne, ↓v1_if_icmp_lt, ↓v1_if_icmp_ge, ↓v1_if_icmp_gt, ↓v1_if_icmp_le, ↓v1_if_acmp_ne, ↓v1_ifnull, ↓v1_ifnonnull, ↓v1_goto, ↓v1_tableswitch_0, ↓v1_return_, ↓v1_ireturn, ↓v1_lreturn, ↓v1_areturn, ↓v1_getfield_0, ↓v1_putfield_0, ↓v1_getstatic, ↓v1_iaload, ↓v1_laload, ↓v1_baload, ↓v1_aaload, ↓v1_iastore, ↓v1_lastore, ↓v1_bastore, ↓v1_aastore_0, ↓v1_arraylength, ↓v1_new_0, ↓v1_newarray, ↓v1_anewarray, ↓v1_invokestatic_0, ↓v1_invokestatic_1, ↓v1_invokestatic_2a, ↓v1_invokevirtual_0, ↓v1_invokespecial_0, ↓v1_invokespecial_1a, ↓v1_invokespecial_1b, ↓vi_ii_e, ↓vi_i_e, ↓vi_jj_e, ↓vi_j_e, ↓vi_ij_e, ↓vi_r_e, ↓vi_rr_e, ↓vi_o_e, ↓vi_ir_e, ↓vi_iir_e, ↓vi_jir_e, ↓vi_rir_e, ↓vi_pop_z, ↓vi_pop_s, ↓vi_sw_n, ↓vi_sw_c, ↓vi_li_z, ↓vi_li_s, ↓vi_ll_z, ↓vi_ll_s, ↓vi_lr_z, ↓vi_lr_s, ↓vi_ret_l, ↓vi_ret_r, vi_sv, vg_set1, vg_set2, vg_lo, List.headD, List.contains_nil, List.contains_cons, Bool.or_false, Bool.false_eq_true, if_false, if_true, Nat.reduceAdd, Nat.reduceBEq, List.nil_append, List.cons_append, List.append_nil, Option.toList, Int32.reduceOfNat, Int64.reduceOfNat, reduceCtorEq, Nat.reduceLeDiff, Nat.le_refl, Nat.zero_le, true_and, and_true, false_or, or_false, or_true, true_or, and_self, not_true_eq_false, not_false_eq_true, forall_const, false_implies, true_implies, Sum.inl.injEq, Sum.inr.injEq, Option.some.injEq, eq_self, oI_1, oI_m, oI_5, oI_L, vi_ws_nil, vi_ws_I, vi_ws_J, vi_ws_R, wi_k, wi_n, wi_r, wi_l, wr_k, wr_n, wr_i, wr_l, wl_k, wl_n, wl_i, wl_r, Nat.reduceSub, Nat.reduceMul, cd_71_0, cd_71_16, cd_71_56, cd_71_71, cd_71_78, at_71_16, at_71_56, at_71_71, at_71_78, mc_71, ms_71, mr_71, mh_71, ml_71, mc_83, ms_83, mc_85, ms_85, xk, xr0, xr1, xr2, xr3, xr4, xr5, xr6, xr7, xr8, ak1, ak2, ak3, ak4, ak5, ak6, ak7, ak8, ak9, ak10, ak11, ak12, ak13, ak14, ak15, ak16, an1, an2, an4, an5, an6, an7, an8, an9, an10, an11, an12, an14, an15, an16, vr0, vr1, vr2, vr3, vr4, hr0, hr1, xi9, xi10, xi11, xi12, c6]
  intro v1 e1
  rw [nI_add] at e1
  subst e1
  refine ⟨by decide, fun v2 e2 => ⟨by decide, fun v3 e3 => ?_⟩⟩
  rw [show (60 : Int32) = nI 60 from rfl, nI_divN (by omega) (by omega)] at e2
  subst e2
  rw [show (168 : Int32) = nI 168 from rfl, nI_rem (by omega) (by omega)] at e3
  subst e3
  have T0 : TC G b A S z w m h h := ⟨fr.refl b h, hC'.2.1, hC'.2.2⟩
  exact l_71 hT hr hz hw he (fun h' q1 q2 q3 => hQ h' ⟨hC'.1.trans q1.1, q1.2⟩ q2 q3) (offs S z).length 0 h (by omega) T0 (fun i hi => by omega) rfl
set_option maxRecDepth 100000 in
/-- rankOfOne -/
theorem c_75 {h : vg_H} {p c : Nat} (hp : p < 2 ^ 31) (hc : c < 2 ^ 31) (hQ : Q (.inl (some (.inr (.inl (lN (c * 262144 + 32 + p)))))) h) : vg_C G (MT 75) [.inl (nI p), .inl (nI c)] h Q := by
  refine vg_C_of rfl (by decide +kernel) (Nat.le_of_ble_eq_true rfl) ?_
  refine vi_run ok_75 [] 40 ?_
  rw [at_75_0]
  simp only [vg_ent, vg_en, List.length_cons, List.length_nil, Nat.reduceAdd, Nat.reduceSub, List.replicate, List.append_nil, List.nil_append, List.cons_append, mn_75]
  simp only [↓reduceIte, vi_go_c, ↓v1_iadd, ↓v1_isub, ↓v1_imul, ↓v1_iand, ↓v1_idiv, ↓v1_irem, ↓v1_ineg, ↓v1_ladd, ↓v1_lsub, ↓v1_land, ↓v1_lcmp, ↓v1_lshl, ↓v1_lshr, ↓v1_i2l, ↓v1_l2i, ↓v1_iconst_0, ↓v1_iconst_m, ↓v1_bipush, ↓v1_sipush, ↓v1_ldc, ↓v1_ldc_w, ↓v1_lconst, ↓v1_ldc2_w, ↓v1_aconst_null, ↓v1_iload, ↓v1_iload_n, ↓v1_lload, ↓v1_lload_n, ↓v1_aload, ↓v1_aload_n, ↓v1_istore, ↓v1_istore_n, ↓v1_lstore, ↓v1_lstore_n, ↓v1_astore, ↓v1_astore_n, ↓v1_iinc, ↓v1_dup, ↓v1_dup2, ↓v1_ifCond_eq, ↓v1_ifCond_ne, ↓v1_ifCond_lt, ↓v1_ifCond_ge, ↓v1_ifCond_gt, ↓v1_ifCond_le, ↓v1_if_icmp_eq, ↓v1_if_icmp_ne, ↓v1_if_icmp_lt, ↓v1_if_icmp_ge, ↓v1_if_icmp_gt, ↓v1_if_icmp_le, ↓v1_if_acmp_ne, ↓v1_ifnull, ↓v1_ifnonnull, ↓v1_goto, ↓v1_tableswitch_0, ↓v1_return_, ↓v1_ireturn, ↓v1_lreturn, ↓v1_areturn, ↓v1_getfield_0, ↓v1_putfield_0, ↓v1_getstatic, ↓v1_iaload, ↓v1_laload, ↓v1_baload, ↓v1_aaload, ↓v1_iastore, ↓v1_lastore, ↓v1_bastore, ↓v1_aastore_0, ↓v1_arraylength, ↓v1_new_0, ↓v1_newarray, ↓v1_anewarray, ↓v1_invokestatic_0, ↓v1_invokestatic_1, ↓v1_invokestatic_2a, ↓v1_invokevirtual_0, ↓v1_invokespecial_0, ↓v1_invokespecial_1a, ↓v1_invokespecial_1b, ↓vi_ii_e, ↓vi_i_e, ↓vi_jj_e, ↓vi_j_e, ↓vi_ij_e, ↓vi_r_e, ↓vi_rr_e, ↓vi_o_e, ↓vi_ir_e, ↓vi_iir_e, ↓vi_jir_e, ↓vi_rir_e, ↓vi_pop_z, ↓vi_pop_s, ↓vi_sw_n, ↓vi_sw_c, ↓vi_li_z, ↓vi_li_s, ↓vi_ll_z, ↓vi_ll_s, ↓vi_lr_z, ↓vi_lr_s, ↓vi_ret_l, ↓vi_ret_r, vi_sv, vg_set1, vg_set2, vg_lo, List.headD, List.contains_nil, List.contains_cons, Bool.or_false, Bool.false_eq_true, if_false, if_true, Nat.reduceAdd, Nat.reduceBEq, List.nil_append, List.cons_append, List.append_nil, Option.toList, Int32.reduceOfNat, Int64.reduceOfNat, reduceCtorEq, Nat.reduceLeDiff, Nat.le_refl, Nat.zero_le, true_and, and_true, false_or, or_false, or_true, true_or, and_self, not_true_eq_false, not_false_eq_true, forall_const, false_implies, true_implies, Sum.inl.injEq, Sum.inr.injEq, Option.some.injEq, eq_self, oI_1, oI_m, oI_5, oI_L, vi_ws_nil, vi_ws_I, vi_ws_J, vi_ws_R, wi_k, wi_n, wi_r, wi_l, wr_k, wr_n, wr_i, wr_l, wl_k, wl_n, wl_i, wl_r, Nat.reduceSub, Nat.reduceMul, cd_75_0, mc_75, ms_75, mr_75, mh_75, ml_75]
  intro v1 e1 v2 e2 v3 e3 v4 e4 v5 e5
  rw [nI_l hc] at e1
  subst e1
  have e2' : v2 = lN (c * 262144) := by rw [e2]; exact lN_shl c
  subst e2'
  have e3' : v3 = lN (c * 262144 + 32) := by rw [e3]; exact lN_add _ 32
  subst e3'
  rw [nI_l hp] at e4
  subst e4
  rw [lN_add] at e5
  subst e5
  exact hQ
set_option maxRecDepth 100000 in
/-- rankFrom -/
theorem c_74 {z w m d : Nat} {W : WT} {h h0 : vg_H} (hC' : TC G b A S z w m h0 h) (hm : m ≤ 4320) (hd : d < 2 ^ 31) (hW : d < m → h.2.2.2.1 (b + 4) d = lN (rkN (W d)) ∧ rkN (W d) < 2 ^ 63) (hW0 : m ≤ d → W d = (0, 0, 0, 0)) (hQ : Q (.inl (some (.inr (.inl (lN (rkN (W d) / 32 * 32)))))) h) : vg_C G (MT 74) [.inr (.inr (some (b + 3))), .inl (nI d)] h Q := by
  have hC := hC'.2.1
  have c7 := hC'.2.2.2.2.2.1
  obtain ⟨xk, xr0, xr1, xr2, xr3, xr4, xr5, xr6, xr7, xr8, ak1, ak2, ak3, ak4, ak5, ak6, ak7, ak8, ak9, ak10, ak11, ak12, ak13, ak14, ak15, ak16, an1, an2, an4, an5, an6, an7, an8, an9, an10, an11, an12, an14, an15, an16, vr0, vr1, vr2, vr3, vr4, hr0, hr1, xz⟩ := hC.1
  obtain ⟨xi9, xi10, xi11, xi12⟩ := hC.2.1
  rcases Nat.lt_or_ge d m with q | q
  · have e1 : ¬ nI m ≤ nI d := nI_ge q (by omega)
    obtain ⟨w1, w2⟩ := hW q
    have y1 := nI_clamp hd
    have y2 : vp_in (nI d) 4320 := vp_nI (by omega) (by omega)
    refine vg_C_of rfl (by decide +kernel) (Nat.le_of_ble_eq_true rfl) ?_
    refine vi_run ok_74 [] 40 ?_
    rw [at_74_0]
    simp only [vg_ent, vg_en, List.length_cons, List.length_nil, Nat.reduceAdd, Nat.reduceSub, List.replicate, List.append_nil, List.nil_append, List.cons_append, mn_74]
    simp only [↓reduceIte, vi_go_c, ↓v1_iadd, ↓v1_isub, ↓v1_imul, ↓v1_iand, ↓v1_idiv, ↓v1_irem, ↓v1_ineg, ↓v1_ladd, ↓v1_lsub, ↓v1_land, ↓v1_lcmp, ↓v1_lshl, ↓v1_lshr, ↓v1_i2l, ↓v1_l2i, ↓v1_iconst_0, ↓v1_iconst_m, ↓v1_bipush, ↓v1_sipush, ↓v1_ldc, ↓v1_ldc_w, ↓v1_lconst, ↓v1_ldc2_w, ↓v1_aconst_null, ↓v1_iload, ↓v1_iload_n, ↓v1_lload, ↓v1_lload_n, ↓v1_aload, ↓v1_aload_n, ↓v1_istore, ↓v1_istore_n, ↓v1_lstore, ↓v1_lstore_n, ↓v1_astore, ↓v1_astore_n, ↓v1_iinc, ↓v1_dup, ↓v1_dup2, ↓v1_ifCond_eq, ↓v1_ifCond_ne, ↓v1_ifCond_lt, ↓v1_ifCond_ge, ↓v1_ifCond_gt, ↓v1_ifCond_le, ↓v1_if_icmp_eq, ↓v1_if_icmp_ne, ↓v1_if_icmp_lt, ↓v1_if_icmp_ge, ↓v1_if_icmp_gt, ↓v1_if_icmp_le, ↓v1_if_acmp_ne, ↓v1_ifnull, ↓v1_ifnonnull, ↓v1_goto, ↓v1_tableswitch_0, ↓v1_return_, ↓v1_ireturn, ↓v1_lreturn, ↓v1_areturn, ↓v1_getfield_0, ↓v1_putfield_0, ↓v1_getstatic, ↓v1_iaload, ↓v1_laload, ↓v1_baload, ↓v1_aaload, ↓v1_iastore, ↓v1_lastore, ↓v1_bastore, ↓v1_aastore_0, ↓v1_arraylength, ↓v1_new_0, ↓v1_newarray, ↓v1_anewarray, ↓v1_invokestatic_0, ↓v1_invokestatic_1, ↓v1_invokestatic_2a, ↓v1_invokevirtual_0, ↓v1_invokespecial_0, ↓v1_invokespecial_1a, ↓v1_invokespecial_1b, ↓vi_ii_e, ↓vi_i_e, ↓vi_jj_e, ↓vi_j_e, ↓vi_ij_e, ↓vi_r_e, ↓vi_rr_e, ↓vi_o_e, ↓vi_ir_e, ↓vi_iir_e, ↓vi_jir_e, ↓vi_rir_e, ↓vi_pop_z, ↓vi_pop_s, ↓vi_sw_n, ↓vi_sw_c, ↓vi_li_z, ↓vi_li_s, ↓vi_ll_z, ↓vi_ll_s, ↓vi_lr_z, ↓vi_lr_s, ↓vi_ret_l, ↓vi_ret_r, vi_sv, vg_set1, vg_set2, vg_lo, List.headD, List.contains_nil, List.contains_cons, Bool.or_false, Bool.false_eq_true, if_false, if_true, Nat.reduceAdd, Nat.reduceBEq, List.nil_append, List.cons_append, List.append_nil, Option.toList, Int32.reduceOfNat, Int64.reduceOfNat, reduceCtorEq, Nat.reduceLeDiff, Nat.le_refl, Nat.zero_le, true_and, and_true, false_or, or_false, or_true, true_or, and_self, not_true_eq_false, not_false_eq_true, forall_const, false_implies, true_implies, Sum.inl.injEq, Sum.inr.injEq, Option.some.injEq, eq_self, oI_1, oI_m, oI_5, oI_L, vi_ws_nil, vi_ws_I, vi_ws_J, vi_ws_R, wi_k, wi_n, wi_r, wi_l, wr_k, wr_n, wr_i, wr_l, wl_k, wl_n, wl_i, wl_r, Nat.reduceSub, Nat.reduceMul, cd_74_0, cd_74_21, cd_74_22, at_74_21, at_74_22, mc_74, ms_74, mr_74, mh_74, ml_74, xk, xr0, xr1, xr2, xr3, xr4, xr5, xr6, xr7, xr8, ak1, ak2, ak3, ak4, ak5, ak6, ak7, ak8, ak9, ak10, ak11, ak12, ak13, ak14, ak15, ak16, an1, an2, an4, an5, an6, an7, an8, an9, an10, an11, an12, an14, an15, an16, vr0, vr1, vr2, vr3, vr4, hr0, hr1, xi9, xi10, xi11, xi12, c7, e1, y1, y2, w1]
    intro v ev
    have ev' : v = lN (rkN (W d) / 32 * 32) := by rw [ev]; exact lN_m32 w2
    subst ev'
    exact hQ
  · have e1 : nI m ≤ nI d := nI_le q hd
    refine vg_C_of rfl (by decide +kernel) (Nat.le_of_ble_eq_true rfl) ?_
    refine vi_run ok_74 [] 40 ?_
    rw [at_74_0]
    simp only [vg_ent, vg_en, List.length_cons, List.length_nil, Nat.reduceAdd, Nat.reduceSub, List.replicate, List.append_nil, List.nil_append, List.cons_append, mn_74]
    simp only [↓reduceIte, vi_go_c, ↓v1_iadd, ↓v1_isub, ↓v1_imul, ↓v1_iand, ↓v1_idiv, ↓v1_irem, ↓v1_ineg, ↓v1_ladd, ↓v1_lsub, ↓v1_land, ↓v1_lcmp, ↓v1_lshl, ↓v1_lshr, ↓v1_i2l, ↓v1_l2i, ↓v1_iconst_0, ↓v1_iconst_m, ↓v1_bipush, ↓v1_sipush, ↓v1_ldc, ↓v1_ldc_w, ↓v1_lconst, ↓v1_ldc2_w, ↓v1_aconst_null, ↓v1_iload, ↓v1_iload_n, ↓v1_lload, ↓v1_lload_n, ↓v1_aload, ↓v1_aload_n, ↓v1_istore, ↓v1_istore_n, ↓v1_lstore, ↓v1_lstore_n, ↓v1_astore, ↓v1_astore_n, ↓v1_iinc, ↓v1_dup, ↓v1_dup2, ↓v1_ifCond_eq, ↓v1_ifCond_ne, ↓v1_ifCond_lt, ↓v1_ifCond_ge, ↓v1_ifCond_gt, ↓v1_ifCond_le, ↓v1_if_icmp_eq, ↓v1_if_icmp_ne, ↓v1_if_icmp_lt, ↓v1_if_icmp_ge, ↓v1_if_icmp_gt, ↓v1_if_icmp_le, ↓v1_if_acmp_ne, ↓v1_ifnull, ↓v1_ifnonnull, ↓v1_goto, ↓v1_tableswitch_0, ↓v1_return_, ↓v1_ireturn, ↓v1_lreturn, ↓v1_areturn, ↓v1_getfield_0, ↓v1_putfield_0, ↓v1_getstatic, ↓v1_iaload, ↓v1_laload, ↓v1_baload, ↓v1_aaload, ↓v1_iastore, ↓v1_lastore, ↓v1_bastore, ↓v1_aastore_0, ↓v1_arraylength, ↓v1_new_0, ↓v1_newarray, ↓v1_anewarray, ↓v1_invokestatic_0, ↓v1_invokestatic_1, ↓v1_invokestatic_2a, ↓v1_invokevirtual_0, ↓v1_invokespecial_0, ↓v1_invokespecial_1a, ↓v1_invokespecial_1b, ↓vi_ii_e, ↓vi_i_e, ↓vi_jj_e, ↓vi_j_e, ↓vi_ij_e, ↓vi_r_e, ↓vi_rr_e, ↓vi_o_e, ↓vi_ir_e, ↓vi_iir_e, ↓vi_jir_e, ↓vi_rir_e, ↓vi_pop_z, ↓vi_pop_s, ↓vi_sw_n, ↓vi_sw_c, ↓vi_li_z, ↓vi_li_s, ↓vi_ll_z, ↓vi_ll_s, ↓vi_lr_z, ↓vi_lr_s, ↓vi_ret_l, ↓vi_ret_r, vi_sv, vg_set1, vg_set2, vg_lo, List.headD, List.contains_nil, List.contains_cons, Bool.or_false, Bool.false_eq_true, if_false, if_true, Nat.reduceAdd, Nat.reduceBEq, List.nil_append, List.cons_append, List.append_nil, Option.toList, Int32.reduceOfNat, Int64.reduceOfNat, reduceCtorEq, Nat.reduceLeDiff, Nat.le_refl, Nat.zero_le, true_and, and_true, false_or, or_false, or_true, true_or, and_self, not_true_eq_false, not_false_eq_true, forall_const, false_implies, true_implies, Sum.inl.injEq, Sum.inr.injEq, Option.some.injEq, eq_self, oI_1, oI_m, oI_5, oI_L, vi_ws_nil, vi_ws_I, vi_ws_J, vi_ws_R, wi_k, wi_n, wi_r, wi_l, wr_k, wr_n, wr_i, wr_l, wl_k, wl_n, wl_i, wl_r, Nat.reduceSub, Nat.reduceMul, cd_74_0, cd_74_21, cd_74_22, at_74_21, at_74_22, mc_74, ms_74, mr_74, mh_74, ml_74, xk, xr0, xr1, xr2, xr3, xr4, xr5, xr6, xr7, xr8, ak1, ak2, ak3, ak4, ak5, ak6, ak7, ak8, ak9, ak10, ak11, ak12, ak13, ak14, ak15, ak16, an1, an2, an4, an5, an6, an7, an8, an9, an10, an11, an12, an14, an15, an16, vr0, vr1, vr2, vr3, vr4, hr0, hr1, xi9, xi10, xi11, xi12, c7, e1]
    rw [hW0 q] at hQ
    exact hQ
end CCV
