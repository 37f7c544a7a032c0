/-! ===== the class: the table of covers ===== -/
/-- the best of the candidates of which P says so -/
def BOP (S : SS) (W : WT) (z fw e : Nat) (P : Nat → Prop) (o : Option (Nat × Nat × Nat × Nat)) : Prop := (o = none ∧ ∀ p, P p → ∀ d, ¬ Cand S z fw e p d) ∨ ∃ p d, P p ∧ Cand S z fw e p d ∧ o = some (valC S W p d) ∧ ∀ p' d', P p' → Cand S z fw e p' d' → ¬ lexL (valC S W p' d') (valC S W p d)
theorem BOP_no {S : SS} {W : WT} {z fw e : Nat} {P R : Nat → Prop} {o : Option (Nat × Nat × Nat × Nat)} (h : BOP S W z fw e P o) (hR : ∀ p, R p ↔ P p ∨ ∀ d, ¬ Cand S z fw e p d ∧ R p) (hn : ∀ p, R p → ¬ P p → ∀ d, ¬ Cand S z fw e p d) (hP : ∀ p, P p → R p) : BOP S W z fw e R o := by
  rcases h with ⟨h1, h2⟩ | ⟨p, d, h1, h2, h3, h4⟩
  · refine Or.inl ⟨h1, fun p hp => ?_⟩
    by_cases q : P p
    · exact h2 p q
    · exact hn p hp q
  · refine Or.inr ⟨p, d, hP p h1, h2, h3, fun p' d' hp hc => ?_⟩
    by_cases q : P p'
    · exact h4 p' d' q hc
    · exact absurd hc (hn p' hp q d')
theorem BOP_yes {S : SS} {W : WT} {z fw e p0 d0 : Nat} {P R : Nat → Prop} {o : Option (Nat × Nat × Nat × Nat)} (h : BOP S W z fw e P o) (hc : Cand S z fw e p0 d0) (hR : ∀ p, R p ↔ (P p ∨ p = p0)) : BOP S W z fw e R (bestO o (valC S W p0 d0)) := by
  have irr : ∀ a, ¬ lexL a a := fun a q => by unfold lexL at q; omega
  rcases h with ⟨rfl, h2⟩ | ⟨p, d1, h1, h2, rfl, h4⟩
  · refine Or.inr ⟨p0, d0, (hR p0).mpr (Or.inr rfl), hc, rfl, fun p' d' hp hc' => ?_⟩
    rcases (hR p').mp hp with q | q
    · exact absurd hc' (h2 p' q d')
    · subst q; rw [Cand.uniq hc' hc]; exact irr _
  · show BOP S W z fw e R (@ite _ (lexL _ _) (Classical.propDecidable _) _ _)
    by_cases l : lexL (valC S W p0 d0) (valC S W p d1)
    · rw [if_pos l]
      refine Or.inr ⟨p0, d0, (hR p0).mpr (Or.inr rfl), hc, rfl, fun p' d' hp hc' => ?_⟩
      rcases (hR p').mp hp with q | q
      · exact fun l2 => h4 p' d' q hc' (lexL_trans l2 l)
      · subst q; rw [Cand.uniq hc' hc]; exact irr _
    · rw [if_neg l]
      refine Or.inr ⟨p, d1, (hR p).mpr (Or.inl h1), h2, rfl, fun p' d' hp hc' => ?_⟩
      rcases (hR p').mp hp with q | q
      · exact h4 p' d' q hc'
      · subst q; rw [Cand.uniq hc' hc]; exact l
theorem BOP_end {S : SS} {W : WT} {z fw e m : Nat} {P : Nat → Prop} {o : Option (Nat × Nat × Nat × Nat)} (hR : Right S z fw m W) (he : e < m) (hP : ∀ p d, Cand S z fw e p d → P p) (h : BOP S W z fw e P o) : o = some (W e) := by
  obtain ⟨⟨p, d, c, e1⟩, l⟩ := hR.2 e he
  rcases h with ⟨h1, h2⟩ | ⟨p', d', h1, h2, h3, h4⟩
  · exact absurd c (h2 p (hP p d c) d)
  · rw [h3]
    have n1 := h4 p d (hP p d c) c
    have n2 := l p' d' h2
    rw [e1] at n2
    have t := (lexL_total n1 n2).2.2
    have hp : p = p' := t
    subst hp
    rw [e1, Cand.uniq c h2]
def lgO : Option (Nat × Nat × Nat × Nat) → Int64
  | none => 9223372036854775807
  | some v => lN (rkN v)
section CC2
variable {G : vg_G} {b : Nat} {A : AA} {S : SS} {Q : vg_O → vg_H → Prop}
set_option maxRecDepth 100000 in
/-- offerEnd -/
theorem c_70 {z w m e i : Nat} {h h0 : vg_H} (hC' : TC G b A S z w m h0 h) (hT : Tar S) (hz : z < 4) (hw : w < 10080) (he : e < 4320) (hi : i < (offs S z).length) (hP : PH S b z w e (offs S z).length h) (h1 : ∀ d, d ≤ 8640 → Cand S z w e (oP S z i) d → Q (.inl (some (.inl (nI d)))) h) (h0' : (∀ d, ¬ Cand S z w e (oP S z i) d) → ∀ v, v ≤ nI e → Q (.inl (some (.inl v))) h) : vg_C G (MT 70) [.inr (.inr (some (b + 3))), .inl (nI i), .inl (nI e)] h Q := by
  have hC := hC'.2.1
  have c5 := hC'.2.2.2.1
  have c6 := hC'.2.2.2.2.1
  obtain ⟨xk, xr0, xr1, xr2, xr3, xr4, xr5, xr6, xr7, xr8, ak1, ak2, ak3, ak4, ak5, ak6, ak7, ak8, ak9, ak10, ak11, ak12, ak13, ak14, ak15, ak16, an1, an2, an4, an5, an6, an7, an8, an9, an10, an11, an12, an14, an15, an16, vr0, vr1, vr2, vr3, vr4, hr0, hr1, xz⟩ := hC.1
  obtain ⟨xi9, xi10, xi11, xi12⟩ := hC.2.1
  obtain ⟨z1, zk, z3, z4, z5, z6, z7, z8⟩ := hC.2.2.1 z hz
  have ol := offs_len S z
  obtain ⟨o1, o2, o3, o4, o5, o6, o7⟩ := hC'.off hz hi
  have ok := offs_ok hi
  have okp := hT.1 _ ok.1 ok.2.1
  rw [(hT.2.2.2.1 _ ok.1 ok.2.1).2] at o5
  have y1 := nI_clamp (show i < 2 ^ 31 by omega)
  have y2 : vp_in (nI i) 24 := vp_nI (by omega) (by omega)
  have n24 : ∀ d, Cand S z w e (oP S z i) d → ∃ y, LB S (oP S z i) w e y ∧ d = y + lenP S (oP S z i) ∧ e < d := fun d hc => by
    rcases hc with ⟨_, q⟩ | ⟨q, _⟩
    · exact q
    · have := ok.1; omega
  rcases hP i hi with ⟨a1, a2⟩ | ⟨a1, ⟨y, a2, a3⟩ | ⟨a2, a3⟩⟩
  · refine vg_C_of rfl (by decide +kernel) (Nat.le_of_ble_eq_true rfl) ?_
    refine vi_run ok_70 [] 40 ?_
    rw [at_70_0]
    simp only [vg_ent, vg_en, List.length_cons, List.length_nil, Nat.reduceAdd, Nat.reduceSub, List.replicate, List.append_nil, List.nil_append, List.cons_append, mn_70]
    simp only [↓reduceIte, vi_go_c, ↓v1_iadd, ↓v1_isub, ↓v1_imul, ↓v1_iand, ↓v1_idiv, ↓v1_irem, ↓v1_ineg, ↓v1_ladd, ↓v1_lsub, ↓v1_land, ↓v1_lcmp, ↓v1_lshl, ↓v1_lshr, ↓v1_i2l, ↓v1_l2i, ↓v1_iconst_0, ↓v1_iconst_m, ↓v1_bipush, ↓v1_sipush, ↓v1_ldc, ↓v1_ldc_w, ↓v1_lconst, ↓v1_ldc2_w, ↓v1_aconst_null, ↓v1_iload, ↓v1_iload_n, ↓v1_lload, ↓v1_lload_n, ↓v1_aload, ↓v1_aload_n, ↓v1_istore, ↓v1_istore_n, ↓v1_lstore, ↓v1_lstore_n, ↓v1_astore, ↓v1_astore_n, ↓v1_iinc, ↓v1_dup, ↓v1_dup2, ↓v1_ifCond_eq, ↓v1_ifCond_ne, ↓v1_ifCond_lt, ↓v1_ifCond_ge, ↓v1_ifCond_gt, ↓v1_ifCond_le, ↓v1_if_icmp_eq, ↓v1_if_icmp_ne, ↓v1_if_icmp_lt, ↓v1_if_icmp_ge, ↓v1_if_icmp_gt, ↓v1_if_icmp_le, ↓v1_if_acmp_ne, ↓v1_ifnull, ↓v1_ifnonnull, ↓v1_goto, ↓v1_tableswitch_0, ↓v1_return_, ↓v1_ireturn, ↓v1_lreturn, ↓v1_areturn, ↓v1_getfield_0, ↓v1_putfield_0, ↓v1_getstatic, ↓v1_iaload, ↓v1_laload, ↓v1_baload, ↓v1_aaload, ↓v1_iastore, ↓v1_lastore, ↓v1_bastore, ↓v1_aastore_0, ↓v1_arraylength, ↓v1_new_0, ↓v1_newarray, ↓v1_anewarray, ↓v1_invokestatic_0, ↓v1_invokestatic_1, ↓v1_invokestatic_2a, ↓v1_invokevirtual_0, ↓v1_invokespecial_0, ↓v1_invokespecial_1a, ↓v1_invokespecial_1b, ↓vi_ii_e, ↓vi_i_e, ↓vi_jj_e, ↓vi_j_e, ↓vi_ij_e, ↓vi_r_e, ↓vi_rr_e, ↓vi_o_e, ↓vi_ir_e, ↓vi_iir_e, ↓vi_jir_e, ↓vi_rir_e, ↓vi_pop_z, ↓vi_pop_s, ↓vi_sw_n, ↓vi_sw_c, ↓vi_li_z, ↓vi_li_s, ↓vi_ll_z, ↓vi_ll_s, ↓vi_lr_z, ↓vi_lr_s, ↓vi_ret_l, ↓vi_ret_r, vi_sv, vg_set1, vg_set2, vg_lo, List.headD, List.contains_nil, List.contains_cons, Bool.or_false, Bool.false_eq_true, if_false, if_true, Nat.reduceAdd, Nat.reduceBEq, List.nil_append, List.cons_append, List.append_nil, Option.toList, Int32.reduceOfNat, Int64.reduceOfNat, reduceCtorEq, Nat.reduceLeDiff, Nat.le_refl, Nat.zero_le, true_and, and_true, false_or, or_false, or_true, true_or, and_self, not_true_eq_false, not_false_eq_true, forall_const, false_implies, true_implies, Sum.inl.injEq, Sum.inr.injEq, Option.some.injEq, eq_self, oI_1, oI_m, oI_5, oI_L, vi_ws_nil, vi_ws_I, vi_ws_J, vi_ws_R, wi_k, wi_n, wi_r, wi_l, wr_k, wr_n, wr_i, wr_l, wl_k, wl_n, wl_i, wl_r, Nat.reduceSub, Nat.reduceMul, cd_70_0, cd_70_26, cd_70_37, at_70_26, at_70_37, mc_70, ms_70, mr_70, mh_70, ml_70, xk, xr0, xr1, xr2, xr3, xr4, xr5, xr6, xr7, xr8, ak1, ak2, ak3, ak4, ak5, ak6, ak7, ak8, ak9, ak10, ak11, ak12, ak13, ak14, ak15, ak16, an1, an2, an4, an5, an6, an7, an8, an9, an10, an11, an12, an14, an15, an16, vr0, vr1, vr2, vr3, vr4, hr0, hr1, xi9, xi10, xi11, xi12, c5, c6, zk, z4, z5, z6, y1, y2, a2, o1, o2, o5]
    intro v ev
    rw [nI_add] at ev
    subst ev
    exact h1 _ (by omega) (Or.inl ⟨ok, e, ⟨Nat.le_refl _, a1, fun j h3 h4 => by omega⟩, rfl, by omega⟩)
  · have yl := a2.1
    have ne : ¬ nI (w + y + lenP S (oP S z i)) = 0 := nI_ne0 (by omega) (by omega)
    refine vg_C_of rfl (by decide +kernel) (Nat.le_of_ble_eq_true rfl) ?_
    refine vi_run ok_70 [] 40 ?_
    rw [at_70_0]
    simp only [vg_ent, vg_en, List.length_cons, List.length_nil, Nat.reduceAdd, Nat.reduceSub, List.replicate, List.append_nil, List.nil_append, List.cons_append, mn_70]
    simp only [↓reduceIte, vi_go_c, ↓v1_iadd, ↓v1_isub, ↓v1_imul, ↓v1_iand, ↓v1_idiv, ↓v1_irem, ↓v1_ineg, ↓v1_ladd, ↓v1_lsub, ↓v1_land, ↓v1_lcmp, ↓v1_lshl, ↓v1_lshr, ↓v1_i2l, ↓v1_l2i, ↓v1_iconst_0, ↓v1_iconst_m, ↓v1_bipush, ↓v1_sipush, ↓v1_ldc, ↓v1_ldc_w, ↓v1_lconst, ↓v1_ldc2_w, ↓v1_aconst_null, ↓v1_iload, ↓v1_iload_n, ↓v1_lload, ↓v1_lload_n, ↓v1_aload, ↓v1_aload_n, ↓v1_istore, ↓v1_istore_n, ↓v1_lstore, ↓v1_lstore_n, ↓v1_astore, ↓v1_astore_n, ↓v1_iinc, ↓v1_dup, ↓v1_dup2, ↓v1_ifCond_eq, ↓v1_ifCond_ne, ↓v1_ifCond_lt, ↓v1_ifCond_ge, ↓v1_ifCond_gt, ↓v1_ifCond_le, ↓v1_if_icmp_eq, ↓v1_if_icmp_ne, ↓v1_if_icmp_lt, ↓v1_if_icmp_ge, ↓v1_if_icmp_gt, ↓v1_if_icmp_le, ↓v1_if_acmp_ne, ↓v1_ifnull, ↓v1_ifnonnull, ↓v1_goto, ↓v1_tableswitch_0, ↓v1_return_, ↓v1_ireturn, ↓v1_lreturn, ↓v1_areturn, ↓v1_getfield_0, ↓v1_putfield_0, ↓v1_getstatic, ↓v1_iaload, ↓v1_laload, ↓v1_baload, ↓v1_aaload, ↓v1_iastore, ↓v1_lastore, ↓v1_bastore, ↓v1_aastore_0, ↓v1_arraylength, ↓v1_new_0, ↓v1_newarray, ↓v1_anewarray, ↓v1_invokestatic_0, ↓v1_invokestatic_1, ↓v1_invokestatic_2a, ↓v1_invokevirtual_0, ↓v1_invokespecial_0, ↓v1_invokespecial_1a, ↓v1_invokespecial_1b, ↓vi_ii_e, ↓vi_i_e, ↓vi_jj_e, ↓vi_j_e, ↓vi_ij_e, ↓vi_r_e, ↓vi_rr_e, ↓vi_o_e, ↓vi_ir_e, ↓vi_iir_e, ↓vi_jir_e, ↓vi_rir_e, ↓vi_pop_z, ↓vi_pop_s, ↓vi_sw_n, ↓vi_sw_c, ↓vi_li_z, ↓vi_li_s, ↓vi_ll_z, ↓vi_ll_s, ↓vi_lr_z, ↓vi_lr_s, ↓vi_ret_l, ↓vi_ret_r, vi_sv, vg_set1, vg_set2, vg_lo, List.headD, List.contains_nil, List.contains_cons, Bool.or_false, Bool.false_eq_true, if_false, if_true, Nat.reduceAdd, Nat.reduceBEq, List.nil_append, List.cons_append, List.append_nil, Option.toList, Int32.reduceOfNat, Int64.reduceOfNat, reduceCtorEq, Nat.reduceLeDiff, Nat.le_refl, Nat.zero_le, true_and, and_true, false_or, or_false, or_true, true_or, and_self, not_true_eq_false, not_false_eq_true, forall_const, false_implies, true_implies, Sum.inl.injEq, Sum.inr.injEq, Option.some.injEq, eq_self, oI_1, oI_m, oI_5, oI_L, vi_ws_nil, vi_ws_I, vi_ws_J, vi_ws_R, wi_k, wi_n, wi_r, wi_l, wr_k, wr_n, wr_i, wr_l, wl_k, wl_n, wl_i, wl_r, Nat.reduceSub, Nat.reduceMul, cd_70_0, cd_70_26, cd_70_37, at_70_26, at_70_37, mc_70, ms_70, mr_70, mh_70, ml_70, xk, xr0, xr1, xr2, xr3, xr4, xr5, xr6, xr7, xr8, ak1, ak2, ak3, ak4, ak5, ak6, ak7, ak8, ak9, ak10, ak11, ak12, ak13, ak14, ak15, ak16, an1, an2, an4, an5, an6, an7, an8, an9, an10, an11, an12, an14, an15, an16, vr0, vr1, vr2, vr3, vr4, hr0, hr1, xi9, xi10, xi11, xi12, c5, c6, zk, z4, z5, z6, y1, y2, a3, ne]
    intro v ev
    rw [nI_subN (by omega), show w + y + lenP S (oP S z i) - w = y + lenP S (oP S z i) by omega] at ev
    subst ev
    rcases Nat.lt_or_ge e (y + lenP S (oP S z i)) with q | q
    · exact h1 _ (by omega) (Or.inl ⟨ok, y, a2, rfl, q⟩)
    · refine h0' (fun d hc => ?_) _ (nI_le q (by omega))
      obtain ⟨y', y3, y4, y5⟩ := n24 d hc
      have := LB.uniq a2 y3
      subst this
      omega
  · have ne : ¬ (-1 : Int32) = 0 := by decide
    refine vg_C_of rfl (by decide +kernel) (Nat.le_of_ble_eq_true rfl) ?_
    refine vi_run ok_70 [] 40 ?_
    rw [at_70_0]
    simp only [vg_ent, vg_en, List.length_cons, List.length_nil, Nat.reduceAdd, Nat.reduceSub, List.replicate, List.append_nil, List.nil_append, List.cons_append, mn_70]
    simp only [↓reduceIte, vi_go_c, ↓v1_iadd, ↓v1_isub, ↓v1_imul, ↓v1_iand, ↓v1_idiv, ↓v1_irem, ↓v1_ineg, ↓v1_ladd, ↓v1_lsub, ↓v1_land, ↓v1_lcmp, ↓v1_lshl, ↓v1_lshr, ↓v1_i2l, ↓v1_l2i, ↓v1_iconst_0, ↓v1_iconst_m, ↓v1_bipush, ↓v1_sipush, ↓v1_ldc, ↓v1_ldc_w, ↓v1_lconst, ↓v1_ldc2_w, ↓v1_aconst_null, ↓v1_iload, ↓v1_iload_n, ↓v1_lload, ↓v1_lload_n, ↓v1_aload, ↓v1_aload_n, ↓v1_istore, ↓v1_istore_n, ↓v1_lstore, ↓v1_lstore_n, ↓v1_astore, ↓v1_astore_n, ↓v1_iinc, ↓v1_dup, ↓v1_dup2, ↓v1_ifCond_eq, ↓v1_ifCond_ne, ↓v1_ifCond_lt, ↓v1_ifCond_ge, ↓v1_ifCond_gt, ↓v1_ifCond_le, ↓v1_if_icmp_eq, ↓v1_if_icmp_ne, ↓v1_if_icmp_lt, ↓v1_if_icmp_ge, ↓v1_if_icmp_gt, ↓v1_if_icmp_le, ↓v1_if_acmp_ne, ↓v1_ifnull, ↓v1_ifnonnull, ↓v1_goto, ↓v1_tableswitch_0, ↓v1_return_, ↓v1_ireturn, ↓v1_lreturn, ↓v1_areturn, ↓v1_getfield_0, ↓v1_putfield_0, ↓v1_getstatic, ↓v1_iaload, ↓v1_laload, ↓v1_baload, ↓v1_aaload, ↓v1_iastore, ↓v1_lastore, ↓v1_bastore, ↓v1_aastore_0, ↓v1_arraylength, ↓v1_new_0, ↓v1_newarray, ↓v1_anewarray, ↓v1_invokestatic_0, ↓v1_invokestatic_1, ↓v1_invokestatic_2a, ↓v1_invokevirtual_0, ↓v1_invokespecial_0, ↓v1_invokespecial_1a, ↓v1_invokespecial_1b, ↓vi_ii_e, ↓vi_i_e, ↓vi_jj_e, ↓vi_j_e, ↓vi_ij_e, ↓vi_r_e, ↓vi_rr_e, ↓vi_o_e, ↓vi_ir_e, ↓vi_iir_e, ↓vi_jir_e, ↓vi_rir_e, ↓vi_pop_z, ↓vi_pop_s, ↓vi_sw_n, ↓vi_sw_c, ↓vi_li_z, ↓vi_li_s, ↓vi_ll_z, ↓vi_ll_s, ↓vi_lr_z, ↓vi_lr_s, ↓vi_ret_l, ↓vi_ret_r, vi_sv, vg_set1, vg_set2, vg_lo, List.headD, List.contains_nil, List.contains_cons, Bool.or_false, Bool.false_eq_true, if_false, if_true, Nat.reduceAdd, Nat.reduceBEq, List.nil_append, List.cons_append, List.append_nil, Option.toList, Int32.reduceOfNat, Int64.reduceOfNat, reduceCtorEq, Nat.reduceLeDiff, Nat.le_refl, Nat.zero_le, true_and, and_true, false_or, or_false, or_true, true_or, and_self, not_true_eq_false, not_false_eq_true, forall_const, false_implies, true_implies, Sum.inl.injEq, Sum.inr.injEq, Option.some.injEq, eq_self, oI_1, oI_m, oI_5, oI_L, vi_ws_nil, vi_ws_I, vi_ws_J, vi_ws_R, wi_k, wi_n, wi_r, wi_l, wr_k, wr_n, wr_i, wr_l, wl_k, wl_n, wl_i, wl_r, Nat.reduceSub, Nat.reduceMul, cd_70_0, cd_70_26, cd_70_37, at_70_26, at_70_37, mc_70, ms_70, mr_70, mh_70, ml_70, xk, xr0, xr1, xr2, xr3, xr4, xr5, xr6, xr7, xr8, ak1, ak2, ak3, ak4, ak5, ak6, ak7, ak8, ak9, ak10, ak11, ak12, ak13, ak14, ak15, ak16, an1, an2, an4, an5, an6, an7, an8, an9, an10, an11, an12, an14, an15, an16, vr0, vr1, vr2, vr3, vr4, hr0, hr1, xi9, xi10, xi11, xi12, c5, c6, zk, z4, z5, z6, y1, y2, a3, ne]
    intro v ev
    subst ev
    refine h0' (fun d hc => ?_) _ ?_
    · obtain ⟨y', y3, y4, y5⟩ := n24 d hc
      exact a2 y' y3
    · have : (-1 : Int32) - nI w ≤ 0 := by
        rw [Int32.le_iff_toInt_le, Int32.toInt_sub, nI_toInt (by omega), show (-1 : Int32).toInt = -1 from rfl, Int.bmod_eq_of_le (by omega) (by omega)]
        show (-1 : Int) - w ≤ 0
        omega
      exact Int32.le_trans this (nI_pos' (by omega))
/-- the ranks known so far, and those of the offers alone -/
def RK (b : Nat) (W : WT) (lo m : Nat) (h : vg_H) : Prop := ∀ d, lo ≤ d → d < m → h.2.2.2.1 (b + 4) d = lN (rkN (W d))
def RA (S : SS) (b z n : Nat) (h : vg_H) : Prop := ∀ i, i < n → h.2.2.2.1 (b + 5) i = lN (prcP S (oP S z i) * 262144 + 32 + oP S z i)
theorem rkN_b {W : WT} {d : Nat} (h1 : (W d).1 ≤ 5780000) (h2 : (W d).2.1 ≤ 4320) (h3 : (W d).2.2.1 ≤ 24) : rkN (W d) < 2 ^ 41 := by unfold rkN; omega
set_option maxRecDepth 100000 in
theorem l_69 {z w m e : Nat} {W : WT} {h h0 : vg_H} (hC' : TC G b A S z w m h0 h) (hT : Tar S) (hz : z < 4) (hw : w < 10080) (hm : m ≤ 4320) (he : e < m) (hR : Right S z w m W) (hP : PH S b z w e (offs S z).length h) (hK : RK b W (e + 1) m h) (hA : RA S b z (offs S z).length h) (hQ : Q (.inl (some (.inr (.inl (lN (rkN (W e))))))) h) : ∀ (n i : Nat) (o : Option (Nat × Nat × Nat × Nat)), i + n = (offs S z).length → BOP S W z w e (fun p => p = 24 ∨ ∃ j, j < i ∧ oP S z j = p) o →
    vg_A G (MT 69) 0 0 40 [some (.inr (.inr (some (b + 3)))), some (.inl (nI e)), some (.inr (.inl (lgO o))), none, some (.inl (nI i)), none, none, none] [] h Q := by
  have hC := hC'.2.1
  have c5 := hC'.2.2.2.1
  have c7 := hC'.2.2.2.2.2.1
  obtain ⟨xk, xr0, xr1, xr2, xr3, xr4, xr5, xr6, xr7, xr8, ak1, ak2, ak3, ak4, ak5, ak6, ak7, ak8, ak9, ak10, ak11, ak12, ak13, ak14, ak15, ak16, an1, an2, an4, an5, an6, an7, an8, an9, an10, an11, an12, an14, an15, an16, vr0, vr1, vr2, vr3, vr4, hr0, hr1, xz⟩ := hC.1
  obtain ⟨xi9, xi10, xi11, xi12⟩ := hC.2.1
  obtain ⟨z1, zk, z3, z4, z5, z6, z7, z8⟩ := hC.2.2.1 z hz
  have ol := offs_len S z
  have cn := (hC'.2.2.1.1 z hz).1
  have bnd : ∀ d, (W d).1 ≤ 5780000 ∧ (W d).2.1 ≤ 4320 ∧ (W d).2.2.1 ≤ 24 := fun d => by
    have := hR.price hT.2.1 hT.1 hz d
    have := hR.many d
    have := hR.first d
    omega
  have ob : ∀ P o v, BOP S W z w e P o → o = some v → rkN v < 2 ^ 63 ∧ v.2.1 < 8192 ∧ v.2.2.1 < 32 := by
    intro P o v ho hv
    rcases ho with ⟨q, _⟩ | ⟨p, d, _, q2, q3, _⟩
    · rw [q] at hv; cases hv
    · rw [q3] at hv
      injection hv with hv
      subst hv
      have b1 := bnd d
      have b2 := q2.le24
      have b3 : prcP S p ≤ 20000 := by
        rcases q2 with ⟨k1, _⟩ | ⟨k1, _⟩
        · exact (hT.1 p k1.1 k1.2.1).1
        · unfold prcP; rw [if_pos k1]; omega
      have e1 : (valC S W p d).1 = prcP S p + (W d).1 := rfl
      have e2 : (valC S W p d).2.1 = 1 + (W d).2.1 := rfl
      have e3 : (valC S W p d).2.2.1 = p := rfl
      unfold rkN
      rw [e1, e2, e3]
      omega
  intro n
  induction n with
  | zero =>
    intro i o hi hB
    have e1 : nI (offs S z).length ≤ nI i := nI_le (by omega) (by omega)
    have oe : o = some (W e) := by
      refine BOP_end hR he (fun p d hc => ?_) hB
      rcases hc with ⟨k1, _⟩ | ⟨k1, _⟩
      · obtain ⟨j, j1, j2⟩ := offs_ex k1
        exact Or.inr ⟨j, by omega, j2⟩
      · exact Or.inl k1
    subst oe
    refine vi_run ok_69 [52] 40 ?_
    rw [at_69_40]
    simp only [↓reduceIte, vi_go_c, ↓v1_iadd, ↓v1_isub, ↓v1_imul, ↓v1_iand, ↓v1_idiv, ↓v1_irem, ↓v1_ineg, ↓v1_ladd, ↓v1_lsub, ↓v1_land, ↓v1_lcmp, ↓v1_lshl, ↓v1_lshr, ↓v1_i2l, ↓v1_l2i, ↓v1_iconst_0, ↓v1_iconst_m, ↓v1_bipush, ↓v1_sipush, ↓v1_ldc, ↓v1_ldc_w, ↓v1_lconst, ↓v1_ldc2_w, ↓v1_aconst_null, ↓v1_iload, ↓v1_iload_n, ↓v1_lload, ↓v1_lload_n, ↓v1_aload, ↓v1_aload_n, ↓v1_istore, ↓v1_istore_n, ↓v1_lstore, ↓v1_lstore_n, ↓v1_astore, ↓v1_astore_n, ↓v1_iinc, ↓v1_dup, ↓v1_dup2, ↓v1_ifCond_eq, ↓v1_ifCond_ne, ↓v1_ifCond_lt, ↓v1_ifCond_ge, ↓v1_ifCond_gt, ↓v1_ifCond_le, ↓v1_if_icmp_eq, ↓v1_if_icmp_ne, ↓v1_if_icmp_lt, ↓v1_if_icmp_ge, ↓v1_if_icmp_gt, ↓v1_if_icmp_le, ↓v1_if_acmp_ne, ↓v1_ifnull, ↓v1_ifnonnull, ↓v1_goto, ↓v1_tableswitch_0, ↓v1_return_, ↓v1_ireturn, ↓v1_lreturn, ↓v1_areturn, ↓v1_getfield_0, ↓v1_putfield_0, ↓v1_getstatic, ↓v1_iaload, ↓v1_laload, ↓v1_baload, ↓v1_aaload, ↓v1_iastore, ↓v1_lastore, ↓v1_bastore, ↓v1_aastore_0, ↓v1_arraylength, ↓v1_new_0, ↓v1_newarray, ↓v1_anewarray, ↓v1_invokestatic_0, ↓v1_invokestatic_1, ↓v1_invokestatic_2a, ↓v1_invokevirtual_0, ↓v1_invokespecial_0, ↓v1_invokespecial_1a, ↓v1_invokespecial_1b, ↓vi_ii_e, ↓vi_i_e, ↓vi_jj_e, ↓vi_j_e, ↓vi_ij_e, ↓vi_r_e, ↓vi_rr_e, ↓vi_o_e, ↓vi_ir_e, ↓vi_iir_e, ↓vi_jir_e, ↓vi_rir_e, ↓vi_pop_z, ↓vi_pop_s, ↓vi_sw_n, ↓vi_sw_c, ↓vi_li_z, ↓vi_li_s, ↓vi_ll_z, ↓vi_ll_s, ↓vi_lr_z, ↓vi_lr_s, ↓vi_ret_l, ↓vi_ret_r, vi_sv, vg_set1, vg_set2, vg_lo, List.headD, List.contains_nil, List.contains_cons, Bool.or_false, Bool.false_eq_true, if_false, if_true, Nat.reduceAdd, Nat.reduceBEq, List.nil_append, List.cons_append, List.append_nil, Option.toList, Int32.reduceOfNat, Int64.reduceOfNat, reduceCtorEq, Nat.reduceLeDiff, Nat.le_refl, Nat.zero_le, true_and, and_true, false_or, or_false, or_true, true_or, and_self, not_true_eq_false, not_false_eq_true, forall_const, false_implies, true_implies, Sum.inl.injEq, Sum.inr.injEq, Option.some.injEq, eq_self, oI_1, oI_m, oI_5, oI_L, vi_ws_nil, vi_ws_I, vi_ws_J, vi_ws_R, wi_k, wi_n, wi_r, wi_l, wr_k, wr_n, wr_i, wr_l, wl_k, wl_n, wl_i, wl_r, Nat.reduceSub, Nat.reduceMul, cd_69_0, cd_69_37, cd_69_40, cd_69_95, cd_69_96, cd_69_97, cd_69_103, at_69_37, at_69_40, at_69_95, at_69_96, at_69_97, at_69_103, mc_69, ms_69, mr_69, mh_69, ml_69, mc_70, ms_70, mc_74, ms_74, mc_75, ms_75, xk, xr0, xr1, xr2, xr3, xr4, xr5, xr6, xr7, xr8, ak1, ak2, ak3, ak4, ak5, ak6, ak7, ak8, ak9, ak10, ak11, ak12, ak13, ak14, ak15, ak16, an1, an2, an4, an5, an6, an7, an8, an9, an10, an11, an12, an14, an15, an16, vr0, vr1, vr2, vr3, vr4, hr0, hr1, xi9, xi10, xi11, xi12, c5, zk, cn, e1]
    exact hQ
  | succ n ih =>
    intro i o hi hB
    have e1 : ¬ nI (offs S z).length ≤ nI i := nI_ge (by omega) (by omega)
    have y1 := nI_clamp (show i < 2 ^ 31 by omega)
    have y2 : vp_in (nI i) 24 := vp_nI (by omega) (by omega)
    have ok := offs_ok (show i < (offs S z).length by omega)
    have hin : ∀ p, (p = 24 ∨ ∃ j, j < i + 1 ∧ oP S z j = p) ↔ ((p = 24 ∨ ∃ j, j < i ∧ oP S z j = p) ∨ p = oP S z i) := by
      intro p
      constructor
      · rintro (q | ⟨j, j1, j2⟩)
        · exact Or.inl (Or.inl q)
        · by_cases x : j = i
          · subst x; exact Or.inr j2.symm
          · exact Or.inl (Or.inr ⟨j, by omega, j2⟩)
      · rintro ((q | ⟨j, j1, j2⟩) | q)
        · exact Or.inl q
        · exact Or.inr ⟨j, by omega, j2⟩
        · exact Or.inr ⟨i, by omega, q.symm⟩
    have nx : ∀ (o' : Option (Nat × Nat × Nat × Nat)) (u v1 v2 : Option vg_V), BOP S W z w e (fun p => p = 24 ∨ ∃ j, j < i + 1 ∧ oP S z j = p) o' → vg_A G (MT 69) 0 0 97 [some (.inr (.inr (some (b + 3)))), some (.inl (nI e)), some (.inr (.inl (lgO o'))), none, some (.inl (nI i)), u, v1, v2] [] h Q := by
      intro o' u v1 v2 hB'
      refine vi_run ok_69 [40] 20 ?_
      rw [at_69_97]
      simp only [↓reduceIte, vi_go_c, ↓v1_iadd, ↓v1_isub, ↓v1_imul, ↓v1_iand, ↓v1_idiv, ↓v1_irem, ↓v1_ineg, ↓v1_ladd, ↓v1_lsub, ↓v1_land, ↓v1_lcmp, ↓v1_lshl, ↓v1_lshr, ↓v1_i2l, ↓v1_l2i, ↓v1_iconst_0, ↓v1_iconst_m, ↓v1_bipush, ↓v1_sipush, ↓v1_ldc, ↓v1_ldc_w, ↓v1_lconst, ↓v1_ldc2_w, ↓v1_aconst_null, ↓v1_iload, ↓v1_iload_n, ↓v1_lload, ↓v1_lload_n, ↓v1_aload, ↓v1_aload_n, ↓v1_istore, ↓v1_istore_n, ↓v1_lstore, ↓v1_lstore_n, ↓v1_astore, ↓v1_astore_n, ↓v1_iinc, ↓v1_dup, ↓v1_dup2, ↓v1_ifCond_eq, ↓v1_ifCond_ne, ↓v1_ifCond_lt, ↓v1_ifCond_ge, ↓v1_ifCond_gt, ↓v1_ifCond_le, ↓v1_if_icmp_eq, ↓v1_if_icmp_ne, ↓v1_if_icmp_lt, ↓v1_if_icmp_ge, ↓v1_if_icmp_gt, ↓v1_if_icmp_le, ↓v1_if_acmp_ne, ↓v1_ifnull, ↓v1_ifnonnull, ↓v1_goto, ↓v1_tableswitch_0, ↓v1_return_, ↓v1_ireturn, ↓v1_lreturn, ↓v1_areturn, ↓v1_getfield_0, ↓v1_putfield_0, ↓v1_getstatic, ↓v1_iaload, ↓v1_laload, ↓v1_baload, ↓v1_aaload, ↓v1_iastore, ↓v1_lastore, ↓v1_bastore, ↓v1_aastore_0, ↓v1_arraylength, ↓v1_new_0, ↓v1_newarray, ↓v1_anewarray, ↓v1_invokestatic_0, ↓v1_invokestatic_1, ↓v1_invokestatic_2a, ↓v1_invokevirtual_0, ↓v1_invokespecial_0, ↓v1_invokespecial_1a, ↓v1_invokespecial_1b, ↓vi_ii_e, ↓vi_i_e, ↓vi_jj_e, ↓vi_j_e, ↓vi_ij_e, ↓vi_r_e, ↓vi_rr_e, ↓vi_o_e, ↓vi_ir_e, ↓vi_iir_e, ↓vi_jir_e, ↓vi_rir_e, ↓vi_pop_z, ↓vi_pop_s, ↓vi_sw_n, ↓vi_sw_c, ↓vi_li_z, ↓vi_li_s, ↓vi_ll_z, ↓vi_ll_s, ↓vi_lr_z, ↓vi_lr_s, ↓vi_ret_l, ↓vi_ret_r, vi_sv, vg_set1, vg_set2, vg_lo, List.headD, List.contains_nil, List.contains_cons, Bool.or_false, Bool.false_eq_true, if_false, if_true, Nat.reduceAdd, Nat.reduceBEq, List.nil_append, List.cons_append, List.append_nil, Option.toList, Int32.reduceOfNat, Int64.reduceOfNat, reduceCtorEq, Nat.reduceLeDiff, Nat.le_refl, Nat.zero_le, true_and, and_true, false_or, or_false, or_true, true_or, and_self, not_true_eq_false, not_false_eq_true, forall_const, false_implies, true_implies, Sum.inl.injEq, Sum.inr.injEq, Option.some.injEq, eq_self, oI_1, oI_m, oI_5, oI_L, vi_ws_nil, vi_ws_I, vi_ws_J, vi_ws_R, wi_k, wi_n, wi_r, wi_l, wr_k, wr_n, wr_i, wr_l, wl_k, wl_n, wl_i, wl_r, Nat.reduceSub, Nat.reduceMul, cd_69_0, cd_69_37, cd_69_40, cd_69_95, cd_69_96, cd_69_97, cd_69_103, at_69_37, at_69_40, at_69_95, at_69_96, at_69_97, at_69_103, mc_69, ms_69, mr_69, mh_69, ml_69, mc_70, ms_70, mc_74, ms_74, mc_75, ms_75]
      intro v ev
      rw [← nI_succ] at ev; subst ev
      exact vr_less (vr_none 5 rfl) (vr_less (vr_none 6 rfl) (vr_less (vr_none 7 rfl) (ih (i + 1) o' (by omega) hB')))
    refine vi_run ok_69 [97, 67] 40 ?_
    rw [at_69_40]
    simp only [↓reduceIte, vi_go_c, ↓v1_iadd, ↓v1_isub, ↓v1_imul, ↓v1_iand, ↓v1_idiv, ↓v1_irem, ↓v1_ineg, ↓v1_ladd, ↓v1_lsub, ↓v1_land, ↓v1_lcmp, ↓v1_lshl, ↓v1_lshr, ↓v1_i2l, ↓v1_l2i, ↓v1_iconst_0, ↓v1_iconst_m, ↓v1_bipush, ↓v1_sipush, ↓v1_ldc, ↓v1_ldc_w, ↓v1_lconst, ↓v1_ldc2_w, ↓v1_aconst_null, ↓v1_iload, ↓v1_iload_n, ↓v1_lload, ↓v1_lload_n, ↓v1_aload, ↓v1_aload_n, ↓v1_istore, ↓v1_istore_n, ↓v1_lstore, ↓v1_lstore_n, ↓v1_astore, ↓v1_astore_n, ↓v1_iinc, ↓v1_dup, ↓v1_dup2, ↓v1_ifCond_eq, ↓v1_ifCond_ne, ↓v1_ifCond_lt, ↓v1_ifCond_ge, ↓v1_ifCond_gt, ↓v1_ifCond_le, ↓v1_if_icmp_eq, ↓v1_if_icmp_ne, ↓v1_if_icmp_lt, ↓v1_if_icmp_ge, ↓v1_if_icmp_gt, ↓v1_if_icmp_le, ↓v1_if_acmp_ne, ↓v1_ifnull, ↓v1_ifnonnull, ↓v1_goto, ↓v1_tableswitch_0, ↓v1_return_, ↓v1_ireturn, ↓v1_lreturn, ↓v1_areturn, ↓v1_getfield_0, ↓v1_putfield_0, ↓v1_getstatic, ↓v1_iaload, ↓v1_laload, ↓v1_baload, ↓v1_aaload, ↓v1_iastore, ↓v1_lastore, ↓v1_bastore, ↓v1_aastore_0, ↓v1_arraylength, ↓v1_new_0, ↓v1_newarray, ↓v1_anewarray, ↓v1_invokestatic_0, ↓v1_invokestatic_1, ↓v1_invokestatic_2a, ↓v1_invokevirtual_0, ↓v1_invokespecial_0, ↓v1_invokespecial_1a, ↓v1_invokespecial_1b, ↓vi_ii_e, ↓vi_i_e, ↓vi_jj_e, ↓vi_j_e, ↓vi_ij_e, ↓vi_r_e, ↓vi_rr_e, ↓vi_o_e, ↓vi_ir_e, ↓vi_iir_e, ↓vi_jir_e, ↓vi_rir_e, ↓vi_pop_z, ↓vi_pop_s, ↓vi_sw_n, ↓vi_sw_c, ↓vi_li_z, ↓vi_li_s, ↓vi_ll_z, ↓vi_ll_s, ↓vi_lr_z, ↓vi_lr_s, ↓vi_ret_l, ↓vi_ret_r, vi_sv, vg_set1, vg_set2, vg_lo, List.headD, List.contains_nil, List.contains_cons, Bool.or_false, Bool.false_eq_true, if_false, if_true, Nat.reduceAdd, Nat.reduceBEq, List.nil_append, List.cons_append, List.append_nil, Option.toList, Int32.reduceOfNat, Int64.reduceOfNat, reduceCtorEq, Nat.reduceLeDiff, Nat.le_refl, Nat.zero_le, true_and, and_true, false_or, or_false, or_true, true_or, and_self, not_true_eq_false, not_false_eq_true, forall_const, false_implies, true_implies, Sum.inl.injEq, Sum.inr.injEq, Option.some.injEq, eq_self, oI_1, oI_m, oI_5, oI_L, vi_ws_nil, vi_ws_I, vi_ws_J, vi_ws_R, wi_k, wi_n, wi_r, wi_l, wr_k, wr_n, wr_i, wr_l, wl_k, wl_n, wl_i, wl_r, Nat.reduceSub, Nat.reduceMul, cd_69_0, cd_69_37, cd_69_40, cd_69_95, cd_69_96, cd_69_97, cd_69_103, at_69_37, at_69_40, at_69_95, at_69_96, at_69_97, at_69_103, mc_69, ms_69, mr_69, mh_69, ml_69, mc_70, ms_70, mc_74, ms_74, mc_75, ms_75, xk, xr0, xr1, xr2, xr3, xr4, xr5, xr6, xr7, xr8, ak1, ak2, ak3, ak4, ak5, ak6, ak7, ak8, ak9, ak10, ak11, ak12, ak13, ak14, ak15, ak16, an1, an2, an4, an5, an6, an7, an8, an9, an10, an11, an12, an14, an15, an16, vr0, vr1, vr2, vr3, vr4, hr0, hr1, xi9, xi10, xi11, xi12, c5, zk, cn, e1]
    refine c_70 hC' hT hz hw (by omega) (by omega) hP (fun d hd hc => ?_) (fun hn v hv => ?_)
    · have dg := hc.gt
      have gt : ¬ nI d ≤ nI e := nI_ge dg (by omega)
      have af := hA i (by omega)
      simp only [↓reduceIte, vi_go_c, ↓v1_iadd, ↓v1_isub, ↓v1_imul, ↓v1_iand, ↓v1_idiv, ↓v1_irem, ↓v1_ineg, ↓v1_ladd, ↓v1_lsub, ↓v1_land, ↓v1_lcmp, ↓v1_lshl, ↓v1_lshr, ↓v1_i2l, ↓v1_l2i, ↓v1_iconst_0, ↓v1_iconst_m, ↓v1_bipush, ↓v1_sipush, ↓v1_ldc, ↓v1_ldc_w, ↓v1_lconst, ↓v1_ldc2_w, ↓v1_aconst_null, ↓v1_iload, ↓v1_iload_n, ↓v1_lload, ↓v1_lload_n, ↓v1_aload, ↓v1_aload_n, ↓v1_istore, ↓v1_istore_n, ↓v1_lstore, ↓v1_lstore_n, ↓v1_astore, ↓v1_astore_n, ↓v1_iinc, ↓v1_dup, ↓v1_dup2, ↓v1_ifCond_eq, ↓v1_ifCond_ne, ↓v1_ifCond_lt, ↓v1_ifCond_ge, ↓v1_ifCond_gt, ↓v1_ifCond_le, ↓v1_if_icmp_eq, ↓v1_if_icmp_ne, ↓v1_if_icmp_lt, ↓v1_if_icmp_ge, ↓v1_if_icmp_gt, ↓v1_if_icmp_le, ↓v1_if_acmp_ne, ↓v1_ifnull, ↓v1_ifnonnull, ↓v1_goto, ↓v1_tableswitch_0, ↓v1_return_, ↓v1_ireturn, ↓v1_lreturn, ↓v1_areturn, ↓v1_getfield_0, ↓v1_putfield_0, ↓v1_getstatic, ↓v1_iaload, ↓v1_laload, ↓v1_baload, ↓v1_aaload, ↓v1_iastore, ↓v1_lastore, ↓v1_bastore, ↓v1_aastore_0, ↓v1_arraylength, ↓v1_new_0, ↓v1_newarray, ↓v1_anewarray, ↓v1_invokestatic_0, ↓v1_invokestatic_1, ↓v1_invokestatic_2a, ↓v1_invokevirtual_0, ↓v1_invokespecial_0, ↓v1_invokespecial_1a, ↓v1_invokespecial_1b, ↓vi_ii_e, ↓vi_i_e, ↓vi_jj_e, ↓vi_j_e, ↓vi_ij_e, ↓vi_r_e, ↓vi_rr_e, ↓vi_o_e, ↓vi_ir_e, ↓vi_iir_e, ↓vi_jir_e, ↓vi_rir_e, ↓vi_pop_z, ↓vi_pop_s, ↓vi_sw_n, ↓vi_sw_c, ↓vi_li_z, ↓vi_li_s, ↓vi_ll_z, ↓vi_ll_s, ↓vi_lr_z, ↓vi_lr_s, ↓vi_ret_l, ↓vi_ret_r, vi_sv, vg_set1, vg_set2, vg_lo, List.headD, List.contains_nil, List.contains_cons, Bool.or_false, Bool.false_eq_true, if_false, if_true, Nat.reduceAdd, Nat.reduceBEq, List.nil_append, List.cons_append, List.append_nil, Option.toList, Int32.reduceOfNat, Int64.reduceOfNat, reduceCtorEq, Nat.reduceLeDiff, Nat.le_refl, Nat.zero_le, true_and, and_true, false_or, or_false, or_true, true_or, and_self, not_true_eq_false, not_false_eq_true, forall_const, false_implies, true_implies, Sum.inl.injEq, Sum.inr.injEq, Option.some.injEq, eq_self, oI_1, oI_m, oI_5, oI_L, vi_ws_nil, vi_ws_I, vi_ws_J, vi_ws_R, wi_k, wi_n, wi_r, wi_l, wr_k, wr_n, wr_i, wr_l, wl_k, wl_n, wl_i, wl_r, Nat.reduceSub, Nat.reduceMul, cd_69_0, cd_69_37, cd_69_40, cd_69_95, cd_69_96, cd_69_97, cd_69_103, at_69_37, at_69_40, at_69_95, at_69_96, at_69_97, at_69_103, mc_69, ms_69, mr_69, mh_69, ml_69, mc_70, ms_70, mc_74, ms_74, mc_75, ms_75, xk, xr0, xr1, xr2, xr3, xr4, xr5, xr6, xr7, xr8, ak1, ak2, ak3, ak4, ak5, ak6, ak7, ak8, ak9, ak10, ak11, ak12, ak13, ak14, ak15, ak16, an1, an2, an4, an5, an6, an7, an8, an9, an10, an11, an12, an14, an15, an16, vr0, vr1, vr2, vr3, vr4, hr0, hr1, xi9, xi10, xi11, xi12, gt, Bool.or_true, Bool.true_or]
      have pr : prcP S (oP S z i) ≤ 20000 := (hT.1 _ ok.1 ok.2.1).1
      have p24 := ok.1
      have b1 := bnd d
      have rb := rkN_b b1.1 b1.2.1 b1.2.2
      refine vi_run ok_69 [97] 40 ?_
      rw [show vi_at cd_69 67 = (67, 1, .aload_n 0, [0]) :: (68, 3, .getfield 15, [2, 1, 2, 90]) :: (71, 2, .iload 4, [4]) :: (73, 1, .laload, []) :: (74, 1, .aload_n 0, [0]) :: (75, 2, .iload 5, [5]) :: (77, 3, .invokevirtual 50, [74, 1, 2, 596, 599, 51, 598, 17]) :: (80, 1, .ladd, []) :: (81, 2, .lstore 6, [6]) :: (83, 2, .lload 6, [6]) :: (85, 1, .lload_n 2, [2]) :: (86, 1, .lcmp, []) :: (87, 3, .ifCond .ge 8, [95]) :: (90, 2, .lload 6, [6]) :: (92, 3, .goto 4, [96]) :: cd_69_95 from rfl]
      simp only [↓reduceIte, vi_go_c, ↓v1_iadd, ↓v1_isub, ↓v1_imul, ↓v1_iand, ↓v1_idiv, ↓v1_irem, ↓v1_ineg, ↓v1_ladd, ↓v1_lsub, ↓v1_land, ↓v1_lcmp, ↓v1_lshl, ↓v1_lshr, ↓v1_i2l, ↓v1_l2i, ↓v1_iconst_0, ↓v1_iconst_m, ↓v1_bipush, ↓v1_sipush, ↓v1_ldc, ↓v1_ldc_w, ↓v1_lconst, ↓v1_ldc2_w, ↓v1_aconst_null, ↓v1_iload, ↓v1_iload_n, ↓v1_lload, ↓v1_lload_n, ↓v1_aload, ↓v1_aload_n, ↓v1_istore, ↓v1_istore_n, ↓v1_lstore, ↓v1_lstore_n, ↓v1_astore, ↓v1_astore_n, ↓v1_iinc, ↓v1_dup, ↓v1_dup2, ↓v1_ifCond_eq, ↓v1_ifCond_ne, ↓v1_ifCond_lt, ↓v1_ifCond_ge, ↓v1_ifCond_gt, ↓v1_ifCond_le, ↓v1_if_icmp_eq, ↓v1_if_icmp_ne, ↓v1_if_icmp_lt, ↓v1_if_icmp_ge, ↓v1_if_icmp_gt, ↓v1_if_icmp_le, ↓v1_if_acmp_ne, ↓v1_ifnull, ↓v1_ifnonnull, ↓v1_goto, ↓v1_tableswitch_0, ↓v1_return_, ↓v1_ireturn, ↓v1_lreturn, ↓v1_areturn, ↓v1_getfield_0, ↓v1_putfield_0, ↓v1_getstatic, ↓v1_iaload, ↓v1_laload, ↓v1_baload, ↓v1_aaload, ↓v1_iastore, ↓v1_lastore, ↓v1_bastore, ↓v1_aastore_0, ↓v1_arraylength, ↓v1_new_0, ↓v1_newarray, ↓v1_anewarray, ↓v1_invokestatic_0, ↓v1_invokestatic_1, ↓v1_invokestatic_2a, ↓v1_invokevirtual_0, ↓v1_invokespecial_0, ↓v1_invokespecial_1a, ↓v1_invokespecial_1b, ↓vi_ii_e, ↓vi_i_e, ↓vi_jj_e, ↓vi_j_e, ↓vi_ij_e, ↓vi_r_e, ↓vi_rr_e, ↓vi_o_e, ↓vi_ir_e, ↓vi_iir_e, ↓vi_jir_e, ↓vi_rir_e, ↓vi_pop_z, ↓vi_pop_s, ↓vi_sw_n, ↓vi_sw_c, ↓vi_li_z, ↓vi_li_s, ↓vi_ll_z, ↓vi_ll_s, ↓vi_lr_z, ↓vi_lr_s, ↓vi_ret_l, ↓vi_ret_r, vi_sv, vg_set1, vg_set2, vg_lo, List.headD, List.contains_nil, List.contains_cons, Bool.or_false, Bool.false_eq_true, if_false, if_true, Nat.reduceAdd, Nat.reduceBEq, List.nil_append, List.cons_append, List.append_nil, Option.toList, Int32.reduceOfNat, Int64.reduceOfNat, reduceCtorEq, Nat.reduceLeDiff, Nat.le_refl, Nat.zero_le, true_and, and_true, false_or, or_false, or_true, true_or, and_self, not_true_eq_false, not_false_eq_true, forall_const, false_implies, true_implies, Sum.inl.injEq, Sum.inr.injEq, Option.some.injEq, eq_self, oI_1, oI_m, oI_5, oI_L, vi_ws_nil, vi_ws_I, vi_ws_J, vi_ws_R, wi_k, wi_n, wi_r, wi_l, wr_k, wr_n, wr_i, wr_l, wl_k, wl_n, wl_i, wl_r, Nat.reduceSub, Nat.reduceMul, cd_69_0, cd_69_37, cd_69_40, cd_69_95, cd_69_96, cd_69_97, cd_69_103, at_69_37, at_69_40, at_69_95, at_69_96, at_69_97, at_69_103, mc_69, ms_69, mr_69, mh_69, ml_69, mc_70, ms_70, mc_74, ms_74, mc_75, ms_75, xk, xr0, xr1, xr2, xr3, xr4, xr5, xr6, xr7, xr8, ak1, ak2, ak3, ak4, ak5, ak6, ak7, ak8, ak9, ak10, ak11, ak12, ak13, ak14, ak15, ak16, an1, an2, an4, an5, an6, an7, an8, an9, an10, an11, an12, an14, an15, an16, vr0, vr1, vr2, vr3, vr4, hr0, hr1, xi9, xi10, xi11, xi12, y1, y2, af]
      refine c_74 (W := W) hC' hm (by omega) (fun q => ⟨hK d (by omega) q, by omega⟩) (fun q => hR.1 d q) ?_
      have hB2 := BOP_yes hB hc hin
      have vb := ob (fun p => p = oP S z i) (some (valC S W (oP S z i) d)) _ (Or.inr ⟨_, d, rfl, hc, rfl, fun p' d' hp hc' => by subst hp; rw [Cand.uniq hc' hc]; unfold lexL; omega⟩) rfl
      simp only [↓reduceIte, vi_go_c, ↓v1_iadd, ↓v1_isub, ↓v1_imul, ↓v1_iand, ↓v1_idiv, ↓v1_irem, ↓v1_ineg, ↓v1_ladd, ↓v1_lsub, ↓v1_land, ↓v1_lcmp, ↓v1_lshl, ↓v1_lshr, ↓v1_i2l, ↓v1_l2i, ↓v1_iconst_0, ↓v1_iconst_m, ↓v1_bipush, ↓v1_sipush, ↓v1_ldc, ↓v1_ldc_w, ↓v1_lconst, ↓v1_ldc2_w, ↓v1_aconst_null, ↓v1_iload, ↓v1_iload_n, ↓v1_lload, ↓v1_lload_n, ↓v1_aload, ↓v1_aload_n, ↓v1_istore, ↓v1_istore_n, ↓v1_lstore, ↓v1_lstore_n, ↓v1_astore, ↓v1_astore_n, ↓v1_iinc, ↓v1_dup, ↓v1_dup2, ↓v1_ifCond_eq, ↓v1_ifCond_ne, ↓v1_ifCond_lt, ↓v1_ifCond_ge, ↓v1_ifCond_gt, ↓v1_ifCond_le, ↓v1_if_icmp_eq, ↓v1_if_icmp_ne, ↓v1_if_icmp_lt, ↓v1_if_icmp_ge, ↓v1_if_icmp_gt, ↓v1_if_icmp_le, ↓v1_if_acmp_ne, ↓v1_ifnull, ↓v1_ifnonnull, ↓v1_goto, ↓v1_tableswitch_0, ↓v1_return_, ↓v1_ireturn, ↓v1_lreturn, ↓v1_areturn, ↓v1_getfield_0, ↓v1_putfield_0, ↓v1_getstatic, ↓v1_iaload, ↓v1_laload, ↓v1_baload, ↓v1_aaload, ↓v1_iastore, ↓v1_lastore, ↓v1_bastore, ↓v1_aastore_0, ↓v1_arraylength, ↓v1_new_0, ↓v1_newarray, ↓v1_anewarray, ↓v1_invokestatic_0, ↓v1_invokestatic_1, ↓v1_invokestatic_2a, ↓v1_invokevirtual_0, ↓v1_invokespecial_0, ↓v1_invokespecial_1a, ↓v1_invokespecial_1b, ↓vi_ii_e, ↓vi_i_e, ↓vi_jj_e, ↓vi_j_e, ↓vi_ij_e, ↓vi_r_e, ↓vi_rr_e, ↓vi_o_e, ↓vi_ir_e, ↓vi_iir_e, ↓vi_jir_e, ↓vi_rir_e, ↓vi_pop_z, ↓vi_pop_s, ↓vi_sw_n, ↓vi_sw_c, ↓vi_li_z, ↓vi_li_s, ↓vi_ll_z, ↓vi_ll_s, ↓vi_lr_z, ↓vi_lr_s, ↓vi_ret_l, ↓vi_ret_r, vi_sv, vg_set1, vg_set2, vg_lo, List.headD, List.contains_nil, List.contains_cons, Bool.or_false, Bool.false_eq_true, if_false, if_true, Nat.reduceAdd, Nat.reduceBEq, List.nil_append, List.cons_append, List.append_nil, Option.toList, Int32.reduceOfNat, Int64.reduceOfNat, reduceCtorEq, Nat.reduceLeDiff, Nat.le_refl, Nat.zero_le, true_and, and_true, false_or, or_false, or_true, true_or, and_self, not_true_eq_false, not_false_eq_true, forall_const, false_implies, true_implies, Sum.inl.injEq, Sum.inr.injEq, Option.some.injEq, eq_self, oI_1, oI_m, oI_5, oI_L, vi_ws_nil, vi_ws_I, vi_ws_J, vi_ws_R, wi_k, wi_n, wi_r, wi_l, wr_k, wr_n, wr_i, wr_l, wl_k, wl_n, wl_i, wl_r, Nat.reduceSub, Nat.reduceMul, cd_69_0, cd_69_37, cd_69_40, cd_69_95, cd_69_96, cd_69_97, cd_69_103, at_69_37, at_69_40, at_69_95, at_69_96, at_69_97, at_69_103, mc_69, ms_69, mr_69, mh_69, ml_69, mc_70, ms_70, mc_74, ms_74, mc_75, ms_75, xk, xr0, xr1, xr2, xr3, xr4, xr5, xr6, xr7, xr8, ak1, ak2, ak3, ak4, ak5, ak6, ak7, ak8, ak9, ak10, ak11, ak12, ak13, ak14, ak15, ak16, an1, an2, an4, an5, an6, an7, an8, an9, an10, an11, an12, an14, an15, an16, vr0, vr1, vr2, vr3, vr4, hr0, hr1, xi9, xi10, xi11, xi12]
      intro v1 e1
      rw [lN_add, rk_sum (by omega) (by omega)] at e1
      subst e1
      intro v2 e2
      rw [e2, lg_cmp_ge]
      cases o with
      | none =>
        have lt : lN (rkN (valC S W (oP S z i) d)) < 9223372036854775807 := by
          rw [Int64.lt_iff_toInt_lt, lN_toIntB vb.1, show (9223372036854775807 : Int64).toInt = 9223372036854775807 from rfl]
          have := vb.1
          unfold rkN at *
          rw [show (valC S W (oP S z i) d).1 = prcP S (oP S z i) + (W d).1 from rfl, show (valC S W (oP S z i) d).2.1 = 1 + (W d).2.1 from rfl, show (valC S W (oP S z i) d).2.2.1 = oP S z i from rfl] at *
          omega
        refine ⟨fun q => absurd q (Int64.not_le.mpr lt), fun _ => ?_⟩
        exact nx _ _ _ _ hB2
      | some a =>
        have ab := ob _ _ a hB rfl
        show (lN (rkN a) ≤ _ → _) ∧ (¬ lN (rkN a) ≤ _ → _)
        have cmp : lN (rkN a) ≤ lN (rkN (valC S W (oP S z i) d)) ↔ ¬ lexL (valC S W (oP S z i) d) a := by
          rw [← Int64.not_lt, lN_ltB vb.1 ab.1, rkN_lt vb.2 ab.2]
        rw [cmp]
        refine ⟨fun q => ?_, fun q => ?_⟩
        · have be : bestO (some a) (valC S W (oP S z i) d) = some a := if_neg q
          rw [be] at hB2
          exact nx _ _ _ _ hB2
        · have be : bestO (some a) (valC S W (oP S z i) d) = some (valC S W (oP S z i) d) := if_pos (Classical.not_not.mp q)
          rw [be] at hB2
          exact nx _ _ _ _ hB2
    · have hB2 : BOP S W z w e (fun p => p = 24 ∨ ∃ j, j < i + 1 ∧ oP S z j = p) o := by
        refine BOP_no hB (fun p => ⟨fun hp => ?_, fun hp => ?_⟩) (fun p hp hnp => ?_) (fun p hp => (hin p).mpr (Or.inl hp))
        · rcases (hin p).mp hp with q | q
          · exact Or.inl q
          · refine Or.inr (fun d => ⟨by rw [q]; exact hn d, hp⟩)
        · rcases hp with q | q
          · exact (hin p).mpr (Or.inl q)
          · exact (q 0).2
        · rcases (hin p).mp hp with q | q
          · exact absurd q hnp
          · rw [q]; exact hn
      simp only [↓reduceIte, vi_go_c, ↓v1_iadd, ↓v1_isub, ↓v1_imul, ↓v1_iand, ↓v1_idiv, ↓v1_irem, ↓v1_ineg, ↓v1_ladd, ↓v1_lsub, ↓v1_land, ↓v1_lcmp, ↓v1_lshl, ↓v1_lshr, ↓v1_i2l, ↓v1_l2i, ↓v1_iconst_0, ↓v1_iconst_m, ↓v1_bipush, ↓v1_sipush, ↓v1_ldc, ↓v1_ldc_w, ↓v1_lconst, ↓v1_ldc2_w, ↓v1_aconst_null, ↓v1_iload, ↓v1_iload_n, ↓v1_lload, ↓v1_lload_n, ↓v1_aload, ↓v1_aload_n, ↓v1_istore, ↓v1_istore_n, ↓v1_lstore, ↓v1_lstore_n, ↓v1_astore, ↓v1_astore_n, ↓v1_iinc, ↓v1_dup, ↓v1_dup2, ↓v1_ifCond_eq, ↓v1_ifCond_ne, ↓v1_ifCond_lt, ↓v1_ifCond_ge, ↓v1_ifCond_gt, ↓v1_ifCond_le, ↓v1_if_icmp_eq, ↓v1_if_icmp_ne, ↓v1_if_icmp_lt, ↓v1_if_icmp_ge, ↓v1_if_icmp_gt, ↓v1_if_icmp_le, ↓v1_if_acmp_ne, ↓v1_ifnull, ↓v1_ifnonnull, ↓v1_goto, ↓v1_tableswitch_0, ↓v1_return_, ↓v1_ireturn, ↓v1_lreturn, ↓v1_areturn, ↓v1_getfield_0, ↓v1_putfield_0, ↓v1_getstatic, ↓v1_iaload, ↓v1_laload, ↓v1_baload, ↓v1_aaload, ↓v1_iastore, ↓v1_lastore, ↓v1_bastore, ↓v1_aastore_0, ↓v1_arraylength, ↓v1_new_0, ↓v1_newarray, ↓v1_anewarray, ↓v1_invokestatic_0, ↓v1_invokestatic_1, ↓v1_invokestatic_2a, ↓v1_invokevirtual_0, ↓v1_invokespecial_0, ↓v1_invokespecial_1a, ↓v1_invokespecial_1b, ↓vi_ii_e, ↓vi_i_e, ↓vi_jj_e, ↓vi_j_e, ↓vi_ij_e, ↓vi_r_e, ↓vi_rr_e, ↓vi_o_e, ↓vi_ir_e, ↓vi_iir_e, ↓vi_jir_e, ↓vi_rir_e, ↓vi_pop_z, ↓vi_pop_s, ↓vi_sw_n, ↓vi_sw_c, ↓vi_li_z, ↓vi_li_s, ↓vi_ll_z, ↓vi_ll_s, ↓vi_lr_z, ↓vi_lr_s, ↓vi_ret_l, ↓vi_ret_r, vi_sv, vg_set1, vg_set2, vg_lo, List.headD, List.contains_nil, List.contains_cons, Bool.or_false, Bool.false_eq_true, if_false, if_true, Nat.reduceAdd, Nat.reduceBEq, List.nil_append, List.cons_append, List.append_nil, Option.toList, Int32.reduceOfNat, Int64.reduceOfNat, reduceCtorEq, Nat.reduceLeDiff, Nat.le_refl, Nat.zero_le, true_and, and_true, false_or, or_false, or_true, true_or, and_self, not_true_eq_false, not_false_eq_true, forall_const, false_implies, true_implies, Sum.inl.injEq, Sum.inr.injEq, Option.some.injEq, eq_self, oI_1, oI_m, oI_5, oI_L, vi_ws_nil, vi_ws_I, vi_ws_J, vi_ws_R, wi_k, wi_n, wi_r, wi_l, wr_k, wr_n, wr_i, wr_l, wl_k, wl_n, wl_i, wl_r, Nat.reduceSub, Nat.reduceMul, cd_69_0, cd_69_37, cd_69_40, cd_69_95, cd_69_96, cd_69_97, cd_69_103, at_69_37, at_69_40, at_69_95, at_69_96, at_69_97, at_69_103, mc_69, ms_69, mr_69, mh_69, ml_69, mc_70, ms_70, mc_74, ms_74, mc_75, ms_75, xk, xr0, xr1, xr2, xr3, xr4, xr5, xr6, xr7, xr8, ak1, ak2, ak3, ak4, ak5, ak6, ak7, ak8, ak9, ak10, ak11, ak12, ak13, ak14, ak15, ak16, an1, an2, an4, an5, an6, an7, an8, an9, an10, an11, an12, an14, an15, an16, vr0, vr1, vr2, vr3, vr4, hr0, hr1, xi9, xi10, xi11, xi12, hv, Bool.or_true, Bool.true_or]
      exact nx _ _ _ _ hB2
end CC2
