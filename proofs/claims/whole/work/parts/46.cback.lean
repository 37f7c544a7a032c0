/-! ===== the class: payBack ===== -/
/-- who is paying is a ticket -/
def okM (S : SS) : Prop := ∀ q, q < 3 → ¬ S 32 q = 0 → 1 ≤ (S 32 q).toNatClampNeg ∧ (S 32 q).toNatClampNeg ≤ nT S
theorem gB_36 (S : SS) (q : Nat) : gB (sFree S q) q 0 6 36 = S 36 := by
  funext j
  rw [gB_e 6 0 _ (by omega), if_neg (fun z => by omega), if_neg (fun z => by omega), sFree_f (by decide) (by decide)]
section CB
variable {G : vg_G} {b : Nat} {A : AA} {S : SS} {h : vg_H} {Q : vg_O → vg_H → Prop}
set_option maxRecDepth 100000 in
theorem c_49 {m : Int32} (hC : CX G b A S h) (hV : CV b A S h) (hT : nT S ≤ 300) (hm : okM S) (h1 : kMach S m = 1 → ∀ h', CE G b S h h' → Q (.inr 0) h') (h2 : kMach S m = 2 → ∀ h', CE G b S h h' → Q (.inr 1) h') (h3 : ∀ q, q < 3 → m = nI q → kMach S m = 0 → ∀ h', CE G b (gB (sFree S q) q 0 6) h h' → Q (.inl (some (.inl (sumS (gB (sFree S q) q 0 6) q)))) h') : vg_C G (MT 49) [.inr (.inr (some b)), .inl m] h Q := by
  unfold kMach at *
  obtain ⟨xk, xr0, xr1, xr2, xr3, xr4, xr5, xr6, xr7, xr8, ak1, ak2, ak3, ak4, ak5, ak6, ak7, ak8, ak9, ak10, ak11, ak12, ak13, ak14, ak15, ak16, an1, an2, an4, an5, an6, an7, an8, an9, an10, an11, an12, an14, an15, an16, vr0, vr1, vr2, vr3, vr4, hr0, hr1, xz⟩ := hC.1
  obtain ⟨xi9, xi10, xi11, xi12⟩ := hC.2.1
  refine vg_C_of rfl (by decide +kernel) (Nat.le_of_ble_eq_true rfl) ?_
  refine vi_run ok_49 [26] 40 ?_
  rw [at_49_0]
  simp only [vg_ent, vg_en, List.length_cons, List.length_nil, Nat.reduceAdd, Nat.reduceSub, List.replicate, List.append_nil, List.nil_append, List.cons_append, mn_49]
  simp only [↓reduceIte, vi_go_c, ↓v1_iadd, ↓v1_isub, ↓v1_imul, ↓v1_iand, ↓v1_idiv, ↓v1_irem, ↓v1_ineg, ↓v1_ladd, ↓v1_lsub, ↓v1_land, ↓v1_lcmp, ↓v1_lshl, ↓v1_lshr, ↓v1_i2l, ↓v1_l2i, ↓v1_iconst_0, ↓v1_iconst_m, ↓v1_bipush, ↓v1_sipush, ↓v1_ldc, ↓v1_ldc_w, ↓v1_lconst, ↓v1_ldc2_w, ↓v1_aconst_null, ↓v1_iload, ↓v1_iload_n, ↓v1_lload, ↓v1_lload_n, ↓v1_aload, ↓v1_aload_n, ↓v1_istore, ↓v1_istore_n, ↓v1_lstore, ↓v1_lstore_n, ↓v1_astore, ↓v1_astore_n, ↓v1_iinc, ↓v1_dup, ↓v1_dup2, ↓v1_ifCond_eq, ↓v1_ifCond_ne, ↓v1_ifCond_lt, ↓v1_ifCond_ge, ↓v1_ifCond_gt, ↓v1_ifCond_le, ↓v1_if_icmp_eq, ↓v1_if_icmp_ne, ↓v1_if_icmp_lt, ↓v1_if_icmp_ge, ↓v1_if_icmp_gt, ↓v1_if_icmp_le, ↓v1_if_acmp_ne, ↓v1_ifnull, ↓v1_ifnonnull, ↓v1_goto, ↓v1_tableswitch_0, ↓v1_return_, ↓v1_ireturn, ↓v1_lreturn, ↓v1_areturn, ↓v1_getfield_0, ↓v1_putfield_0, ↓v1_getstatic, ↓v1_iaload, ↓v1_laload, ↓v1_baload, ↓v1_aaload, ↓v1_iastore, ↓v1_lastore, ↓v1_bastore, ↓v1_aastore_0, ↓v1_arraylength, ↓v1_new_0, ↓v1_newarray, ↓v1_anewarray, ↓v1_invokestatic_0, ↓v1_invokestatic_1, ↓v1_invokestatic_2a, ↓v1_invokevirtual_0, ↓v1_invokespecial_0, ↓v1_invokespecial_1a, ↓v1_invokespecial_1b, ↓vi_ii_e, ↓vi_i_e, ↓vi_jj_e, ↓vi_j_e, ↓vi_ij_e, ↓vi_r_e, ↓vi_rr_e, ↓vi_o_e, ↓vi_ir_e, ↓vi_iir_e, ↓vi_jir_e, ↓vi_rir_e, ↓vi_pop_z, ↓vi_pop_s, ↓vi_sw_n, ↓vi_sw_c, ↓vi_li_z, ↓vi_li_s, ↓vi_ll_z, ↓vi_ll_s, ↓vi_lr_z, ↓vi_lr_s, ↓vi_ret_l, ↓vi_ret_r, vi_sv, vg_set1, vg_set2, vg_lo, List.headD, List.contains_nil, List.contains_cons, Bool.or_false, Bool.false_eq_true, if_false, if_true, Nat.reduceAdd, Nat.reduceBEq, List.nil_append, List.cons_append, List.append_nil, Option.toList, Int32.reduceOfNat, Int64.reduceOfNat, reduceCtorEq, Nat.reduceLeDiff, Nat.le_refl, Nat.zero_le, true_and, and_true, false_or, or_false, or_true, true_or, and_self, not_true_eq_false, not_false_eq_true, forall_const, false_implies, true_implies, Sum.inl.injEq, Sum.inr.injEq, Option.some.injEq, eq_self, oI_1, oI_m, oI_5, oI_L, vi_ws_nil, vi_ws_I, vi_ws_J, vi_ws_R, wi_k, wi_n, wi_r, wi_l, wr_k, wr_n, wr_i, wr_l, wl_k, wl_n, wl_i, wl_r, Nat.reduceSub, Nat.reduceMul, cd_49_0, cd_49_25, cd_49_26, at_49_25, at_49_26, mc_49, ms_49, mr_49, mh_49, ml_49, mc_29, ms_29, mc_45, ms_45, mc_46, ms_46, mc_79, ms_79, xk, xr0, xr1, xr2, xr3, xr4, xr5, xr6, xr7, xr8, ak1, ak2, ak3, ak4, ak5, ak6, ak7, ak8, ak9, ak10, ak11, ak12, ak13, ak14, ak15, ak16, an1, an2, an4, an5, an6, an7, an8, an9, an10, an11, an12, an14, an15, an16, vr0, vr1, vr2, vr3, vr4, hr0, hr1, xi9, xi10, xi11, xi12]
  refine c_29 ?_
  simp only [↓reduceIte, vi_go_c, ↓v1_iadd, ↓v1_isub, ↓v1_imul, ↓v1_iand, ↓v1_idiv, ↓v1_irem, ↓v1_ineg, ↓v1_ladd, ↓v1_lsub, ↓v1_land, ↓v1_lcmp, ↓v1_lshl, ↓v1_lshr, ↓v1_i2l, ↓v1_l2i, ↓v1_iconst_0, ↓v1_iconst_m, ↓v1_bipush, ↓v1_sipush, ↓v1_ldc, ↓v1_ldc_w, ↓v1_lconst, ↓v1_ldc2_w, ↓v1_aconst_null, ↓v1_iload, ↓v1_iload_n, ↓v1_lload, ↓v1_lload_n, ↓v1_aload, ↓v1_aload_n, ↓v1_istore, ↓v1_istore_n, ↓v1_lstore, ↓v1_lstore_n, ↓v1_astore, ↓v1_astore_n, ↓v1_iinc, ↓v1_dup, ↓v1_dup2, ↓v1_ifCond_eq, ↓v1_ifCond_ne, ↓v1_ifCond_lt, ↓v1_ifCond_ge, ↓v1_ifCond_gt, ↓v1_ifCond_le, ↓v1_if_icmp_eq, ↓v1_if_icmp_ne, ↓v1_if_icmp_lt, ↓v1_if_icmp_ge, ↓v1_if_icmp_gt, ↓v1_if_icmp_le, ↓v1_if_acmp_ne, ↓v1_ifnull, ↓v1_ifnonnull, ↓v1_goto, ↓v1_tableswitch_0, ↓v1_return_, ↓v1_ireturn, ↓v1_lreturn, ↓v1_areturn, ↓v1_getfield_0, ↓v1_putfield_0, ↓v1_getstatic, ↓v1_iaload, ↓v1_laload, ↓v1_baload, ↓v1_aaload, ↓v1_iastore, ↓v1_lastore, ↓v1_bastore, ↓v1_aastore_0, ↓v1_arraylength, ↓v1_new_0, ↓v1_newarray, ↓v1_anewarray, ↓v1_invokestatic_0, ↓v1_invokestatic_1, ↓v1_invokestatic_2a, ↓v1_invokevirtual_0, ↓v1_invokespecial_0, ↓v1_invokespecial_1a, ↓v1_invokespecial_1b, ↓vi_ii_e, ↓vi_i_e, ↓vi_jj_e, ↓vi_j_e, ↓vi_ij_e, ↓vi_r_e, ↓vi_rr_e, ↓vi_o_e, ↓vi_ir_e, ↓vi_iir_e, ↓vi_jir_e, ↓vi_rir_e, ↓vi_pop_z, ↓vi_pop_s, ↓vi_sw_n, ↓vi_sw_c, ↓vi_li_z, ↓vi_li_s, ↓vi_ll_z, ↓vi_ll_s, ↓vi_lr_z, ↓vi_lr_s, ↓vi_ret_l, ↓vi_ret_r, vi_sv, vg_set1, vg_set2, vg_lo, List.headD, List.contains_nil, List.contains_cons, Bool.or_false, Bool.false_eq_true, if_false, if_true, Nat.reduceAdd, Nat.reduceBEq, List.nil_append, List.cons_append, List.append_nil, Option.toList, Int32.reduceOfNat, Int64.reduceOfNat, reduceCtorEq, Nat.reduceLeDiff, Nat.le_refl, Nat.zero_le, true_and, and_true, false_or, or_false, or_true, true_or, and_self, not_true_eq_false, not_false_eq_true, forall_const, false_implies, true_implies, Sum.inl.injEq, Sum.inr.injEq, Option.some.injEq, eq_self, oI_1, oI_m, oI_5, oI_L, vi_ws_nil, vi_ws_I, vi_ws_J, vi_ws_R, wi_k, wi_n, wi_r, wi_l, wr_k, wr_n, wr_i, wr_l, wl_k, wl_n, wl_i, wl_r, Nat.reduceSub, Nat.reduceMul, cd_49_0, cd_49_25, cd_49_26, at_49_25, at_49_26, mc_49, ms_49, mr_49, mh_49, ml_49, mc_29, ms_29, mc_45, ms_45, mc_46, ms_46, mc_79, ms_79, xk, xr0, xr1, xr2, xr3, xr4, xr5, xr6, xr7, xr8, ak1, ak2, ak3, ak4, ak5, ak6, ak7, ak8, ak9, ak10, ak11, ak12, ak13, ak14, ak15, ak16, an1, an2, an4, an5, an6, an7, an8, an9, an10, an11, an12, an14, an15, an16, vr0, vr1, vr2, vr3, vr4, hr0, hr1, xi9, xi10, xi11, xi12]
  refine c_45 (fun e => ?_) (fun e n hn => ?_)
  · have ok := bI_ne.mp e
    obtain ⟨q, hq, rfl⟩ := nI_ex 2 (by omega) ok.1 ok.2
    have y1 := nI_clamp (show q < 2 ^ 31 by omega)
    have y2 : vp_in (nI q) 3 := vp_nI (by omega) (by omega)
    rw [y1] at h1 h2
    have f3 := h3 q (by omega) rfl
    rw [y1] at f3
    rw [if_neg (fun z => z ok)] at h1 h2 f3
    obtain ⟨u1, u2, u3, u4, u5, u6, u7, u8, u9, u10, u11, u12, u13, u14, u15, u16, u17⟩ := hC.2.2.2.2.2.2.2.1 q (by omega)
    have k26 : ∀ w, w = bI (¬ S 32 q = 0) → vg_A G (MT 49) 1 6 26 [some (.inr (.inr (some b))), some (.inl (nI q)), some (.inr (.inr (some (b + 25 + 4 * q)))), none] [.inl w] h Q := by
      intro w hw
      refine vi_run ok_49 [] 60 ?_
      rw [at_49_26]
      simp only [↓reduceIte, vi_go_c, ↓v1_iadd, ↓v1_isub, ↓v1_imul, ↓v1_iand, ↓v1_idiv, ↓v1_irem, ↓v1_ineg, ↓v1_ladd, ↓v1_lsub, ↓v1_land, ↓v1_lcmp, ↓v1_lshl, ↓v1_lshr, ↓v1_i2l, ↓v1_l2i, ↓v1_iconst_0, ↓v1_iconst_m, ↓v1_bipush, ↓v1_sipush, ↓v1_ldc, ↓v1_ldc_w, ↓v1_lconst, ↓v1_ldc2_w, ↓v1_aconst_null, ↓v1_iload, ↓v1_iload_n, ↓v1_lload, ↓v1_lload_n, ↓v1_aload, ↓v1_aload_n, ↓v1_istore, ↓v1_istore_n, ↓v1_lstore, ↓v1_lstore_n, ↓v1_astore, ↓v1_astore_n, ↓v1_iinc, ↓v1_dup, ↓v1_dup2, ↓v1_ifCond_eq, ↓v1_ifCond_ne, ↓v1_ifCond_lt, ↓v1_ifCond_ge, ↓v1_ifCond_gt, ↓v1_ifCond_le, ↓v1_if_icmp_eq, ↓v1_if_icmp_ne, ↓v1_if_icmp_lt, ↓v1_if_icmp_ge, ↓v1_if_icmp_gt, ↓v1_if_icmp_le, ↓v1_if_acmp_ne, ↓v1_ifnull, ↓v1_ifnonnull, ↓v1_goto, ↓v1_tableswitch_0, ↓v1_return_, ↓v1_ireturn, ↓v1_lreturn, ↓v1_areturn, ↓v1_getfield_0, ↓v1_putfield_0, ↓v1_getstatic, ↓v1_iaload, ↓v1_laload, ↓v1_baload, ↓v1_aaload, ↓v1_iastore, ↓v1_lastore, ↓v1_bastore, ↓v1_aastore_0, ↓v1_arraylength, ↓v1_new_0, ↓v1_newarray, ↓v1_anewarray, ↓v1_invokestatic_0, ↓v1_invokestatic_1, ↓v1_invokestatic_2a, ↓v1_invokevirtual_0, ↓v1_invokespecial_0, ↓v1_invokespecial_1a, ↓v1_invokespecial_1b, ↓vi_ii_e, ↓vi_i_e, ↓vi_jj_e, ↓vi_j_e, ↓vi_ij_e, ↓vi_r_e, ↓vi_rr_e, ↓vi_o_e, ↓vi_ir_e, ↓vi_iir_e, ↓vi_jir_e, ↓vi_rir_e, ↓vi_pop_z, ↓vi_pop_s, ↓vi_sw_n, ↓vi_sw_c, ↓vi_li_z, ↓vi_li_s, ↓vi_ll_z, ↓vi_ll_s, ↓vi_lr_z, ↓vi_lr_s, ↓vi_ret_l, ↓vi_ret_r, vi_sv, vg_set1, vg_set2, vg_lo, List.headD, List.contains_nil, List.contains_cons, Bool.or_false, Bool.false_eq_true, if_false, if_true, Nat.reduceAdd, Nat.reduceBEq, List.nil_append, List.cons_append, List.append_nil, Option.toList, Int32.reduceOfNat, Int64.reduceOfNat, reduceCtorEq, Nat.reduceLeDiff, Nat.le_refl, Nat.zero_le, true_and, and_true, false_or, or_false, or_true, true_or, and_self, not_true_eq_false, not_false_eq_true, forall_const, false_implies, true_implies, Sum.inl.injEq, Sum.inr.injEq, Option.some.injEq, eq_self, oI_1, oI_m, oI_5, oI_L, vi_ws_nil, vi_ws_I, vi_ws_J, vi_ws_R, wi_k, wi_n, wi_r, wi_l, wr_k, wr_n, wr_i, wr_l, wl_k, wl_n, wl_i, wl_r, Nat.reduceSub, Nat.reduceMul, cd_49_0, cd_49_25, cd_49_26, at_49_25, at_49_26, mc_49, ms_49, mr_49, mh_49, ml_49, mc_29, ms_29, mc_45, ms_45, mc_46, ms_46, mc_79, ms_79, xk, xr0, xr1, xr2, xr3, xr4, xr5, xr6, xr7, xr8, ak1, ak2, ak3, ak4, ak5, ak6, ak7, ak8, ak9, ak10, ak11, ak12, ak13, ak14, ak15, ak16, an1, an2, an4, an5, an6, an7, an8, an9, an10, an11, an12, an14, an15, an16, vr0, vr1, vr2, vr3, vr4, hr0, hr1, xi9, xi10, xi11, xi12]
      refine c_46 (fun e9 => ?_) (fun e9 n hn => ?_)
      · rw [hw] at e9
        have kz : ¬ S 32 q = 0 := bI_ne.mp e9
        simp only [↓reduceIte, vi_go_c, ↓v1_iadd, ↓v1_isub, ↓v1_imul, ↓v1_iand, ↓v1_idiv, ↓v1_irem, ↓v1_ineg, ↓v1_ladd, ↓v1_lsub, ↓v1_land, ↓v1_lcmp, ↓v1_lshl, ↓v1_lshr, ↓v1_i2l, ↓v1_l2i, ↓v1_iconst_0, ↓v1_iconst_m, ↓v1_bipush, ↓v1_sipush, ↓v1_ldc, ↓v1_ldc_w, ↓v1_lconst, ↓v1_ldc2_w, ↓v1_aconst_null, ↓v1_iload, ↓v1_iload_n, ↓v1_lload, ↓v1_lload_n, ↓v1_aload, ↓v1_aload_n, ↓v1_istore, ↓v1_istore_n, ↓v1_lstore, ↓v1_lstore_n, ↓v1_astore, ↓v1_astore_n, ↓v1_iinc, ↓v1_dup, ↓v1_dup2, ↓v1_ifCond_eq, ↓v1_ifCond_ne, ↓v1_ifCond_lt, ↓v1_ifCond_ge, ↓v1_ifCond_gt, ↓v1_ifCond_le, ↓v1_if_icmp_eq, ↓v1_if_icmp_ne, ↓v1_if_icmp_lt, ↓v1_if_icmp_ge, ↓v1_if_icmp_gt, ↓v1_if_icmp_le, ↓v1_if_acmp_ne, ↓v1_ifnull, ↓v1_ifnonnull, ↓v1_goto, ↓v1_tableswitch_0, ↓v1_return_, ↓v1_ireturn, ↓v1_lreturn, ↓v1_areturn, ↓v1_getfield_0, ↓v1_putfield_0, ↓v1_getstatic, ↓v1_iaload, ↓v1_laload, ↓v1_baload, ↓v1_aaload, ↓v1_iastore, ↓v1_lastore, ↓v1_bastore, ↓v1_aastore_0, ↓v1_arraylength, ↓v1_new_0, ↓v1_newarray, ↓v1_anewarray, ↓v1_invokestatic_0, ↓v1_invokestatic_1, ↓v1_invokestatic_2a, ↓v1_invokevirtual_0, ↓v1_invokespecial_0, ↓v1_invokespecial_1a, ↓v1_invokespecial_1b, ↓vi_ii_e, ↓vi_i_e, ↓vi_jj_e, ↓vi_j_e, ↓vi_ij_e, ↓vi_r_e, ↓vi_rr_e, ↓vi_o_e, ↓vi_ir_e, ↓vi_iir_e, ↓vi_jir_e, ↓vi_rir_e, ↓vi_pop_z, ↓vi_pop_s, ↓vi_sw_n, ↓vi_sw_c, ↓vi_li_z, ↓vi_li_s, ↓vi_ll_z, ↓vi_ll_s, ↓vi_lr_z, ↓vi_lr_s, ↓vi_ret_l, ↓vi_ret_r, vi_sv, vg_set1, vg_set2, vg_lo, List.headD, List.contains_nil, List.contains_cons, Bool.or_false, Bool.false_eq_true, if_false, if_true, Nat.reduceAdd, Nat.reduceBEq, List.nil_append, List.cons_append, List.append_nil, Option.toList, Int32.reduceOfNat, Int64.reduceOfNat, reduceCtorEq, Nat.reduceLeDiff, Nat.le_refl, Nat.zero_le, true_and, and_true, false_or, or_false, or_true, true_or, and_self, not_true_eq_false, not_false_eq_true, forall_const, false_implies, true_implies, Sum.inl.injEq, Sum.inr.injEq, Option.some.injEq, eq_self, oI_1, oI_m, oI_5, oI_L, vi_ws_nil, vi_ws_I, vi_ws_J, vi_ws_R, wi_k, wi_n, wi_r, wi_l, wr_k, wr_n, wr_i, wr_l, wl_k, wl_n, wl_i, wl_r, Nat.reduceSub, Nat.reduceMul, cd_49_0, cd_49_25, cd_49_26, at_49_25, at_49_26, mc_49, ms_49, mr_49, mh_49, ml_49, mc_29, ms_29, mc_45, ms_45, mc_46, ms_46, mc_79, ms_79, xk, xr0, xr1, xr2, xr3, xr4, xr5, xr6, xr7, xr8, ak1, ak2, ak3, ak4, ak5, ak6, ak7, ak8, ak9, ak10, ak11, ak12, ak13, ak14, ak15, ak16, an1, an2, an4, an5, an6, an7, an8, an9, an10, an11, an12, an14, an15, an16, vr0, vr1, vr2, vr3, vr4, hr0, hr1, xi9, xi10, xi11, xi12, u2, u4, u16]
        refine c_79 (x := fun k => S 36 (6 * q + k)) hC hV (by omega) hT kz (hm q (by omega) kz) ⟨by omega, by omega⟩ u7 u10 (fun j hj => (u17 j hj).2.1) (fun h' q1 q2 q3 => ?_)
        rw [eS_B] at q2 q3
        simp only [↓reduceIte, vi_go_c, ↓v1_iadd, ↓v1_isub, ↓v1_imul, ↓v1_iand, ↓v1_idiv, ↓v1_irem, ↓v1_ineg, ↓v1_ladd, ↓v1_lsub, ↓v1_land, ↓v1_lcmp, ↓v1_lshl, ↓v1_lshr, ↓v1_i2l, ↓v1_l2i, ↓v1_iconst_0, ↓v1_iconst_m, ↓v1_bipush, ↓v1_sipush, ↓v1_ldc, ↓v1_ldc_w, ↓v1_lconst, ↓v1_ldc2_w, ↓v1_aconst_null, ↓v1_iload, ↓v1_iload_n, ↓v1_lload, ↓v1_lload_n, ↓v1_aload, ↓v1_aload_n, ↓v1_istore, ↓v1_istore_n, ↓v1_lstore, ↓v1_lstore_n, ↓v1_astore, ↓v1_astore_n, ↓v1_iinc, ↓v1_dup, ↓v1_dup2, ↓v1_ifCond_eq, ↓v1_ifCond_ne, ↓v1_ifCond_lt, ↓v1_ifCond_ge, ↓v1_ifCond_gt, ↓v1_ifCond_le, ↓v1_if_icmp_eq, ↓v1_if_icmp_ne, ↓v1_if_icmp_lt, ↓v1_if_icmp_ge, ↓v1_if_icmp_gt, ↓v1_if_icmp_le, ↓v1_if_acmp_ne, ↓v1_ifnull, ↓v1_ifnonnull, ↓v1_goto, ↓v1_tableswitch_0, ↓v1_return_, ↓v1_ireturn, ↓v1_lreturn, ↓v1_areturn, ↓v1_getfield_0, ↓v1_putfield_0, ↓v1_getstatic, ↓v1_iaload, ↓v1_laload, ↓v1_baload, ↓v1_aaload, ↓v1_iastore, ↓v1_lastore, ↓v1_bastore, ↓v1_aastore_0, ↓v1_arraylength, ↓v1_new_0, ↓v1_newarray, ↓v1_anewarray, ↓v1_invokestatic_0, ↓v1_invokestatic_1, ↓v1_invokestatic_2a, ↓v1_invokevirtual_0, ↓v1_invokespecial_0, ↓v1_invokespecial_1a, ↓v1_invokespecial_1b, ↓vi_ii_e, ↓vi_i_e, ↓vi_jj_e, ↓vi_j_e, ↓vi_ij_e, ↓vi_r_e, ↓vi_rr_e, ↓vi_o_e, ↓vi_ir_e, ↓vi_iir_e, ↓vi_jir_e, ↓vi_rir_e, ↓vi_pop_z, ↓vi_pop_s, ↓vi_sw_n, ↓vi_sw_c, ↓vi_li_z, ↓vi_li_s, ↓vi_ll_z, ↓vi_ll_s, ↓vi_lr_z, ↓vi_lr_s, ↓vi_ret_l, ↓vi_ret_r, vi_sv, vg_set1, vg_set2, vg_lo, List.headD, List.contains_nil, List.contains_cons, Bool.or_false, Bool.false_eq_true, if_false, if_true, Nat.reduceAdd, Nat.reduceBEq, List.nil_append, List.cons_append, List.append_nil, Option.toList, Int32.reduceOfNat, Int64.reduceOfNat, reduceCtorEq, Nat.reduceLeDiff, Nat.le_refl, Nat.zero_le, true_and, and_true, false_or, or_false, or_true, true_or, and_self, not_true_eq_false, not_false_eq_true, forall_const, false_implies, true_implies, Sum.inl.injEq, Sum.inr.injEq, Option.some.injEq, eq_self, oI_1, oI_m, oI_5, oI_L, vi_ws_nil, vi_ws_I, vi_ws_J, vi_ws_R, wi_k, wi_n, wi_r, wi_l, wr_k, wr_n, wr_i, wr_l, wl_k, wl_n, wl_i, wl_r, Nat.reduceSub, Nat.reduceMul, cd_49_0, cd_49_25, cd_49_26, at_49_25, at_49_26, mc_49, ms_49, mr_49, mh_49, ml_49, mc_29, ms_29, mc_45, ms_45, mc_46, ms_46, mc_79, ms_79, xk, xr0, xr1, xr2, xr3, xr4, xr5, xr6, xr7, xr8, ak1, ak2, ak3, ak4, ak5, ak6, ak7, ak8, ak9, ak10, ak11, ak12, ak13, ak14, ak15, ak16, an1, an2, an4, an5, an6, an7, an8, an9, an10, an11, an12, an14, an15, an16, vr0, vr1, vr2, vr3, vr4, hr0, hr1, xi9, xi10, xi11, xi12]
        have es : sumS (gB (sFree S q) q 0 6) q = sumS S q := by unfold sumS; rw [gB_36]
        rw [es] at f3
        exact f3 (by rw [if_neg kz]) h' ⟨q1, A, q2, q3⟩
      · rw [hw] at e9
        have kz : S 32 q = 0 := Classical.not_not.mp (bI_eq.mp e9)
        simp only [↓reduceIte, vi_go_c, ↓v1_iadd, ↓v1_isub, ↓v1_imul, ↓v1_iand, ↓v1_idiv, ↓v1_irem, ↓v1_ineg, ↓v1_ladd, ↓v1_lsub, ↓v1_land, ↓v1_lcmp, ↓v1_lshl, ↓v1_lshr, ↓v1_i2l, ↓v1_l2i, ↓v1_iconst_0, ↓v1_iconst_m, ↓v1_bipush, ↓v1_sipush, ↓v1_ldc, ↓v1_ldc_w, ↓v1_lconst, ↓v1_ldc2_w, ↓v1_aconst_null, ↓v1_iload, ↓v1_iload_n, ↓v1_lload, ↓v1_lload_n, ↓v1_aload, ↓v1_aload_n, ↓v1_istore, ↓v1_istore_n, ↓v1_lstore, ↓v1_lstore_n, ↓v1_astore, ↓v1_astore_n, ↓v1_iinc, ↓v1_dup, ↓v1_dup2, ↓v1_ifCond_eq, ↓v1_ifCond_ne, ↓v1_ifCond_lt, ↓v1_ifCond_ge, ↓v1_ifCond_gt, ↓v1_ifCond_le, ↓v1_if_icmp_eq, ↓v1_if_icmp_ne, ↓v1_if_icmp_lt, ↓v1_if_icmp_ge, ↓v1_if_icmp_gt, ↓v1_if_icmp_le, ↓v1_if_acmp_ne, ↓v1_ifnull, ↓v1_ifnonnull, ↓v1_goto, ↓v1_tableswitch_0, ↓v1_return_, ↓v1_ireturn, ↓v1_lreturn, ↓v1_areturn, ↓v1_getfield_0, ↓v1_putfield_0, ↓v1_getstatic, ↓v1_iaload, ↓v1_laload, ↓v1_baload, ↓v1_aaload, ↓v1_iastore, ↓v1_lastore, ↓v1_bastore, ↓v1_aastore_0, ↓v1_arraylength, ↓v1_new_0, ↓v1_newarray, ↓v1_anewarray, ↓v1_invokestatic_0, ↓v1_invokestatic_1, ↓v1_invokestatic_2a, ↓v1_invokevirtual_0, ↓v1_invokespecial_0, ↓v1_invokespecial_1a, ↓v1_invokespecial_1b, ↓vi_ii_e, ↓vi_i_e, ↓vi_jj_e, ↓vi_j_e, ↓vi_ij_e, ↓vi_r_e, ↓vi_rr_e, ↓vi_o_e, ↓vi_ir_e, ↓vi_iir_e, ↓vi_jir_e, ↓vi_rir_e, ↓vi_pop_z, ↓vi_pop_s, ↓vi_sw_n, ↓vi_sw_c, ↓vi_li_z, ↓vi_li_s, ↓vi_ll_z, ↓vi_ll_s, ↓vi_lr_z, ↓vi_lr_s, ↓vi_ret_l, ↓vi_ret_r, vi_sv, vg_set1, vg_set2, vg_lo, List.headD, List.contains_nil, List.contains_cons, Bool.or_false, Bool.false_eq_true, if_false, if_true, Nat.reduceAdd, Nat.reduceBEq, List.nil_append, List.cons_append, List.append_nil, Option.toList, Int32.reduceOfNat, Int64.reduceOfNat, reduceCtorEq, Nat.reduceLeDiff, Nat.le_refl, Nat.zero_le, true_and, and_true, false_or, or_false, or_true, true_or, and_self, not_true_eq_false, not_false_eq_true, forall_const, false_implies, true_implies, Sum.inl.injEq, Sum.inr.injEq, Option.some.injEq, eq_self, oI_1, oI_m, oI_5, oI_L, vi_ws_nil, vi_ws_I, vi_ws_J, vi_ws_R, wi_k, wi_n, wi_r, wi_l, wr_k, wr_n, wr_i, wr_l, wl_k, wl_n, wl_i, wl_r, Nat.reduceSub, Nat.reduceMul, cd_49_0, cd_49_25, cd_49_26, at_49_25, at_49_26, mc_49, ms_49, mr_49, mh_49, ml_49, mc_29, ms_29, mc_45, ms_45, mc_46, ms_46, mc_79, ms_79, xk, xr0, xr1, xr2, xr3, xr4, xr5, xr6, xr7, xr8, ak1, ak2, ak3, ak4, ak5, ak6, ak7, ak8, ak9, ak10, ak11, ak12, ak13, ak14, ak15, ak16, an1, an2, an4, an5, an6, an7, an8, an9, an10, an11, an12, an14, an15, an16, vr0, vr1, vr2, vr3, vr4, hr0, hr1, xi9, xi10, xi11, xi12]
        exact h2 (by rw [if_pos kz]) _ (CE.skip hC hV hn)
    simp only [↓reduceIte, vi_go_c, ↓v1_iadd, ↓v1_isub, ↓v1_imul, ↓v1_iand, ↓v1_idiv, ↓v1_irem, ↓v1_ineg, ↓v1_ladd, ↓v1_lsub, ↓v1_land, ↓v1_lcmp, ↓v1_lshl, ↓v1_lshr, ↓v1_i2l, ↓v1_l2i, ↓v1_iconst_0, ↓v1_iconst_m, ↓v1_bipush, ↓v1_sipush, ↓v1_ldc, ↓v1_ldc_w, ↓v1_lconst, ↓v1_ldc2_w, ↓v1_aconst_null, ↓v1_iload, ↓v1_iload_n, ↓v1_lload, ↓v1_lload_n, ↓v1_aload, ↓v1_aload_n, ↓v1_istore, ↓v1_istore_n, ↓v1_lstore, ↓v1_lstore_n, ↓v1_astore, ↓v1_astore_n, ↓v1_iinc, ↓v1_dup, ↓v1_dup2, ↓v1_ifCond_eq, ↓v1_ifCond_ne, ↓v1_ifCond_lt, ↓v1_ifCond_ge, ↓v1_ifCond_gt, ↓v1_ifCond_le, ↓v1_if_icmp_eq, ↓v1_if_icmp_ne, ↓v1_if_icmp_lt, ↓v1_if_icmp_ge, ↓v1_if_icmp_gt, ↓v1_if_icmp_le, ↓v1_if_acmp_ne, ↓v1_ifnull, ↓v1_ifnonnull, ↓v1_goto, ↓v1_tableswitch_0, ↓v1_return_, ↓v1_ireturn, ↓v1_lreturn, ↓v1_areturn, ↓v1_getfield_0, ↓v1_putfield_0, ↓v1_getstatic, ↓v1_iaload, ↓v1_laload, ↓v1_baload, ↓v1_aaload, ↓v1_iastore, ↓v1_lastore, ↓v1_bastore, ↓v1_aastore_0, ↓v1_arraylength, ↓v1_new_0, ↓v1_newarray, ↓v1_anewarray, ↓v1_invokestatic_0, ↓v1_invokestatic_1, ↓v1_invokestatic_2a, ↓v1_invokevirtual_0, ↓v1_invokespecial_0, ↓v1_invokespecial_1a, ↓v1_invokespecial_1b, ↓vi_ii_e, ↓vi_i_e, ↓vi_jj_e, ↓vi_j_e, ↓vi_ij_e, ↓vi_r_e, ↓vi_rr_e, ↓vi_o_e, ↓vi_ir_e, ↓vi_iir_e, ↓vi_jir_e, ↓vi_rir_e, ↓vi_pop_z, ↓vi_pop_s, ↓vi_sw_n, ↓vi_sw_c, ↓vi_li_z, ↓vi_li_s, ↓vi_ll_z, ↓vi_ll_s, ↓vi_lr_z, ↓vi_lr_s, ↓vi_ret_l, ↓vi_ret_r, vi_sv, vg_set1, vg_set2, vg_lo, List.headD, List.contains_nil, List.contains_cons, Bool.or_false, Bool.false_eq_true, if_false, if_true, Nat.reduceAdd, Nat.reduceBEq, List.nil_append, List.cons_append, List.append_nil, Option.toList, Int32.reduceOfNat, Int64.reduceOfNat, reduceCtorEq, Nat.reduceLeDiff, Nat.le_refl, Nat.zero_le, true_and, and_true, false_or, or_false, or_true, true_or, and_self, not_true_eq_false, not_false_eq_true, forall_const, false_implies, true_implies, Sum.inl.injEq, Sum.inr.injEq, Option.some.injEq, eq_self, oI_1, oI_m, oI_5, oI_L, vi_ws_nil, vi_ws_I, vi_ws_J, vi_ws_R, wi_k, wi_n, wi_r, wi_l, wr_k, wr_n, wr_i, wr_l, wl_k, wl_n, wl_i, wl_r, Nat.reduceSub, Nat.reduceMul, cd_49_0, cd_49_25, cd_49_26, at_49_25, at_49_26, mc_49, ms_49, mr_49, mh_49, ml_49, mc_29, ms_29, mc_45, ms_45, mc_46, ms_46, mc_79, ms_79, xk, xr0, xr1, xr2, xr3, xr4, xr5, xr6, xr7, xr8, ak1, ak2, ak3, ak4, ak5, ak6, ak7, ak8, ak9, ak10, ak11, ak12, ak13, ak14, ak15, ak16, an1, an2, an4, an5, an6, an7, an8, an9, an10, an11, an12, an14, an15, an16, vr0, vr1, vr2, vr3, vr4, hr0, hr1, xi9, xi10, xi11, xi12, y1, y2, u1, u2, u12]
    by_cases z : S 32 q = 0
    · simp only [if_pos z]
      exact ⟨fun _ => k26 _ (by rw [bI_f (fun y => y z)]), fun y => absurd trivial y⟩
    · simp only [if_neg z]
      exact ⟨fun y => (by cases y), fun _ => k26 _ (by rw [bI_t z])⟩
  · simp only [↓reduceIte, vi_go_c, ↓v1_iadd, ↓v1_isub, ↓v1_imul, ↓v1_iand, ↓v1_idiv, ↓v1_irem, ↓v1_ineg, ↓v1_ladd, ↓v1_lsub, ↓v1_land, ↓v1_lcmp, ↓v1_lshl, ↓v1_lshr, ↓v1_i2l, ↓v1_l2i, ↓v1_iconst_0, ↓v1_iconst_m, ↓v1_bipush, ↓v1_sipush, ↓v1_ldc, ↓v1_ldc_w, ↓v1_lconst, ↓v1_ldc2_w, ↓v1_aconst_null, ↓v1_iload, ↓v1_iload_n, ↓v1_lload, ↓v1_lload_n, ↓v1_aload, ↓v1_aload_n, ↓v1_istore, ↓v1_istore_n, ↓v1_lstore, ↓v1_lstore_n, ↓v1_astore, ↓v1_astore_n, ↓v1_iinc, ↓v1_dup, ↓v1_dup2, ↓v1_ifCond_eq, ↓v1_ifCond_ne, ↓v1_ifCond_lt, ↓v1_ifCond_ge, ↓v1_ifCond_gt, ↓v1_ifCond_le, ↓v1_if_icmp_eq, ↓v1_if_icmp_ne, ↓v1_if_icmp_lt, ↓v1_if_icmp_ge, ↓v1_if_icmp_gt, ↓v1_if_icmp_le, ↓v1_if_acmp_ne, ↓v1_ifnull, ↓v1_ifnonnull, ↓v1_goto, ↓v1_tableswitch_0, ↓v1_return_, ↓v1_ireturn, ↓v1_lreturn, ↓v1_areturn, ↓v1_getfield_0, ↓v1_putfield_0, ↓v1_getstatic, ↓v1_iaload, ↓v1_laload, ↓v1_baload, ↓v1_aaload, ↓v1_iastore, ↓v1_lastore, ↓v1_bastore, ↓v1_aastore_0, ↓v1_arraylength, ↓v1_new_0, ↓v1_newarray, ↓v1_anewarray, ↓v1_invokestatic_0, ↓v1_invokestatic_1, ↓v1_invokestatic_2a, ↓v1_invokevirtual_0, ↓v1_invokespecial_0, ↓v1_invokespecial_1a, ↓v1_invokespecial_1b, ↓vi_ii_e, ↓vi_i_e, ↓vi_jj_e, ↓vi_j_e, ↓vi_ij_e, ↓vi_r_e, ↓vi_rr_e, ↓vi_o_e, ↓vi_ir_e, ↓vi_iir_e, ↓vi_jir_e, ↓vi_rir_e, ↓vi_pop_z, ↓vi_pop_s, ↓vi_sw_n, ↓vi_sw_c, ↓vi_li_z, ↓vi_li_s, ↓vi_ll_z, ↓vi_ll_s, ↓vi_lr_z, ↓vi_lr_s, ↓vi_ret_l, ↓vi_ret_r, vi_sv, vg_set1, vg_set2, vg_lo, List.headD, List.contains_nil, List.contains_cons, Bool.or_false, Bool.false_eq_true, if_false, if_true, Nat.reduceAdd, Nat.reduceBEq, List.nil_append, List.cons_append, List.append_nil, Option.toList, Int32.reduceOfNat, Int64.reduceOfNat, reduceCtorEq, Nat.reduceLeDiff, Nat.le_refl, Nat.zero_le, true_and, and_true, false_or, or_false, or_true, true_or, and_self, not_true_eq_false, not_false_eq_true, forall_const, false_implies, true_implies, Sum.inl.injEq, Sum.inr.injEq, Option.some.injEq, eq_self, oI_1, oI_m, oI_5, oI_L, vi_ws_nil, vi_ws_I, vi_ws_J, vi_ws_R, wi_k, wi_n, wi_r, wi_l, wr_k, wr_n, wr_i, wr_l, wl_k, wl_n, wl_i, wl_r, Nat.reduceSub, Nat.reduceMul, cd_49_0, cd_49_25, cd_49_26, at_49_25, at_49_26, mc_49, ms_49, mr_49, mh_49, ml_49, mc_29, ms_29, mc_45, ms_45, mc_46, ms_46, mc_79, ms_79, xk, xr0, xr1, xr2, xr3, xr4, xr5, xr6, xr7, xr8, ak1, ak2, ak3, ak4, ak5, ak6, ak7, ak8, ak9, ak10, ak11, ak12, ak13, ak14, ak15, ak16, an1, an2, an4, an5, an6, an7, an8, an9, an10, an11, an12, an14, an15, an16, vr0, vr1, vr2, vr3, vr4, hr0, hr1, xi9, xi10, xi11, xi12]
    exact h1 (by rw [if_pos (bI_eq.mp e)]) _ (CE.skip hC hV hn)
end CB
/-! ===== the class: change ===== -/
theorem nI_minN {x y : Nat} (hx : x < 2 ^ 31) (hy : y < 2 ^ 31) : (if nI y < nI x then nI y else nI x) = nI (min x y) := by
  by_cases l : y < x
  · rw [if_pos (nI_lt l hx), Nat.min_eq_right (by omega)]
  · rw [if_neg (nI_nlt (by omega) hy), Nat.min_eq_left (by omega)]
theorem coM_5 : ∀ k, k < 6 → coM k = nI (5 * unN k) := by decide
/-- tryWith's rest and choice at kind kd -/
def rsK (s : Nat → Nat) (R f : Nat) : Nat → Nat
  | 0 => R
  | kd + 1 => if kd = 2 then rsK s R f kd else rsK s R f kd - unN (5 - kd) * min (s (5 - kd)) (rsK s R f kd / unN (5 - kd))
def tkK (s : Nat → Nat) (R f kd : Nat) : Nat := if kd = 2 then f else min (s (5 - kd)) (rsK s R f kd / unN (5 - kd))
theorem rsK_6 (s : Nat → Nat) (r f : Nat) : rsK s (r - 10 * f) f 6 = grR s (r - 10 * f) := by
  simp [rsK, grR, gr5, gr4, gr2, gr1, gr0, unN]
theorem tkK_x (s : Nat → Nat) (r f : Nat) : ∀ kd, kd < 6 → tkK s (r - 10 * f) f kd = grX s r f (5 - kd) := by
  intro kd hkd
  match kd, hkd with
  | 0, _ => simp [tkK, rsK, grX, gr5, unN]
  | 1, _ => simp [tkK, rsK, grX, gr5, gr4, unN]
  | 2, _ => simp [tkK, rsK, grX]
  | 3, _ => simp [tkK, rsK, grX, gr5, gr4, gr2, unN]
  | 4, _ => simp [tkK, rsK, grX, gr5, gr4, gr2, gr1, unN]
  | 5, _ => simp [tkK, rsK, grX, gr5, gr4, gr2, gr1, gr0, unN]
/-- how many coins behind kind kd -/
def ctK (s : Nat → Nat) (R f : Nat) : Nat → Nat
  | 0 => f
  | kd + 1 => if kd = 2 then ctK s R f kd else ctK s R f kd + tkK s R f kd
theorem ctK_6 (s : Nat → Nat) (r f : Nat) : ctK s (r - 10 * f) f 6 = smN (grX s r f) 6 := by
  rw [sm6]
  have t := tkK_x s r f
  have t0 := t 0 (by omega)
  have t1 := t 1 (by omega)
  have t3 := t 3 (by omega)
  have t4 := t 4 (by omega)
  have t5 := t 5 (by omega)
  have e : ctK s (r - 10 * f) f 6 = f + tkK s (r - 10 * f) f 0 + tkK s (r - 10 * f) f 1 + tkK s (r - 10 * f) f 3 + tkK s (r - 10 * f) f 4 + tkK s (r - 10 * f) f 5 := by simp [ctK]
  rw [e, t0, t1, t3, t4, t5]
  show f + grX s r f 5 + grX s r f 4 + grX s r f 2 + grX s r f 1 + grX s r f 0 = grX s r f 0 + grX s r f 1 + grX s r f 2 + f + grX s r f 4 + grX s r f 5
  omega
theorem rsK_le (s : Nat → Nat) (R f : Nat) : ∀ kd, rsK s R f kd ≤ R
  | 0 => Nat.le_refl _
  | kd + 1 => by
    have := rsK_le s R f kd
    unfold rsK
    split <;> omega
theorem tkK_le (s : Nat → Nat) (R f kd : Nat) (hs : ∀ i, i < 6 → s i ≤ 500) (hf : f ≤ 500) : tkK s R f kd ≤ 500 := by
  unfold tkK
  have := hs (5 - kd) (by omega)
  split <;> omega
theorem ctK_le (s : Nat → Nat) (R f : Nat) (hs : ∀ i, i < 6 → s i ≤ 500) (hf : f ≤ 500) : ∀ kd, ctK s R f kd ≤ 500 * (kd + 1)
  | 0 => by unfold ctK; omega
  | kd + 1 => by
    have := ctK_le s R f hs hf kd
    have := tkK_le s R f kd hs hf
    unfold ctK
    split <;> omega
theorem min_un (s : Nat → Nat) (R k : Nat) : unN k * min (s k) (R / unN k) ≤ R := by
  have h1 : min (s k) (R / unN k) ≤ R / unN k := Nat.min_le_right _ _
  exact Nat.le_trans (Nat.mul_le_mul_left _ h1) (Nat.mul_div_le R (unN k))
section CF
variable {G : vg_G} {b : Nat} {A : AA} {S : SS} {Q : vg_O → vg_H → Prop}
theorem CV.wi2 {h : vg_H} (p : CV b A S h) {a k : Nat} {v : Int32} (e : b + 9 ≤ a ∧ a ≤ b + 16) : CV b A S (vg_wi h a k v) :=
  p.keep rfl ⟨rfl, rfl, rfl, rfl, rfl, rfl, rfl, rfl⟩ ⟨wi_row (by omega), rfl, rfl, wi_row (by omega), wi_row (by omega)⟩ (fun z hz => ⟨by rw [wi_row (by omega)], rfl⟩)
/-- the class's state stands, nothing else changed -/
def CK (G : vg_G) (b : Nat) (A : AA) (S : SS) (h0 h : vg_H) : Prop := fr b h0 h ∧ CX G b A S h ∧ CV b A S h
theorem CK.wi {h0 h : vg_H} (p : CK G b A S h0 h) {a k : Nat} {v : Int32} (e : a = b + 13 ∨ a = b + 14 ∨ a = b + 15) : CK G b A S h0 (vg_wi h a k v) := by
  have ak13 : h.1 (b + 13) = 1 := by have := p.2.1.1; unfold cxK at this; grind
  have ak14 : h.1 (b + 14) = 100 := by have := p.2.1.1; unfold cxK at this; grind
  have ak15 : h.1 (b + 15) = 100 := by have := p.2.1.1; unfold cxK at this; grind
  refine ⟨p.1.wi (by omega) _ _, p.2.1.wi (by omega) ?_, p.2.2.wi2 (by omega)⟩
  rcases e with rfl | rfl | rfl <;> omega
set_option maxRecDepth 100000 in
theorem l_6 {q r f : Nat} {s : Nat → Nat} {h0 : vg_H} (hq : q < 3) (hr : r ≤ 8000) (hf : f ≤ 500) (hst : ∀ i, i < 6 → S 35 (6 * q + i) = nI (s i) ∧ s i ≤ 500) (hQ : ∀ h', CK G b A S h0 h' → (∀ j, j < 6 → h'.2.2.1 (b + 15) j = nI (grX s r f (5 - j))) → h'.2.2.1 (b + 13) 3 = nI (smN (grX s r f) 6) → h'.2.2.1 (b + 13) 2 = h0.2.2.1 (b + 13) 2 → h'.2.2.1 (b + 14) = h0.2.2.1 (b + 14) → Q (.inl (some (.inl (bI (grR s (r - 10 * f) = 0))))) h') : ∀ (n kd : Nat) (h : vg_H), kd + n = 6 → CK G b A S h0 h → (∀ j, j < kd → h.2.2.1 (b + 15) j = nI (tkK s (r - 10 * f) f j)) → h.2.2.1 (b + 13) 3 = nI (ctK s (r - 10 * f) f kd) → h.2.2.1 (b + 13) 2 = h0.2.2.1 (b + 13) 2 → h.2.2.1 (b + 14) = h0.2.2.1 (b + 14) →
    vg_A G (MT 6) 0 0 19 [some (.inr (.inr (some (b + 13)))), some (.inl (nI f)), some (.inl (nI (5 * r))), some (.inr (.inr (some (b + 26 + 4 * q)))), some (.inl (nI (5 * rsK s (r - 10 * f) f kd))), some (.inl (nI kd))] [] h Q := by
  have hs5 : ∀ i, i < 6 → s i ≤ 500 := fun i hi => (hst i hi).2
  intro n
  induction n with
  | zero =>
    intro kd h hkd hK ht hc h2 h14
    have kd6 : kd = 6 := by omega
    subst kd6
    obtain ⟨g1, g2, g3, g4, g5, g6, g7⟩ := hK.2.1.2.2.2.2.2.2.2.2.2
    have e1 : (6 : Int32) ≤ nI 6 := by decide
    have rb := rsK_le s (r - 10 * f) f 6
    rw [rsK_6] at rb
    have fin := hQ h hK (fun j hj => by rw [ht j hj, tkK_x s r f j hj]) (by rw [hc, ctK_6]) h2 h14
    rw [rsK_6]
    refine vi_run ok_6 [28, 119] 40 ?_
    rw [at_6_19]
    simp only [↓reduceIte, vi_go_c, ↓v1_iadd, ↓v1_isub, ↓v1_imul, ↓v1_iand, ↓v1_idiv, ↓v1_irem, ↓v1_ineg, ↓v1_ladd, ↓v1_lsub, ↓v1_land, ↓v1_lcmp, ↓v1_lshl, ↓v1_lshr, ↓v1_i2l, ↓v1_l2i, ↓v1_iconst_0, ↓v1_iconst_m, ↓v1_bipush, ↓v1_sipush, ↓v1_ldc, ↓v1_ldc_w, ↓v1_lconst, ↓v1_ldc2_w, ↓v1_aconst_null, ↓v1_iload, ↓v1_iload_n, ↓v1_lload, ↓v1_lload_n, ↓v1_aload, ↓v1_aload_n, ↓v1_istore, ↓v1_istore_n, ↓v1_lstore, ↓v1_lstore_n, ↓v1_astore, ↓v1_astore_n, ↓v1_iinc, ↓v1_dup, ↓v1_dup2, ↓v1_ifCond_eq, ↓v1_ifCond_ne, ↓v1_ifCond_lt, ↓v1_ifCond_ge, ↓v1_ifCond_gt, ↓v1_ifCond_le, ↓v1_if_icmp_eq, ↓v1_if_icmp_ne, ↓v1_if_icmp_lt, ↓v1_if_icmp_ge, ↓v1_if_icmp_gt, ↓v1_if_icmp_le, ↓v1_if_acmp_ne, ↓v1_ifnull, ↓v1_ifnonnull, ↓v1_goto, ↓v1_tableswitch_0, ↓v1_return_, ↓v1_ireturn, ↓v1_lreturn, ↓v1_areturn, ↓v1_getfield_0, ↓v1_putfield_0, ↓v1_getstatic, ↓v1_iaload, ↓v1_laload, ↓v1_baload, ↓v1_aaload, ↓v1_iastore, ↓v1_lastore, ↓v1_bastore, ↓v1_aastore_0, ↓v1_arraylength, ↓v1_new_0, ↓v1_newarray, ↓v1_anewarray, ↓v1_invokestatic_0, ↓v1_invokestatic_1, ↓v1_invokestatic_2a, ↓v1_invokevirtual_0, ↓v1_invokespecial_0, ↓v1_invokespecial_1a, ↓v1_invokespecial_1b, ↓vi_ii_e, ↓vi_i_e, ↓vi_jj_e, ↓vi_j_e, ↓vi_ij_e, ↓vi_r_e, ↓vi_rr_e, ↓vi_o_e, ↓vi_ir_e, ↓vi_iir_e, ↓vi_jir_e, ↓vi_rir_e, ↓vi_pop_z, ↓vi_pop_s, ↓vi_sw_n, ↓vi_sw_c, ↓vi_li_z, ↓vi_li_s, ↓vi_ll_z, ↓vi_ll_s, ↓vi_lr_z, ↓vi_lr_s, ↓vi_ret_l, ↓vi_ret_r, vi_sv, vg_set1, vg_set2, vg_lo, List.headD, List.contains_nil, List.contains_cons, Bool.or_false, Bool.false_eq_true, if_false, if_true, Nat.reduceAdd, Nat.reduceBEq, List.nil_append, List.cons_append, List.append_nil, Option.toList, Int32.reduceOfNat, Int64.reduceOfNat, reduceCtorEq, Nat.reduceLeDiff, Nat.le_refl, Nat.zero_le, true_and, and_true, false_or, or_false, or_true, true_or, and_self, not_true_eq_false, not_false_eq_true, forall_const, false_implies, true_implies, Sum.inl.injEq, Sum.inr.injEq, Option.some.injEq, eq_self, oI_1, oI_m, oI_5, oI_L, vi_ws_nil, vi_ws_I, vi_ws_J, vi_ws_R, wi_k, wi_n, wi_r, wi_l, wr_k, wr_n, wr_i, wr_l, wl_k, wl_n, wl_i, wl_r, Nat.reduceSub, Nat.reduceMul, cd_6_0, cd_6_19, cd_6_45, cd_6_103, cd_6_109, cd_6_118, cd_6_119, at_6_19, at_6_45, at_6_103, at_6_109, at_6_118, at_6_119, mc_6, ms_6, mr_6, mh_6, ml_6, mc_2, ms_2, g5, g6, e1]
    refine ⟨fun e => ?_, fun e => ?_⟩
    · refine vi_run ok_6 [] 20 ?_
      rw [at_6_119]
      simp only [↓reduceIte, vi_go_c, ↓v1_iadd, ↓v1_isub, ↓v1_imul, ↓v1_iand, ↓v1_idiv, ↓v1_irem, ↓v1_ineg, ↓v1_ladd, ↓v1_lsub, ↓v1_land, ↓v1_lcmp, ↓v1_lshl, ↓v1_lshr, ↓v1_i2l, ↓v1_l2i, ↓v1_iconst_0, ↓v1_iconst_m, ↓v1_bipush, ↓v1_sipush, ↓v1_ldc, ↓v1_ldc_w, ↓v1_lconst, ↓v1_ldc2_w, ↓v1_aconst_null, ↓v1_iload, ↓v1_iload_n, ↓v1_lload, ↓v1_lload_n, ↓v1_aload, ↓v1_aload_n, ↓v1_istore, ↓v1_istore_n, ↓v1_lstore, ↓v1_lstore_n, ↓v1_astore, ↓v1_astore_n, ↓v1_iinc, ↓v1_dup, ↓v1_dup2, ↓v1_ifCond_eq, ↓v1_ifCond_ne, ↓v1_ifCond_lt, ↓v1_ifCond_ge, ↓v1_ifCond_gt, ↓v1_ifCond_le, ↓v1_if_icmp_eq, ↓v1_if_icmp_ne, ↓v1_if_icmp_lt, ↓v1_if_icmp_ge, ↓v1_if_icmp_gt, ↓v1_if_icmp_le, ↓v1_if_acmp_ne, ↓v1_ifnull, ↓v1_ifnonnull, ↓v1_goto, ↓v1_tableswitch_0, ↓v1_return_, ↓v1_ireturn, ↓v1_lreturn, ↓v1_areturn, ↓v1_getfield_0, ↓v1_putfield_0, ↓v1_getstatic, ↓v1_iaload, ↓v1_laload, ↓v1_baload, ↓v1_aaload, ↓v1_iastore, ↓v1_lastore, ↓v1_bastore, ↓v1_aastore_0, ↓v1_arraylength, ↓v1_new_0, ↓v1_newarray, ↓v1_anewarray, ↓v1_invokestatic_0, ↓v1_invokestatic_1, ↓v1_invokestatic_2a, ↓v1_invokevirtual_0, ↓v1_invokespecial_0, ↓v1_invokespecial_1a, ↓v1_invokespecial_1b, ↓vi_ii_e, ↓vi_i_e, ↓vi_jj_e, ↓vi_j_e, ↓vi_ij_e, ↓vi_r_e, ↓vi_rr_e, ↓vi_o_e, ↓vi_ir_e, ↓vi_iir_e, ↓vi_jir_e, ↓vi_rir_e, ↓vi_pop_z, ↓vi_pop_s, ↓vi_sw_n, ↓vi_sw_c, ↓vi_li_z, ↓vi_li_s, ↓vi_ll_z, ↓vi_ll_s, ↓vi_lr_z, ↓vi_lr_s, ↓vi_ret_l, ↓vi_ret_r, vi_sv, vg_set1, vg_set2, vg_lo, List.headD, List.contains_nil, List.contains_cons, Bool.or_false, Bool.false_eq_true, if_false, if_true, Nat.reduceAdd, Nat.reduceBEq, List.nil_append, List.cons_append, List.append_nil, Option.toList, Int32.reduceOfNat, Int64.reduceOfNat, reduceCtorEq, Nat.reduceLeDiff, Nat.le_refl, Nat.zero_le, true_and, and_true, false_or, or_false, or_true, true_or, and_self, not_true_eq_false, not_false_eq_true, forall_const, false_implies, true_implies, Sum.inl.injEq, Sum.inr.injEq, Option.some.injEq, eq_self, oI_1, oI_m, oI_5, oI_L, vi_ws_nil, vi_ws_I, vi_ws_J, vi_ws_R, wi_k, wi_n, wi_r, wi_l, wr_k, wr_n, wr_i, wr_l, wl_k, wl_n, wl_i, wl_r, Nat.reduceSub, Nat.reduceMul, cd_6_0, cd_6_19, cd_6_45, cd_6_103, cd_6_109, cd_6_118, cd_6_119, at_6_19, at_6_45, at_6_103, at_6_109, at_6_118, at_6_119, mc_6, ms_6, mr_6, mh_6, ml_6, mc_2, ms_2]
      rw [bI_f (fun z => e (by rw [z]; rfl))] at fin
      exact fin
    · refine vi_run ok_6 [] 20 ?_
      rw [at_6_119]
      simp only [↓reduceIte, vi_go_c, ↓v1_iadd, ↓v1_isub, ↓v1_imul, ↓v1_iand, ↓v1_idiv, ↓v1_irem, ↓v1_ineg, ↓v1_ladd, ↓v1_lsub, ↓v1_land, ↓v1_lcmp, ↓v1_lshl, ↓v1_lshr, ↓v1_i2l, ↓v1_l2i, ↓v1_iconst_0, ↓v1_iconst_m, ↓v1_bipush, ↓v1_sipush, ↓v1_ldc, ↓v1_ldc_w, ↓v1_lconst, ↓v1_ldc2_w, ↓v1_aconst_null, ↓v1_iload, ↓v1_iload_n, ↓v1_lload, ↓v1_lload_n, ↓v1_aload, ↓v1_aload_n, ↓v1_istore, ↓v1_istore_n, ↓v1_lstore, ↓v1_lstore_n, ↓v1_astore, ↓v1_astore_n, ↓v1_iinc, ↓v1_dup, ↓v1_dup2, ↓v1_ifCond_eq, ↓v1_ifCond_ne, ↓v1_ifCond_lt, ↓v1_ifCond_ge, ↓v1_ifCond_gt, ↓v1_ifCond_le, ↓v1_if_icmp_eq, ↓v1_if_icmp_ne, ↓v1_if_icmp_lt, ↓v1_if_icmp_ge, ↓v1_if_icmp_gt, ↓v1_if_icmp_le, ↓v1_if_acmp_ne, ↓v1_ifnull, ↓v1_ifnonnull, ↓v1_goto, ↓v1_tableswitch_0, ↓v1_return_, ↓v1_ireturn, ↓v1_lreturn, ↓v1_areturn, ↓v1_getfield_0, ↓v1_putfield_0, ↓v1_getstatic, ↓v1_iaload, ↓v1_laload, ↓v1_baload, ↓v1_aaload, ↓v1_iastore, ↓v1_lastore, ↓v1_bastore, ↓v1_aastore_0, ↓v1_arraylength, ↓v1_new_0, ↓v1_newarray, ↓v1_anewarray, ↓v1_invokestatic_0, ↓v1_invokestatic_1, ↓v1_invokestatic_2a, ↓v1_invokevirtual_0, ↓v1_invokespecial_0, ↓v1_invokespecial_1a, ↓v1_invokespecial_1b, ↓vi_ii_e, ↓vi_i_e, ↓vi_jj_e, ↓vi_j_e, ↓vi_ij_e, ↓vi_r_e, ↓vi_rr_e, ↓vi_o_e, ↓vi_ir_e, ↓vi_iir_e, ↓vi_jir_e, ↓vi_rir_e, ↓vi_pop_z, ↓vi_pop_s, ↓vi_sw_n, ↓vi_sw_c, ↓vi_li_z, ↓vi_li_s, ↓vi_ll_z, ↓vi_ll_s, ↓vi_lr_z, ↓vi_lr_s, ↓vi_ret_l, ↓vi_ret_r, vi_sv, vg_set1, vg_set2, vg_lo, List.headD, List.contains_nil, List.contains_cons, Bool.or_false, Bool.false_eq_true, if_false, if_true, Nat.reduceAdd, Nat.reduceBEq, List.nil_append, List.cons_append, List.append_nil, Option.toList, Int32.reduceOfNat, Int64.reduceOfNat, reduceCtorEq, Nat.reduceLeDiff, Nat.le_refl, Nat.zero_le, true_and, and_true, false_or, or_false, or_true, true_or, and_self, not_true_eq_false, not_false_eq_true, forall_const, false_implies, true_implies, Sum.inl.injEq, Sum.inr.injEq, Option.some.injEq, eq_self, oI_1, oI_m, oI_5, oI_L, vi_ws_nil, vi_ws_I, vi_ws_J, vi_ws_R, wi_k, wi_n, wi_r, wi_l, wr_k, wr_n, wr_i, wr_l, wl_k, wl_n, wl_i, wl_r, Nat.reduceSub, Nat.reduceMul, cd_6_0, cd_6_19, cd_6_45, cd_6_103, cd_6_109, cd_6_118, cd_6_119, at_6_19, at_6_45, at_6_103, at_6_109, at_6_118, at_6_119, mc_6, ms_6, mr_6, mh_6, ml_6, mc_2, ms_2]
      have z0 : grR s (r - 10 * f) = 0 := by
        rcases Nat.eq_zero_or_pos (grR s (r - 10 * f)) with z | z
        · exact z
        · exact absurd (nI_ne0 (n := 5 * grR s (r - 10 * f)) (by omega) (by omega)) e
      rw [bI_t z0] at fin
      exact fin
  | succ n ih =>
    intro kd h hkd hK ht hc h2 h14
    obtain ⟨g1, g2, g3, g4, g5, g6, g7⟩ := hK.2.1.2.2.2.2.2.2.2.2.2
    have hC := hK.2.1
    obtain ⟨xk, xr0, xr1, xr2, xr3, xr4, xr5, xr6, xr7, xr8, ak1, ak2, ak3, ak4, ak5, ak6, ak7, ak8, ak9, ak10, ak11, ak12, ak13, ak14, ak15, ak16, an1, an2, an4, an5, an6, an7, an8, an9, an10, an11, an12, an14, an15, an16, vr0, vr1, vr2, vr3, vr4, hr0, hr1, xz⟩ := hC.1
    obtain ⟨xi9, xi10, xi11, xi12⟩ := hC.2.1
    have e1 : ¬ (6 : Int32) ≤ nI kd := by rw [show (6 : Int32) = nI 6 from rfl]; exact nI_ge (by omega) (by omega)
    have y1 := nI_clamp (show kd < 2 ^ 31 by omega)
    have y2 : vp_in (nI kd) 6 := vp_nI (by omega) (by omega)
    obtain ⟨u1, u2, u3, u4, u5, u6, u7, u8, u9, u10, u11, u12, u13, u14, u15, u16, u17⟩ := hC.2.2.2.2.2.2.2.1 q hq
    have u18 := (u17 kd (by omega)).1
    rw [(hst (5 - kd) (by omega)).1] at u18
    have g8 := g7 kd (by omega)
    rw [coM_5 (5 - kd) (by omega)] at g8
    have rb := rsK_le s (r - 10 * f) f kd
    have ub := unN_b (5 - kd)
    by_cases k2 : kd = 2
    · subst k2
      have e2 : (nI 2 = 2) = True := eq_true rfl
      refine vi_run ok_6 [19, 45] 60 ?_
      rw [at_6_19]
      simp only [↓reduceIte, vi_go_c, ↓v1_iadd, ↓v1_isub, ↓v1_imul, ↓v1_iand, ↓v1_idiv, ↓v1_irem, ↓v1_ineg, ↓v1_ladd, ↓v1_lsub, ↓v1_land, ↓v1_lcmp, ↓v1_lshl, ↓v1_lshr, ↓v1_i2l, ↓v1_l2i, ↓v1_iconst_0, ↓v1_iconst_m, ↓v1_bipush, ↓v1_sipush, ↓v1_ldc, ↓v1_ldc_w, ↓v1_lconst, ↓v1_ldc2_w, ↓v1_aconst_null, ↓v1_iload, ↓v1_iload_n, ↓v1_lload, ↓v1_lload_n, ↓v1_aload, ↓v1_aload_n, ↓v1_istore, ↓v1_istore_n, ↓v1_lstore, ↓v1_lstore_n, ↓v1_astore, ↓v1_astore_n, ↓v1_iinc, ↓v1_dup, ↓v1_dup2, ↓v1_ifCond_eq, ↓v1_ifCond_ne, ↓v1_ifCond_lt, ↓v1_ifCond_ge, ↓v1_ifCond_gt, ↓v1_ifCond_le, ↓v1_if_icmp_eq, ↓v1_if_icmp_ne, ↓v1_if_icmp_lt, ↓v1_if_icmp_ge, ↓v1_if_icmp_gt, ↓v1_if_icmp_le, ↓v1_if_acmp_ne, ↓v1_ifnull, ↓v1_ifnonnull, ↓v1_goto, ↓v1_tableswitch_0, ↓v1_return_, ↓v1_ireturn, ↓v1_lreturn, ↓v1_areturn, ↓v1_getfield_0, ↓v1_putfield_0, ↓v1_getstatic, ↓v1_iaload, ↓v1_laload, ↓v1_baload, ↓v1_aaload, ↓v1_iastore, ↓v1_lastore, ↓v1_bastore, ↓v1_aastore_0, ↓v1_arraylength, ↓v1_new_0, ↓v1_newarray, ↓v1_anewarray, ↓v1_invokestatic_0, ↓v1_invokestatic_1, ↓v1_invokestatic_2a, ↓v1_invokevirtual_0, ↓v1_invokespecial_0, ↓v1_invokespecial_1a, ↓v1_invokespecial_1b, ↓vi_ii_e, ↓vi_i_e, ↓vi_jj_e, ↓vi_j_e, ↓vi_ij_e, ↓vi_r_e, ↓vi_rr_e, ↓vi_o_e, ↓vi_ir_e, ↓vi_iir_e, ↓vi_jir_e, ↓vi_rir_e, ↓vi_pop_z, ↓vi_pop_s, ↓vi_sw_n, ↓vi_sw_c, ↓vi_li_z, ↓vi_li_s, ↓vi_ll_z, ↓vi_ll_s, ↓vi_lr_z, ↓vi_lr_s, ↓vi_ret_l, ↓vi_ret_r, vi_sv, vg_set1, vg_set2, vg_lo, List.headD, List.contains_nil, List.contains_cons, Bool.or_false, Bool.false_eq_true, if_false, if_true, Nat.reduceAdd, Nat.reduceBEq, List.nil_append, List.cons_append, List.append_nil, Option.toList, Int32.reduceOfNat, Int64.reduceOfNat, reduceCtorEq, Nat.reduceLeDiff, Nat.le_refl, Nat.zero_le, true_and, and_true, false_or, or_false, or_true, true_or, and_self, not_true_eq_false, not_false_eq_true, forall_const, false_implies, true_implies, Sum.inl.injEq, Sum.inr.injEq, Option.some.injEq, eq_self, oI_1, oI_m, oI_5, oI_L, vi_ws_nil, vi_ws_I, vi_ws_J, vi_ws_R, wi_k, wi_n, wi_r, wi_l, wr_k, wr_n, wr_i, wr_l, wl_k, wl_n, wl_i, wl_r, Nat.reduceSub, Nat.reduceMul, cd_6_0, cd_6_19, cd_6_45, cd_6_103, cd_6_109, cd_6_118, cd_6_119, at_6_19, at_6_45, at_6_103, at_6_109, at_6_118, at_6_119, mc_6, ms_6, mr_6, mh_6, ml_6, mc_2, ms_2, xk, xr0, xr1, xr2, xr3, xr4, xr5, xr6, xr7, xr8, ak1, ak2, ak3, ak4, ak5, ak6, ak7, ak8, ak9, ak10, ak11, ak12, ak13, ak14, ak15, ak16, an1, an2, an4, an5, an6, an7, an8, an9, an10, an11, an12, an14, an15, an16, vr0, vr1, vr2, vr3, vr4, hr0, hr1, xi9, xi10, xi11, xi12, g5, g6, e1, y1, y2, e2]
      intro v ev
      rw [← nI_succ] at ev
      subst ev
      rw [show rsK s (r - 10 * f) f 2 = rsK s (r - 10 * f) f (2 + 1) from rfl]
      refine ih (2 + 1) _ (by omega) (hK.wi (by omega)) (fun j hj => ?_) ?_ ?_ ?_
      · rw [wi_i]
        by_cases e : j = 2
        · subst e; rw [if_pos ⟨rfl, rfl⟩]; rfl
        · rw [if_neg (fun z => e z.2)]; exact ht j (by omega)
      · rw [wi_row (by omega)]; exact hc
      · rw [wi_row (by omega)]; exact h2
      · rw [wi_row (by omega)]; exact h14
    · have e2 : ¬ nI kd = 2 := fun z => k2 ((nI_eq (by omega) (by omega)).mp z)
      have hrs : rsK s (r - 10 * f) f (kd + 1) = rsK s (r - 10 * f) f kd - unN (5 - kd) * tkK s (r - 10 * f) f kd := by
        show (if kd = 2 then _ else _) = _
        rw [if_neg k2]; unfold tkK; rw [if_neg k2]
      have hct : ctK s (r - 10 * f) f (kd + 1) = ctK s (r - 10 * f) f kd + tkK s (r - 10 * f) f kd := by
        show (if kd = 2 then _ else _) = _
        rw [if_neg k2]
      have htk : tkK s (r - 10 * f) f kd = min (s (5 - kd)) (rsK s (r - 10 * f) f kd / unN (5 - kd)) := by unfold tkK; rw [if_neg k2]
      have hml : unN (5 - kd) * tkK s (r - 10 * f) f kd ≤ rsK s (r - 10 * f) f kd := by rw [htk]; exact min_un s _ _
      have hcl := ctK_le s (r - 10 * f) f hs5 hf kd
      have htl := tkK_le s (r - 10 * f) f kd hs5 hf
      have j45 : vg_A G (MT 6) 0 0 45 [some (.inr (.inr (some (b + 13)))), some (.inl (nI f)), some (.inl (nI (5 * r))), some (.inr (.inr (some (b + 26 + 4 * q)))), some (.inl (nI (5 * rsK s (r - 10 * f) f kd))), some (.inl (nI kd))] [] h Q := by
        have w15 : ∀ (hh : vg_H) (v : Int32), (vg_wi hh (b + 15) kd v).2.2.1 (b + 15) kd = v := fun hh v => by rw [wi_i, if_pos ⟨rfl, rfl⟩]
        have w13 : ∀ (hh : vg_H) (i j : Nat) (v : Int32), (vg_wi hh (b + 15) i v).2.2.1 (b + 13) j = hh.2.2.1 (b + 13) j := fun hh i j v => by rw [wi_row (by omega)]
        have wG : ∀ (hh : vg_H) (i j : Nat) (v : Int32), (vg_wi hh (b + 15) i v).2.2.1 (G.2.2.2.2 0) j = hh.2.2.1 (G.2.2.2.2 0) j := fun hh i j v => by rw [wi_row (by omega)]
        refine vi_run ok_6 [19] 60 ?_
        rw [at_6_45]
        simp only [↓reduceIte, vi_go_c, ↓v1_iadd, ↓v1_isub, ↓v1_imul, ↓v1_iand, ↓v1_idiv, ↓v1_irem, ↓v1_ineg, ↓v1_ladd, ↓v1_lsub, ↓v1_land, ↓v1_lcmp, ↓v1_lshl, ↓v1_lshr, ↓v1_i2l, ↓v1_l2i, ↓v1_iconst_0, ↓v1_iconst_m, ↓v1_bipush, ↓v1_sipush, ↓v1_ldc, ↓v1_ldc_w, ↓v1_lconst, ↓v1_ldc2_w, ↓v1_aconst_null, ↓v1_iload, ↓v1_iload_n, ↓v1_lload, ↓v1_lload_n, ↓v1_aload, ↓v1_aload_n, ↓v1_istore, ↓v1_istore_n, ↓v1_lstore, ↓v1_lstore_n, ↓v1_astore, ↓v1_astore_n, ↓v1_iinc, ↓v1_dup, ↓v1_dup2, ↓v1_ifCond_eq, ↓v1_ifCond_ne, ↓v1_ifCond_lt, ↓v1_ifCond_ge, ↓v1_ifCond_gt, ↓v1_ifCond_le, ↓v1_if_icmp_eq, ↓v1_if_icmp_ne, ↓v1_if_icmp_lt, ↓v1_if_icmp_ge, ↓v1_if_icmp_gt, ↓v1_if_icmp_le, ↓v1_if_acmp_ne, ↓v1_ifnull, ↓v1_ifnonnull, ↓v1_goto, ↓v1_tableswitch_0, ↓v1_return_, ↓v1_ireturn, ↓v1_lreturn, ↓v1_areturn, ↓v1_getfield_0, ↓v1_putfield_0, ↓v1_getstatic, ↓v1_iaload, ↓v1_laload, ↓v1_baload, ↓v1_aaload, ↓v1_iastore, ↓v1_lastore, ↓v1_bastore, ↓v1_aastore_0, ↓v1_arraylength, ↓v1_new_0, ↓v1_newarray, ↓v1_anewarray, ↓v1_invokestatic_0, ↓v1_invokestatic_1, ↓v1_invokestatic_2a, ↓v1_invokevirtual_0, ↓v1_invokespecial_0, ↓v1_invokespecial_1a, ↓v1_invokespecial_1b, ↓vi_ii_e, ↓vi_i_e, ↓vi_jj_e, ↓vi_j_e, ↓vi_ij_e, ↓vi_r_e, ↓vi_rr_e, ↓vi_o_e, ↓vi_ir_e, ↓vi_iir_e, ↓vi_jir_e, ↓vi_rir_e, ↓vi_pop_z, ↓vi_pop_s, ↓vi_sw_n, ↓vi_sw_c, ↓vi_li_z, ↓vi_li_s, ↓vi_ll_z, ↓vi_ll_s, ↓vi_lr_z, ↓vi_lr_s, ↓vi_ret_l, ↓vi_ret_r, vi_sv, vg_set1, vg_set2, vg_lo, List.headD, List.contains_nil, List.contains_cons, Bool.or_false, Bool.false_eq_true, if_false, if_true, Nat.reduceAdd, Nat.reduceBEq, List.nil_append, List.cons_append, List.append_nil, Option.toList, Int32.reduceOfNat, Int64.reduceOfNat, reduceCtorEq, Nat.reduceLeDiff, Nat.le_refl, Nat.zero_le, true_and, and_true, false_or, or_false, or_true, true_or, and_self, not_true_eq_false, not_false_eq_true, forall_const, false_implies, true_implies, Sum.inl.injEq, Sum.inr.injEq, Option.some.injEq, eq_self, oI_1, oI_m, oI_5, oI_L, vi_ws_nil, vi_ws_I, vi_ws_J, vi_ws_R, wi_k, wi_n, wi_r, wi_l, wr_k, wr_n, wr_i, wr_l, wl_k, wl_n, wl_i, wl_r, Nat.reduceSub, Nat.reduceMul, cd_6_0, cd_6_19, cd_6_45, cd_6_103, cd_6_109, cd_6_118, cd_6_119, at_6_19, at_6_45, at_6_103, at_6_109, at_6_118, at_6_119, mc_6, ms_6, mr_6, mh_6, ml_6, mc_2, ms_2, xk, xr0, xr1, xr2, xr3, xr4, xr5, xr6, xr7, xr8, ak1, ak2, ak3, ak4, ak5, ak6, ak7, ak8, ak9, ak10, ak11, ak12, ak13, ak14, ak15, ak16, an1, an2, an4, an5, an6, an7, an8, an9, an10, an11, an12, an14, an15, an16, vr0, vr1, vr2, vr3, vr4, hr0, hr1, xi9, xi10, xi11, xi12, g5, g6, g8, y1, y2, u6, u9, u18, w15, w13, wG, hc]
        refine ⟨fun z => absurd z (nI_ne0 (by omega) (by omega)), fun v1 ev1 v2 ev2 v3 ev3 v4 ev4 v5 ev5 v6 ev6 => ?_⟩
        rw [nI_divN (by omega) (by omega), Nat.mul_div_mul_left _ _ (by omega)] at ev1
        subst ev1
        have v2e : v2 = nI (tkK s (r - 10 * f) f kd) := by
          have db : rsK s (r - 10 * f) f kd / unN (5 - kd) ≤ rsK s (r - 10 * f) f kd := Nat.div_le_self _ _
          have sb := hs5 (5 - kd) (by omega)
          rw [ev2, htk]
          exact nI_minN (by omega) (by omega)
        subst v2e
        rw [nI_m] at ev3
        subst ev3
        have me : tkK s (r - 10 * f) f kd * (5 * unN (5 - kd)) = 5 * (unN (5 - kd) * tkK s (r - 10 * f) f kd) := by
          rw [Nat.mul_comm, Nat.mul_assoc]
        rw [me, nI_subN (by omega), ← Nat.mul_sub, ← hrs] at ev4
        subst ev4
        rw [nI_add, ← hct] at ev5
        subst ev5
        rw [← nI_succ] at ev6
        subst ev6
        refine ih (kd + 1) _ (by omega) ((hK.wi (by omega)).wi (by omega)) (fun j hj => ?_) ?_ ?_ ?_
        · rw [wi_row (by omega), wi_i]
          by_cases e : j = kd
          · subst e; rw [if_pos ⟨rfl, rfl⟩]
          · rw [if_neg (fun z => e z.2)]; exact ht j (by omega)
        · rw [wi_i, if_pos ⟨rfl, rfl⟩]
        · rw [wi_i, if_neg (fun z => by omega), wi_row (by omega)]; exact h2
        · rw [wi_row (by omega), wi_row (by omega)]; exact h14
      refine vi_run ok_6 [45, 103] 60 ?_
      rw [at_6_19]
      simp only [↓reduceIte, vi_go_c, ↓v1_iadd, ↓v1_isub, ↓v1_imul, ↓v1_iand, ↓v1_idiv, ↓v1_irem, ↓v1_ineg, ↓v1_ladd, ↓v1_lsub, ↓v1_land, ↓v1_lcmp, ↓v1_lshl, ↓v1_lshr, ↓v1_i2l, ↓v1_l2i, ↓v1_iconst_0, ↓v1_iconst_m, ↓v1_bipush, ↓v1_sipush, ↓v1_ldc, ↓v1_ldc_w, ↓v1_lconst, ↓v1_ldc2_w, ↓v1_aconst_null, ↓v1_iload, ↓v1_iload_n, ↓v1_lload, ↓v1_lload_n, ↓v1_aload, ↓v1_aload_n, ↓v1_istore, ↓v1_istore_n, ↓v1_lstore, ↓v1_lstore_n, ↓v1_astore, ↓v1_astore_n, ↓v1_iinc, ↓v1_dup, ↓v1_dup2, ↓v1_ifCond_eq, ↓v1_ifCond_ne, ↓v1_ifCond_lt, ↓v1_ifCond_ge, ↓v1_ifCond_gt, ↓v1_ifCond_le, ↓v1_if_icmp_eq, ↓v1_if_icmp_ne, ↓v1_if_icmp_lt, ↓v1_if_icmp_ge, ↓v1_if_icmp_gt, ↓v1_if_icmp_le, ↓v1_if_acmp_ne, ↓v1_ifnull, ↓v1_ifnonnull, ↓v1_goto, ↓v1_tableswitch_0, ↓v1_return_, ↓v1_ireturn, ↓v1_lreturn, ↓v1_areturn, ↓v1_getfield_0, ↓v1_putfield_0, ↓v1_getstatic, ↓v1_iaload, ↓v1_laload, ↓v1_baload, ↓v1_aaload, ↓v1_iastore, ↓v1_lastore, ↓v1_bastore, ↓v1_aastore_0, ↓v1_arraylength, ↓v1_new_0, ↓v1_newarray, ↓v1_anewarray, ↓v1_invokestatic_0, ↓v1_invokestatic_1, ↓v1_invokestatic_2a, ↓v1_invokevirtual_0, ↓v1_invokespecial_0, ↓v1_invokespecial_1a, ↓v1_invokespecial_1b, ↓vi_ii_e, ↓vi_i_e, ↓vi_jj_e, ↓vi_j_e, ↓vi_ij_e, ↓vi_r_e, ↓vi_rr_e, ↓vi_o_e, ↓vi_ir_e, ↓vi_iir_e, ↓vi_jir_e, ↓vi_rir_e, ↓vi_pop_z, ↓vi_pop_s, ↓vi_sw_n, ↓vi_sw_c, ↓vi_li_z, ↓vi_li_s, ↓vi_ll_z, ↓vi_ll_s, ↓vi_lr_z, ↓vi_lr_s, ↓vi_ret_l, ↓vi_ret_r, vi_sv, vg_set1, vg_set2, vg_lo, List.headD, List.contains_nil, List.contains_cons, Bool.or_false, Bool.false_eq_true, if_false, if_true, Nat.reduceAdd, Nat.reduceBEq, List.nil_append, List.cons_append, List.append_nil, Option.toList, Int32.reduceOfNat, Int64.reduceOfNat, reduceCtorEq, Nat.reduceLeDiff, Nat.le_refl, Nat.zero_le, true_and, and_true, false_or, or_false, or_true, true_or, and_self, not_true_eq_false, not_false_eq_true, forall_const, false_implies, true_implies, Sum.inl.injEq, Sum.inr.injEq, Option.some.injEq, eq_self, oI_1, oI_m, oI_5, oI_L, vi_ws_nil, vi_ws_I, vi_ws_J, vi_ws_R, wi_k, wi_n, wi_r, wi_l, wr_k, wr_n, wr_i, wr_l, wl_k, wl_n, wl_i, wl_r, Nat.reduceSub, Nat.reduceMul, cd_6_0, cd_6_19, cd_6_45, cd_6_103, cd_6_109, cd_6_118, cd_6_119, at_6_19, at_6_45, at_6_103, at_6_109, at_6_118, at_6_119, mc_6, ms_6, mr_6, mh_6, ml_6, mc_2, ms_2, xk, xr0, xr1, xr2, xr3, xr4, xr5, xr6, xr7, xr8, ak1, ak2, ak3, ak4, ak5, ak6, ak7, ak8, ak9, ak10, ak11, ak12, ak13, ak14, ak15, ak16, an1, an2, an4, an5, an6, an7, an8, an9, an10, an11, an12, an14, an15, an16, vr0, vr1, vr2, vr3, vr4, hr0, hr1, xi9, xi10, xi11, xi12, g5, g6, e1, y1, y2, e2]
      exact j45
set_option maxRecDepth 100000 in
theorem c_6 {h : vg_H} {q r f : Nat} {s : Nat → Nat} (hq : q < 3) (hr : r ≤ 8000) (hf : f ≤ 500) (hfr : 10 * f ≤ r) (hst : ∀ i, i < 6 → S 35 (6 * q + i) = nI (s i) ∧ s i ≤ 500) (hC : CX G b A S h) (hV : CV b A S h) (hQ : ∀ h', CK G b A S h h' → (∀ j, j < 6 → h'.2.2.1 (b + 15) j = nI (grX s r f (5 - j))) → h'.2.2.1 (b + 13) 3 = nI (smN (grX s r f) 6) → h'.2.2.1 (b + 13) 2 = h.2.2.1 (b + 13) 2 → h'.2.2.1 (b + 14) = h.2.2.1 (b + 14) → Q (.inl (some (.inl (bI (grR s (r - 10 * f) = 0))))) h') : vg_C G (MT 6) [.inr (.inr (some (b + 13))), .inl (nI f), .inl (nI (5 * r)), .inr (.inr (some (b + 26 + 4 * q)))] h Q := by
  obtain ⟨g1, g2, g3, g4, g5, g6, g7⟩ := hC.2.2.2.2.2.2.2.2.2
  have g8 := g7 2 (by omega)
  rw [coM_5 (5 - 2) (by omega), show 5 * unN (5 - 2) = 50 from rfl] at g8
  obtain ⟨xk, xr0, xr1, xr2, xr3, xr4, xr5, xr6, xr7, xr8, ak1, ak2, ak3, ak4, ak5, ak6, ak7, ak8, ak9, ak10, ak11, ak12, ak13, ak14, ak15, ak16, an1, an2, an4, an5, an6, an7, an8, an9, an10, an11, an12, an14, an15, an16, vr0, vr1, vr2, vr3, vr4, hr0, hr1, xz⟩ := hC.1
  obtain ⟨xi9, xi10, xi11, xi12⟩ := hC.2.1
  have v6 : vp_in 2 6 := vp_nI (i := 2) (n := 6) (by omega) (by omega)
  have c2 : (2 : Int32).toNatClampNeg = 2 := by decide
  refine vg_C_of rfl (by decide +kernel) (Nat.le_of_ble_eq_true rfl) ?_
  refine vi_run ok_6 [19] 40 ?_
  rw [at_6_0]
  simp only [vg_ent, vg_en, List.length_cons, List.length_nil, Nat.reduceAdd, Nat.reduceSub, List.replicate, List.append_nil, List.nil_append, List.cons_append, mn_6]
  simp only [↓reduceIte, vi_go_c, ↓v1_iadd, ↓v1_isub, ↓v1_imul, ↓v1_iand, ↓v1_idiv, ↓v1_irem, ↓v1_ineg, ↓v1_ladd, ↓v1_lsub, ↓v1_land, ↓v1_lcmp, ↓v1_lshl, ↓v1_lshr, ↓v1_i2l, ↓v1_l2i, ↓v1_iconst_0, ↓v1_iconst_m, ↓v1_bipush, ↓v1_sipush, ↓v1_ldc, ↓v1_ldc_w, ↓v1_lconst, ↓v1_ldc2_w, ↓v1_aconst_null, ↓v1_iload, ↓v1_iload_n, ↓v1_lload, ↓v1_lload_n, ↓v1_aload, ↓v1_aload_n, ↓v1_istore, ↓v1_istore_n, ↓v1_lstore, ↓v1_lstore_n, ↓v1_astore, ↓v1_astore_n, ↓v1_iinc, ↓v1_dup, ↓v1_dup2, ↓v1_ifCond_eq, ↓v1_ifCond_ne, ↓v1_ifCond_lt, ↓v1_ifCond_ge, ↓v1_ifCond_gt, ↓v1_ifCond_le, ↓v1_if_icmp_eq, ↓v1_if_icmp_ne, ↓v1_if_icmp_lt, ↓v1_if_icmp_ge, ↓v1_if_icmp_gt, ↓v1_if_icmp_le, ↓v1_if_acmp_ne, ↓v1_ifnull, ↓v1_ifnonnull, ↓v1_goto, ↓v1_tableswitch_0, ↓v1_return_, ↓v1_ireturn, ↓v1_lreturn, ↓v1_areturn, ↓v1_getfield_0, ↓v1_putfield_0, ↓v1_getstatic, ↓v1_iaload, ↓v1_laload, ↓v1_baload, ↓v1_aaload, ↓v1_iastore, ↓v1_lastore, ↓v1_bastore, ↓v1_aastore_0, ↓v1_arraylength, ↓v1_new_0, ↓v1_newarray, ↓v1_anewarray, ↓v1_invokestatic_0, ↓v1_invokestatic_1, ↓v1_invokestatic_2a, ↓v1_invokevirtual_0, ↓v1_invokespecial_0, ↓v1_invokespecial_1a, ↓v1_invokespecial_1b, ↓vi_ii_e, ↓vi_i_e, ↓vi_jj_e, ↓vi_j_e, ↓vi_ij_e, ↓vi_r_e, ↓vi_rr_e, ↓vi_o_e, ↓vi_ir_e, ↓vi_iir_e, ↓vi_jir_e, ↓vi_rir_e, ↓vi_pop_z, ↓vi_pop_s, ↓vi_sw_n, ↓vi_sw_c, ↓vi_li_z, ↓vi_li_s, ↓vi_ll_z, ↓vi_ll_s, ↓vi_lr_z, ↓vi_lr_s, ↓vi_ret_l, ↓vi_ret_r, vi_sv, vg_set1, vg_set2, vg_lo, List.headD, List.contains_nil, List.contains_cons, Bool.or_false, Bool.false_eq_true, if_false, if_true, Nat.reduceAdd, Nat.reduceBEq, List.nil_append, List.cons_append, List.append_nil, Option.toList, Int32.reduceOfNat, Int64.reduceOfNat, reduceCtorEq, Nat.reduceLeDiff, Nat.le_refl, Nat.zero_le, true_and, and_true, false_or, or_false, or_true, true_or, and_self, not_true_eq_false, not_false_eq_true, forall_const, false_implies, true_implies, Sum.inl.injEq, Sum.inr.injEq, Option.some.injEq, eq_self, oI_1, oI_m, oI_5, oI_L, vi_ws_nil, vi_ws_I, vi_ws_J, vi_ws_R, wi_k, wi_n, wi_r, wi_l, wr_k, wr_n, wr_i, wr_l, wl_k, wl_n, wl_i, wl_r, Nat.reduceSub, Nat.reduceMul, cd_6_0, cd_6_19, cd_6_45, cd_6_103, cd_6_109, cd_6_118, cd_6_119, at_6_19, at_6_45, at_6_103, at_6_109, at_6_118, at_6_119, mc_6, ms_6, mr_6, mh_6, ml_6, mc_2, ms_2, xk, xr0, xr1, xr2, xr3, xr4, xr5, xr6, xr7, xr8, ak1, ak2, ak3, ak4, ak5, ak6, ak7, ak8, ak9, ak10, ak11, ak12, ak13, ak14, ak15, ak16, an1, an2, an4, an5, an6, an7, an8, an9, an10, an11, an12, an14, an15, an16, vr0, vr1, vr2, vr3, vr4, hr0, hr1, xi9, xi10, xi11, xi12, g5, g6, g8, v6, c2]
  intro v1 e1 v2 e2
  rw [nI_m] at e1
  subst e1
  rw [nI_subN (by omega), show 5 * r - f * 50 = 5 * (r - 10 * f) by omega] at e2
  subst e2
  have K0 : CK G b A S h h := ⟨fr.refl b h, hC, hV⟩
  refine l_6 hq hr hf hst (fun h' p1 p2 p3 p4 p5 => hQ h' p1 p2 p3 p4 p5) 6 0 _ (by omega) (K0.wi (by omega)) (fun j hj => by omega) ?_ ?_ ?_
  · rw [wi_i, if_pos ⟨rfl, rfl⟩]; rfl
  · rw [wi_i, if_neg (fun z => by omega)]
  · rw [wi_row (by omega)]
set_option maxRecDepth 100000 in
theorem l_5 {h : vg_H} {X Y : Nat → Nat} (hC : CX G b A S h) (hx : ∀ j, j < 6 → h.2.2.1 (b + 15) j = nI (X (5 - j)) ∧ X (5 - j) < 2 ^ 31) (hy : ∀ j, j < 6 → h.2.2.1 (b + 14) j = nI (Y (5 - j)) ∧ Y (5 - j) < 2 ^ 31) (h1 : (∃ i, i < 6 ∧ Y i < X i ∧ ∀ j, i < j → j < 6 → X j = Y j) → Q (.inl (some (.inl 1))) h) (h0 : ¬ (∃ i, i < 6 ∧ Y i < X i ∧ ∀ j, i < j → j < 6 → X j = Y j) → Q (.inl (some (.inl 0))) h) : ∀ (n kd : Nat), kd + n = 6 → (∀ j, j < kd → X (5 - j) = Y (5 - j)) →
    vg_A G (MT 5) 0 0 30 [some (.inr (.inr (some (b + 13)))), some (.inl (nI kd))] [] h Q := by
  obtain ⟨g1, g2, g3, g4, g5, g6, g7⟩ := hC.2.2.2.2.2.2.2.2.2
  obtain ⟨xk, xr0, xr1, xr2, xr3, xr4, xr5, xr6, xr7, xr8, ak1, ak2, ak3, ak4, ak5, ak6, ak7, ak8, ak9, ak10, ak11, ak12, ak13, ak14, ak15, ak16, an1, an2, an4, an5, an6, an7, an8, an9, an10, an11, an12, an14, an15, an16, vr0, vr1, vr2, vr3, vr4, hr0, hr1, xz⟩ := hC.1
  obtain ⟨xi9, xi10, xi11, xi12⟩ := hC.2.1
  intro n
  induction n with
  | zero =>
    intro kd hk he
    have k6 : kd = 6 := by omega
    subst k6
    have e1 : (6 : Int32) ≤ nI 6 := by decide
    refine vi_run ok_5 [38] 40 ?_
    rw [at_5_30]
    simp only [↓reduceIte, vi_go_c, ↓v1_iadd, ↓v1_isub, ↓v1_imul, ↓v1_iand, ↓v1_idiv, ↓v1_irem, ↓v1_ineg, ↓v1_ladd, ↓v1_lsub, ↓v1_land, ↓v1_lcmp, ↓v1_lshl, ↓v1_lshr, ↓v1_i2l, ↓v1_l2i, ↓v1_iconst_0, ↓v1_iconst_m, ↓v1_bipush, ↓v1_sipush, ↓v1_ldc, ↓v1_ldc_w, ↓v1_lconst, ↓v1_ldc2_w, ↓v1_aconst_null, ↓v1_iload, ↓v1_iload_n, ↓v1_lload, ↓v1_lload_n, ↓v1_aload, ↓v1_aload_n, ↓v1_istore, ↓v1_istore_n, ↓v1_lstore, ↓v1_lstore_n, ↓v1_astore, ↓v1_astore_n, ↓v1_iinc, ↓v1_dup, ↓v1_dup2, ↓v1_ifCond_eq, ↓v1_ifCond_ne, ↓v1_ifCond_lt, ↓v1_ifCond_ge, ↓v1_ifCond_gt, ↓v1_ifCond_le, ↓v1_if_icmp_eq, ↓v1_if_icmp_ne, ↓v1_if_icmp_lt, ↓v1_if_icmp_ge, ↓v1_if_icmp_gt, ↓v1_if_icmp_le, ↓v1_if_acmp_ne, ↓v1_ifnull, ↓v1_ifnonnull, ↓v1_goto, ↓v1_tableswitch_0, ↓v1_return_, ↓v1_ireturn, ↓v1_lreturn, ↓v1_areturn, ↓v1_getfield_0, ↓v1_putfield_0, ↓v1_getstatic, ↓v1_iaload, ↓v1_laload, ↓v1_baload, ↓v1_aaload, ↓v1_iastore, ↓v1_lastore, ↓v1_bastore, ↓v1_aastore_0, ↓v1_arraylength, ↓v1_new_0, ↓v1_newarray, ↓v1_anewarray, ↓v1_invokestatic_0, ↓v1_invokestatic_1, ↓v1_invokestatic_2a, ↓v1_invokevirtual_0, ↓v1_invokespecial_0, ↓v1_invokespecial_1a, ↓v1_invokespecial_1b, ↓vi_ii_e, ↓vi_i_e, ↓vi_jj_e, ↓vi_j_e, ↓vi_ij_e, ↓vi_r_e, ↓vi_rr_e, ↓vi_o_e, ↓vi_ir_e, ↓vi_iir_e, ↓vi_jir_e, ↓vi_rir_e, ↓vi_pop_z, ↓vi_pop_s, ↓vi_sw_n, ↓vi_sw_c, ↓vi_li_z, ↓vi_li_s, ↓vi_ll_z, ↓vi_ll_s, ↓vi_lr_z, ↓vi_lr_s, ↓vi_ret_l, ↓vi_ret_r, vi_sv, vg_set1, vg_set2, vg_lo, List.headD, List.contains_nil, List.contains_cons, Bool.or_false, Bool.false_eq_true, if_false, if_true, Nat.reduceAdd, Nat.reduceBEq, List.nil_append, List.cons_append, List.append_nil, Option.toList, Int32.reduceOfNat, Int64.reduceOfNat, reduceCtorEq, Nat.reduceLeDiff, Nat.le_refl, Nat.zero_le, true_and, and_true, false_or, or_false, or_true, true_or, and_self, not_true_eq_false, not_false_eq_true, forall_const, false_implies, true_implies, Sum.inl.injEq, Sum.inr.injEq, Option.some.injEq, eq_self, oI_1, oI_m, oI_5, oI_L, vi_ws_nil, vi_ws_I, vi_ws_J, vi_ws_R, wi_k, wi_n, wi_r, wi_l, wr_k, wr_n, wr_i, wr_l, wl_k, wl_n, wl_i, wl_r, Nat.reduceSub, Nat.reduceMul, cd_5_0, cd_5_26, cd_5_27, cd_5_28, cd_5_30, cd_5_72, cd_5_73, cd_5_74, cd_5_80, at_5_26, at_5_27, at_5_28, at_5_30, at_5_72, at_5_73, at_5_74, at_5_80, mc_5, ms_5, mr_5, mh_5, ml_5, xk, xr0, xr1, xr2, xr3, xr4, xr5, xr6, xr7, xr8, ak1, ak2, ak3, ak4, ak5, ak6, ak7, ak8, ak9, ak10, ak11, ak12, ak13, ak14, ak15, ak16, an1, an2, an4, an5, an6, an7, an8, an9, an10, an11, an12, an14, an15, an16, vr0, vr1, vr2, vr3, vr4, hr0, hr1, xi9, xi10, xi11, xi12, g5, g6, e1]
    refine h0 (fun ⟨i, i1, i2, i3⟩ => ?_)
    have := he (5 - i) (by omega)
    rw [show 5 - (5 - i) = i by omega] at this
    omega
  | succ n ih =>
    intro kd hk he
    have e1 : ¬ (6 : Int32) ≤ nI kd := by rw [show (6 : Int32) = nI 6 from rfl]; exact nI_ge (by omega) (by omega)
    have y1 := nI_clamp (show kd < 2 ^ 31 by omega)
    have y2 : vp_in (nI kd) 6 := vp_nI (by omega) (by omega)
    obtain ⟨x1, x2⟩ := hx kd (by omega)
    obtain ⟨z1, z2⟩ := hy kd (by omega)
    have hi : ∀ j, 5 - kd < j → j < 6 → X j = Y j := fun j h3 h4 => by
      have := he (5 - j) (by omega)
      rw [show 5 - (5 - j) = j by omega] at this
      exact this
    refine vi_run ok_5 [30] 60 ?_
    rw [at_5_30]
    simp only [↓reduceIte, vi_go_c, ↓v1_iadd, ↓v1_isub, ↓v1_imul, ↓v1_iand, ↓v1_idiv, ↓v1_irem, ↓v1_ineg, ↓v1_ladd, ↓v1_lsub, ↓v1_land, ↓v1_lcmp, ↓v1_lshl, ↓v1_lshr, ↓v1_i2l, ↓v1_l2i, ↓v1_iconst_0, ↓v1_iconst_m, ↓v1_bipush, ↓v1_sipush, ↓v1_ldc, ↓v1_ldc_w, ↓v1_lconst, ↓v1_ldc2_w, ↓v1_aconst_null, ↓v1_iload, ↓v1_iload_n, ↓v1_lload, ↓v1_lload_n, ↓v1_aload, ↓v1_aload_n, ↓v1_istore, ↓v1_istore_n, ↓v1_lstore, ↓v1_lstore_n, ↓v1_astore, ↓v1_astore_n, ↓v1_iinc, ↓v1_dup, ↓v1_dup2, ↓v1_ifCond_eq, ↓v1_ifCond_ne, ↓v1_ifCond_lt, ↓v1_ifCond_ge, ↓v1_ifCond_gt, ↓v1_ifCond_le, ↓v1_if_icmp_eq, ↓v1_if_icmp_ne, ↓v1_if_icmp_lt, ↓v1_if_icmp_ge, ↓v1_if_icmp_gt, ↓v1_if_icmp_le, ↓v1_if_acmp_ne, ↓v1_ifnull, ↓v1_ifnonnull, ↓v1_goto, ↓v1_tableswitch_0, ↓v1_return_, ↓v1_ireturn, ↓v1_lreturn, ↓v1_areturn, ↓v1_getfield_0, ↓v1_putfield_0, ↓v1_getstatic, ↓v1_iaload, ↓v1_laload, ↓v1_baload, ↓v1_aaload, ↓v1_iastore, ↓v1_lastore, ↓v1_bastore, ↓v1_aastore_0, ↓v1_arraylength, ↓v1_new_0, ↓v1_newarray, ↓v1_anewarray, ↓v1_invokestatic_0, ↓v1_invokestatic_1, ↓v1_invokestatic_2a, ↓v1_invokevirtual_0, ↓v1_invokespecial_0, ↓v1_invokespecial_1a, ↓v1_invokespecial_1b, ↓vi_ii_e, ↓vi_i_e, ↓vi_jj_e, ↓vi_j_e, ↓vi_ij_e, ↓vi_r_e, ↓vi_rr_e, ↓vi_o_e, ↓vi_ir_e, ↓vi_iir_e, ↓vi_jir_e, ↓vi_rir_e, ↓vi_pop_z, ↓vi_pop_s, ↓vi_sw_n, ↓vi_sw_c, ↓vi_li_z, ↓vi_li_s, ↓vi_ll_z, ↓vi_ll_s, ↓vi_lr_z, ↓vi_lr_s, ↓vi_ret_l, ↓vi_ret_r, vi_sv, vg_set1, vg_set2, vg_lo, List.headD, List.contains_nil, List.contains_cons, Bool.or_false, Bool.false_eq_true, if_false, if_true, Nat.reduceAdd, Nat.reduceBEq, List.nil_append, List.cons_append, List.append_nil, Option.toList, Int32.reduceOfNat, Int64.reduceOfNat, reduceCtorEq, Nat.reduceLeDiff, Nat.le_refl, Nat.zero_le, true_and, and_true, false_or, or_false, or_true, true_or, and_self, not_true_eq_false, not_false_eq_true, forall_const, false_implies, true_implies, Sum.inl.injEq, Sum.inr.injEq, Option.some.injEq, eq_self, oI_1, oI_m, oI_5, oI_L, vi_ws_nil, vi_ws_I, vi_ws_J, vi_ws_R, wi_k, wi_n, wi_r, wi_l, wr_k, wr_n, wr_i, wr_l, wl_k, wl_n, wl_i, wl_r, Nat.reduceSub, Nat.reduceMul, cd_5_0, cd_5_26, cd_5_27, cd_5_28, cd_5_30, cd_5_72, cd_5_73, cd_5_74, cd_5_80, at_5_26, at_5_27, at_5_28, at_5_30, at_5_72, at_5_73, at_5_74, at_5_80, mc_5, ms_5, mr_5, mh_5, ml_5, xk, xr0, xr1, xr2, xr3, xr4, xr5, xr6, xr7, xr8, ak1, ak2, ak3, ak4, ak5, ak6, ak7, ak8, ak9, ak10, ak11, ak12, ak13, ak14, ak15, ak16, an1, an2, an4, an5, an6, an7, an8, an9, an10, an11, an12, an14, an15, an16, vr0, vr1, vr2, vr3, vr4, hr0, hr1, xi9, xi10, xi11, xi12, g5, g6, e1, y1, y2, x1, z1]
    rw [nI_eq x2 z2, nI_leI x2 z2]
    refine ⟨fun e v ev => ?_, fun e => ⟨fun e2 => ?_, fun e2 => ?_⟩⟩
    · rw [← nI_succ] at ev; subst ev
      exact ih (kd + 1) (by omega) (fun j hj => if q : j = kd then by subst q; exact e else he j (by omega))
    · refine h0 (fun ⟨i, i1, i2, i3⟩ => ?_)
      rcases Nat.lt_trichotomy i (5 - kd) with q | q | q
      · exact e (i3 (5 - kd) q (by omega))
      · subst q; omega
      · have := hi i q i1; omega
    · exact h1 ⟨5 - kd, by omega, by omega, hi⟩
set_option maxRecDepth 100000 in
theorem c_5 {h : vg_H} {X Y : Nat → Nat} (hC : CX G b A S h) (hx : ∀ j, j < 6 → h.2.2.1 (b + 15) j = nI (X (5 - j)) ∧ X (5 - j) < 2 ^ 31) (hy : ∀ j, j < 6 → h.2.2.1 (b + 14) j = nI (Y (5 - j)) ∧ Y (5 - j) < 2 ^ 31) (cx : h.2.2.1 (b + 13) 3 = nI (smN X 6)) (cy : h.2.2.1 (b + 13) 2 = nI (smN Y 6)) (bx : smN X 6 < 2 ^ 31) (by' : smN Y 6 < 2 ^ 31) (h1 : betN X Y → Q (.inl (some (.inl 1))) h) (h0 : ¬ betN X Y → Q (.inl (some (.inl 0))) h) : vg_C G (MT 5) [.inr (.inr (some (b + 13)))] h Q := by
  obtain ⟨xk, xr0, xr1, xr2, xr3, xr4, xr5, xr6, xr7, xr8, ak1, ak2, ak3, ak4, ak5, ak6, ak7, ak8, ak9, ak10, ak11, ak12, ak13, ak14, ak15, ak16, an1, an2, an4, an5, an6, an7, an8, an9, an10, an11, an12, an14, an15, an16, vr0, vr1, vr2, vr3, vr4, hr0, hr1, xz⟩ := hC.1
  obtain ⟨xi9, xi10, xi11, xi12⟩ := hC.2.1
  refine vg_C_of rfl (by decide +kernel) (Nat.le_of_ble_eq_true rfl) ?_
  refine vi_run ok_5 [30] 60 ?_
  rw [at_5_0]
  simp only [vg_ent, vg_en, List.length_cons, List.length_nil, Nat.reduceAdd, Nat.reduceSub, List.replicate, List.append_nil, List.nil_append, List.cons_append, mn_5]
  simp only [↓reduceIte, vi_go_c, ↓v1_iadd, ↓v1_isub, ↓v1_imul, ↓v1_iand, ↓v1_idiv, ↓v1_irem, ↓v1_ineg, ↓v1_ladd, ↓v1_lsub, ↓v1_land, ↓v1_lcmp, ↓v1_lshl, ↓v1_lshr, ↓v1_i2l, ↓v1_l2i, ↓v1_iconst_0, ↓v1_iconst_m, ↓v1_bipush, ↓v1_sipush, ↓v1_ldc, ↓v1_ldc_w, ↓v1_lconst, ↓v1_ldc2_w, ↓v1_aconst_null, ↓v1_iload, ↓v1_iload_n, ↓v1_lload, ↓v1_lload_n, ↓v1_aload, ↓v1_aload_n, ↓v1_istore, ↓v1_istore_n, ↓v1_lstore, ↓v1_lstore_n, ↓v1_astore, ↓v1_astore_n, ↓v1_iinc, ↓v1_dup, ↓v1_dup2, ↓v1_ifCond_eq, ↓v1_ifCond_ne, ↓v1_ifCond_lt, ↓v1_ifCond_ge, ↓v1_ifCond_gt, ↓v1_ifCond_le, ↓v1_if_icmp_eq, ↓v1_if_icmp_ne, ↓v1_if_icmp_lt, ↓v1_if_icmp_ge, ↓v1_if_icmp_gt, ↓v1_if_icmp_le, ↓v1_if_acmp_ne, ↓v1_ifnull, ↓v1_ifnonnull, ↓v1_goto, ↓v1_tableswitch_0, ↓v1_return_, ↓v1_ireturn, ↓v1_lreturn, ↓v1_areturn, ↓v1_getfield_0, ↓v1_putfield_0, ↓v1_getstatic, ↓v1_iaload, ↓v1_laload, ↓v1_baload, ↓v1_aaload, ↓v1_iastore, ↓v1_lastore, ↓v1_bastore, ↓v1_aastore_0, ↓v1_arraylength, ↓v1_new_0, ↓v1_newarray, ↓v1_anewarray, ↓v1_invokestatic_0, ↓v1_invokestatic_1, ↓v1_invokestatic_2a, ↓v1_invokevirtual_0, ↓v1_invokespecial_0, ↓v1_invokespecial_1a, ↓v1_invokespecial_1b, ↓vi_ii_e, ↓vi_i_e, ↓vi_jj_e, ↓vi_j_e, ↓vi_ij_e, ↓vi_r_e, ↓vi_rr_e, ↓vi_o_e, ↓vi_ir_e, ↓vi_iir_e, ↓vi_jir_e, ↓vi_rir_e, ↓vi_pop_z, ↓vi_pop_s, ↓vi_sw_n, ↓vi_sw_c, ↓vi_li_z, ↓vi_li_s, ↓vi_ll_z, ↓vi_ll_s, ↓vi_lr_z, ↓vi_lr_s, ↓vi_ret_l, ↓vi_ret_r, vi_sv, vg_set1, vg_set2, vg_lo, List.headD, List.contains_nil, List.contains_cons, Bool.or_false, Bool.false_eq_true, if_false, if_true, Nat.reduceAdd, Nat.reduceBEq, List.nil_append, List.cons_append, List.append_nil, Option.toList, Int32.reduceOfNat, Int64.reduceOfNat, reduceCtorEq, Nat.reduceLeDiff, Nat.le_refl, Nat.zero_le, true_and, and_true, false_or, or_false, or_true, true_or, and_self, not_true_eq_false, not_false_eq_true, forall_const, false_implies, true_implies, Sum.inl.injEq, Sum.inr.injEq, Option.some.injEq, eq_self, oI_1, oI_m, oI_5, oI_L, vi_ws_nil, vi_ws_I, vi_ws_J, vi_ws_R, wi_k, wi_n, wi_r, wi_l, wr_k, wr_n, wr_i, wr_l, wl_k, wl_n, wl_i, wl_r, Nat.reduceSub, Nat.reduceMul, cd_5_0, cd_5_26, cd_5_27, cd_5_28, cd_5_30, cd_5_72, cd_5_73, cd_5_74, cd_5_80, at_5_26, at_5_27, at_5_28, at_5_30, at_5_72, at_5_73, at_5_74, at_5_80, mc_5, ms_5, mr_5, mh_5, ml_5, xk, xr0, xr1, xr2, xr3, xr4, xr5, xr6, xr7, xr8, ak1, ak2, ak3, ak4, ak5, ak6, ak7, ak8, ak9, ak10, ak11, ak12, ak13, ak14, ak15, ak16, an1, an2, an4, an5, an6, an7, an8, an9, an10, an11, an12, an14, an15, an16, vr0, vr1, vr2, vr3, vr4, hr0, hr1, xi9, xi10, xi11, xi12, cx, cy]
  rw [nI_eq bx by', nI_leI by' bx]
  refine ⟨fun e => ?_, fun e => ⟨fun e2 => ?_, fun e2 => ?_⟩⟩
  · refine l_5 hC hx hy (fun z => h1 (Or.inr ⟨e, z⟩)) (fun z => h0 (fun q => q.elim (fun q => by omega) (fun q => z q.2))) 6 0 (by omega) (fun j hj => by omega)
  · exact h0 (fun q => q.elim (fun q => by omega) (fun q => e q.1))
  · exact h1 (Or.inl (by omega))
end CF
