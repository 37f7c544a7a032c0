/-! ===== the walks of the law's cases ===== -/
section LW
variable {G : vg_G} {b n k : Nat} {S : SS} {h : vg_H} {Q : vg_O → vg_H → Prop}
set_option maxRecDepth 100000 in
theorem wk_22 {uc us : Nat} {p1 : Int32} {R : Int32 → Int64 → SS → Prop} (hL : LI G b n k S h) (hk : 5 * k + 5 ≤ n) (hn : n ≤ 2560) (hu : uc ≤ 100 + 10 * k) (hs : us ≤ 400000 + 100 * k) (y1 : h.2.2.1 (G.2.2.2.2 4) (5 * k + 1) = p1) (hQ : ∀ S' h' uc' us' (u v : Option vg_V), LI G b n (k + 1) S' h' → uc' ≤ 100 + 10 * (k + 1) → us' ≤ 400000 + 100 * (k + 1) → vg_A G (MT 169) uc' us' 1964 [some (.inr (.inr (some (G.2.2.2.2 4)))), some (.inr (.inr (some b))), some (.inr (.inr (some (b + 37)))), some (.inr (.inr (some (b + 80)))), some (.inl (nI (5 * k))), u, v] [] h' Q) (hc : vg_C G (MT 167) [.inr (.inr (some b)), .inl p1, .inr (.inr (some (b + 80)))] h (fun o h1 => ∃ w v S', o = .inl (some (.inl w)) ∧ R w v S' ∧ OV G b S' h w v h1)) (hm : ∀ w v S' h1, R w v S' → MX b S h1 → vg_C G (MT 121) [.inr (.inr (some (b + 37))), .inl p1] h1 (PM b k cI w v S' h1)) : vg_A G (MT 169) uc us 1600 [some (.inr (.inr (some (G.2.2.2.2 4)))), some (.inr (.inr (some b))), some (.inr (.inr (some (b + 37)))), some (.inr (.inr (some (b + 80)))), some (.inl (nI (5 * k))), none, none] [] h Q := by
  have s1 := hL.2.2.2.2.2.1
  have s2 := hL.2.2.2.2.2.2
  have c1 := nI_clamp (show 5 * k + 1 < 2 ^ 31 by omega)
  have i1 : vp_in (nI (5 * k + 1)) n := vp_nI (by omega) (by omega)
  refine vi_run oL_22a [1608] 60 ?_
  rw [aL_22a_1600]
  simp only [↓reduceIte, vi_go_c, ↓v1_iadd, ↓v1_isub, ↓v1_imul, ↓v1_iand, ↓v1_idiv, ↓v1_irem, ↓v1_ineg, ↓v1_ladd, ↓v1_lsub, ↓v1_land, ↓v1_lcmp, ↓v1_lshl, ↓v1_lshr, ↓v1_i2l, ↓v1_l2i, ↓v1_iconst_0, ↓v1_iconst_m, ↓v1_bipush, ↓v1_sipush, ↓v1_ldc, ↓v1_ldc_w, ↓v1_lconst, ↓v1_ldc2_w, ↓v1_aconst_null, ↓v1_iload, ↓v1_iload_n, ↓v1_lload, ↓v1_lload_n, ↓v1_aload, ↓v1_aload_n, ↓v1_istore, ↓v1_istore_n, ↓v1_lstore, ↓v1_lstore_n, ↓v1_astore, ↓v1_astore_n, ↓v1_iinc, ↓v1_dup, ↓v1_dup2, ↓v1_ifCond_eq, ↓v1_ifCond_ne, ↓v1_ifCond_lt, ↓v1_ifCond_ge, ↓v1_ifCond_gt, ↓v1_ifCond_le, ↓v1_if_icmp_eq, ↓v1_if_icmp_ne, ↓v1_if_icmp_lt, ↓v1_if_icmp_ge, ↓v1_if_icmp_gt, ↓v1_if_icmp_le, ↓v1_if_acmp_ne, ↓v1_ifnull, ↓v1_ifnonnull, ↓v1_goto, ↓v1_tableswitch_0, ↓v1_return_, ↓v1_ireturn, ↓v1_lreturn, ↓v1_areturn, ↓v1_getfield_0, ↓v1_putfield_0, ↓v1_getstatic, ↓v1_iaload, ↓v1_laload, ↓v1_baload, ↓v1_aaload, ↓v1_iastore, ↓v1_lastore, ↓v1_bastore, ↓v1_aastore_0, ↓v1_arraylength, ↓v1_new_0, ↓v1_newarray, ↓v1_anewarray, ↓v1_invokestatic_0, ↓v1_invokestatic_1, ↓v1_invokestatic_2a, ↓v1_invokevirtual_0, ↓v1_invokespecial_0, ↓v1_invokespecial_1a, ↓v1_invokespecial_1b, ↓vi_ii_e, ↓vi_i_e, ↓vi_jj_e, ↓vi_j_e, ↓vi_ij_e, ↓vi_r_e, ↓vi_rr_e, ↓vi_o_e, ↓vi_ir_e, ↓vi_iir_e, ↓vi_jir_e, ↓vi_rir_e, ↓vi_pop_z, ↓vi_pop_s, ↓vi_sw_n, ↓vi_sw_c, ↓vi_li_z, ↓vi_li_s, ↓vi_ll_z, ↓vi_ll_s, ↓vi_lr_z, ↓vi_lr_s, ↓vi_ret_l, ↓vi_ret_r, vi_sv, vg_set1, vg_set2, vg_lo, List.headD, List.contains_nil, List.contains_cons, Bool.or_false, Bool.false_eq_true, if_false, if_true, Nat.reduceAdd, Nat.reduceBEq, List.nil_append, List.cons_append, List.append_nil, Option.toList, Int32.reduceOfNat, Int64.reduceOfNat, reduceCtorEq, Nat.reduceLeDiff, Nat.le_refl, Nat.zero_le, true_and, and_true, false_or, or_false, or_true, true_or, and_self, not_true_eq_false, not_false_eq_true, forall_const, false_implies, true_implies, Sum.inl.injEq, Sum.inr.injEq, Option.some.injEq, eq_self, oI_1, oI_m, oI_5, oI_L, vi_ws_nil, vi_ws_I, vi_ws_J, vi_ws_R, wi_k, wi_n, wi_r, wi_l, wr_k, wr_n, wr_i, wr_l, wl_k, wl_n, wl_i, wl_r, Nat.reduceSub, Nat.reduceMul, cL_22a_1600, aL_22a_1600, mc_169, ms_169, mr_169, mh_169, ml_169, s1, s2]
  intro v1 e1
  rw [show (1 : Int32) = nI 1 from rfl, nI_add] at e1
  subst e1
  refine ⟨i1, ?_⟩
  rw [c1, y1]
  have after : ∀ w v S' h1, R w v S' → OV G b S' h w v h1 → vg_A G (MT 169) (uc + 1) (us + 6) 1611 [some (.inr (.inr (some (G.2.2.2.2 4)))), some (.inr (.inr (some b))), some (.inr (.inr (some (b + 37)))), some (.inr (.inr (some (b + 80)))), some (.inl (nI (5 * k))), none, none] [.inl w] h1 Q := by
    intro w v S' h1 hR ce
    have X := hL.clO ce
    obtain ⟨m1, m2, m3, m4, m5, m6⟩ := X
    have row := hL.rowO ce
    have z1 := (row (5 * k + 1)).trans y1
    refine vi_run oL_22b [1964] 80 ?_
    rw [aL_22b_1611]
    simp only [↓reduceIte, vi_go_c, ↓v1_iadd, ↓v1_isub, ↓v1_imul, ↓v1_iand, ↓v1_idiv, ↓v1_irem, ↓v1_ineg, ↓v1_ladd, ↓v1_lsub, ↓v1_land, ↓v1_lcmp, ↓v1_lshl, ↓v1_lshr, ↓v1_i2l, ↓v1_l2i, ↓v1_iconst_0, ↓v1_iconst_m, ↓v1_bipush, ↓v1_sipush, ↓v1_ldc, ↓v1_ldc_w, ↓v1_lconst, ↓v1_ldc2_w, ↓v1_aconst_null, ↓v1_iload, ↓v1_iload_n, ↓v1_lload, ↓v1_lload_n, ↓v1_aload, ↓v1_aload_n, ↓v1_istore, ↓v1_istore_n, ↓v1_lstore, ↓v1_lstore_n, ↓v1_astore, ↓v1_astore_n, ↓v1_iinc, ↓v1_dup, ↓v1_dup2, ↓v1_ifCond_eq, ↓v1_ifCond_ne, ↓v1_ifCond_lt, ↓v1_ifCond_ge, ↓v1_ifCond_gt, ↓v1_ifCond_le, ↓v1_if_icmp_eq, ↓v1_if_icmp_ne, ↓v1_if_icmp_lt, ↓v1_if_icmp_ge, ↓v1_if_icmp_gt, ↓v1_if_icmp_le, ↓v1_if_acmp_ne, ↓v1_ifnull, ↓v1_ifnonnull, ↓v1_goto, ↓v1_tableswitch_0, ↓v1_return_, ↓v1_ireturn, ↓v1_lreturn, ↓v1_areturn, ↓v1_getfield_0, ↓v1_putfield_0, ↓v1_getstatic, ↓v1_iaload, ↓v1_laload, ↓v1_baload, ↓v1_aaload, ↓v1_iastore, ↓v1_lastore, ↓v1_bastore, ↓v1_aastore_0, ↓v1_arraylength, ↓v1_new_0, ↓v1_newarray, ↓v1_anewarray, ↓v1_invokestatic_0, ↓v1_invokestatic_1, ↓v1_invokestatic_2a, ↓v1_invokevirtual_0, ↓v1_invokespecial_0, ↓v1_invokespecial_1a, ↓v1_invokespecial_1b, ↓vi_ii_e, ↓vi_i_e, ↓vi_jj_e, ↓vi_j_e, ↓vi_ij_e, ↓vi_r_e, ↓vi_rr_e, ↓vi_o_e, ↓vi_ir_e, ↓vi_iir_e, ↓vi_jir_e, ↓vi_rir_e, ↓vi_pop_z, ↓vi_pop_s, ↓vi_sw_n, ↓vi_sw_c, ↓vi_li_z, ↓vi_li_s, ↓vi_ll_z, ↓vi_ll_s, ↓vi_lr_z, ↓vi_lr_s, ↓vi_ret_l, ↓vi_ret_r, vi_sv, vg_set1, vg_set2, vg_lo, List.headD, List.contains_nil, List.contains_cons, Bool.or_false, Bool.false_eq_true, if_false, if_true, Nat.reduceAdd, Nat.reduceBEq, List.nil_append, List.cons_append, List.append_nil, Option.toList, Int32.reduceOfNat, Int64.reduceOfNat, reduceCtorEq, Nat.reduceLeDiff, Nat.le_refl, Nat.zero_le, true_and, and_true, false_or, or_false, or_true, true_or, and_self, not_true_eq_false, not_false_eq_true, forall_const, false_implies, true_implies, Sum.inl.injEq, Sum.inr.injEq, Option.some.injEq, eq_self, oI_1, oI_m, oI_5, oI_L, vi_ws_nil, vi_ws_I, vi_ws_J, vi_ws_R, wi_k, wi_n, wi_r, wi_l, wr_k, wr_n, wr_i, wr_l, wl_k, wl_n, wl_i, wl_r, Nat.reduceSub, Nat.reduceMul, cL_22b_1611, cL_22b_1636, cL_22b_1653, aL_22b_1611, aL_22b_1636, aL_22b_1653, mc_169, ms_169, mr_169, mh_169, ml_169, mc_121, ms_121, mc_154, ms_154, m4, m5, m6]
    intro v1 e1
    rw [show (1 : Int32) = nI 1 from rfl, nI_add] at e1
    subst e1
    refine ⟨i1, ⟨by omega, by omega⟩, ?_⟩
    rw [c1, z1]
    refine (hm w v S' h1 hR m1).mono (fun o h2 q => ?_)
    obtain ⟨r, S2, rfl, mp, hr, of, iv⟩ := q
    unfold cI at hr
    have k1 := mp.mx.1
    simp only [↓reduceIte, vi_go_c, ↓v1_iadd, ↓v1_isub, ↓v1_imul, ↓v1_iand, ↓v1_idiv, ↓v1_irem, ↓v1_ineg, ↓v1_ladd, ↓v1_lsub, ↓v1_land, ↓v1_lcmp, ↓v1_lshl, ↓v1_lshr, ↓v1_i2l, ↓v1_l2i, ↓v1_iconst_0, ↓v1_iconst_m, ↓v1_bipush, ↓v1_sipush, ↓v1_ldc, ↓v1_ldc_w, ↓v1_lconst, ↓v1_ldc2_w, ↓v1_aconst_null, ↓v1_iload, ↓v1_iload_n, ↓v1_lload, ↓v1_lload_n, ↓v1_aload, ↓v1_aload_n, ↓v1_istore, ↓v1_istore_n, ↓v1_lstore, ↓v1_lstore_n, ↓v1_astore, ↓v1_astore_n, ↓v1_iinc, ↓v1_dup, ↓v1_dup2, ↓v1_ifCond_eq, ↓v1_ifCond_ne, ↓v1_ifCond_lt, ↓v1_ifCond_ge, ↓v1_ifCond_gt, ↓v1_ifCond_le, ↓v1_if_icmp_eq, ↓v1_if_icmp_ne, ↓v1_if_icmp_lt, ↓v1_if_icmp_ge, ↓v1_if_icmp_gt, ↓v1_if_icmp_le, ↓v1_if_acmp_ne, ↓v1_ifnull, ↓v1_ifnonnull, ↓v1_goto, ↓v1_tableswitch_0, ↓v1_return_, ↓v1_ireturn, ↓v1_lreturn, ↓v1_areturn, ↓v1_getfield_0, ↓v1_putfield_0, ↓v1_getstatic, ↓v1_iaload, ↓v1_laload, ↓v1_baload, ↓v1_aaload, ↓v1_iastore, ↓v1_lastore, ↓v1_bastore, ↓v1_aastore_0, ↓v1_arraylength, ↓v1_new_0, ↓v1_newarray, ↓v1_anewarray, ↓v1_invokestatic_0, ↓v1_invokestatic_1, ↓v1_invokestatic_2a, ↓v1_invokevirtual_0, ↓v1_invokespecial_0, ↓v1_invokespecial_1a, ↓v1_invokespecial_1b, ↓vi_ii_e, ↓vi_i_e, ↓vi_jj_e, ↓vi_j_e, ↓vi_ij_e, ↓vi_r_e, ↓vi_rr_e, ↓vi_o_e, ↓vi_ir_e, ↓vi_iir_e, ↓vi_jir_e, ↓vi_rir_e, ↓vi_pop_z, ↓vi_pop_s, ↓vi_sw_n, ↓vi_sw_c, ↓vi_li_z, ↓vi_li_s, ↓vi_ll_z, ↓vi_ll_s, ↓vi_lr_z, ↓vi_lr_s, ↓vi_ret_l, ↓vi_ret_r, vi_sv, vg_set1, vg_set2, vg_lo, List.headD, List.contains_nil, List.contains_cons, Bool.or_false, Bool.false_eq_true, if_false, if_true, Nat.reduceAdd, Nat.reduceBEq, List.nil_append, List.cons_append, List.append_nil, Option.toList, Int32.reduceOfNat, Int64.reduceOfNat, reduceCtorEq, Nat.reduceLeDiff, Nat.le_refl, Nat.zero_le, true_and, and_true, false_or, or_false, or_true, true_or, and_self, not_true_eq_false, not_false_eq_true, forall_const, false_implies, true_implies, Sum.inl.injEq, Sum.inr.injEq, Option.some.injEq, eq_self, oI_1, oI_m, oI_5, oI_L, vi_ws_nil, vi_ws_I, vi_ws_J, vi_ws_R, wi_k, wi_n, wi_r, wi_l, wr_k, wr_n, wr_i, wr_l, wl_k, wl_n, wl_i, wl_r, Nat.reduceSub, Nat.reduceMul, cL_22b_1611, cL_22b_1636, cL_22b_1653, aL_22b_1611, aL_22b_1636, aL_22b_1653, mc_169, ms_169, mr_169, mh_169, ml_169, mc_121, ms_121, mc_154, ms_154, k1]
    refine ⟨⟨by omega, by omega⟩, c_154 k1 ?_⟩
    rw [mp.2]
    have o1 : h2.1 (b + 80) = 101 := by rw [mp.1.2.2.1]; exact m2
    have o2 : h2.2.1 (b + 80) = 1 := by rw [mp.1.2.2.2.1]; exact m3
    have o3 : w = 0 → h2.2.2.2.1 (b + 80) 0 = v := fun e => by rw [mp.1.2.2.2.2.2.1]; exact hL.outO ce e
    have fin := hQ S2 h2 (uc + 1) (us + 6) (some (.inl w)) (some (.inl r)) (hL.bothO ce mp of iv) (by omega) (by omega)
    simp only [↓reduceIte, vi_go_c, ↓v1_iadd, ↓v1_isub, ↓v1_imul, ↓v1_iand, ↓v1_idiv, ↓v1_irem, ↓v1_ineg, ↓v1_ladd, ↓v1_lsub, ↓v1_land, ↓v1_lcmp, ↓v1_lshl, ↓v1_lshr, ↓v1_i2l, ↓v1_l2i, ↓v1_iconst_0, ↓v1_iconst_m, ↓v1_bipush, ↓v1_sipush, ↓v1_ldc, ↓v1_ldc_w, ↓v1_lconst, ↓v1_ldc2_w, ↓v1_aconst_null, ↓v1_iload, ↓v1_iload_n, ↓v1_lload, ↓v1_lload_n, ↓v1_aload, ↓v1_aload_n, ↓v1_istore, ↓v1_istore_n, ↓v1_lstore, ↓v1_lstore_n, ↓v1_astore, ↓v1_astore_n, ↓v1_iinc, ↓v1_dup, ↓v1_dup2, ↓v1_ifCond_eq, ↓v1_ifCond_ne, ↓v1_ifCond_lt, ↓v1_ifCond_ge, ↓v1_ifCond_gt, ↓v1_ifCond_le, ↓v1_if_icmp_eq, ↓v1_if_icmp_ne, ↓v1_if_icmp_lt, ↓v1_if_icmp_ge, ↓v1_if_icmp_gt, ↓v1_if_icmp_le, ↓v1_if_acmp_ne, ↓v1_ifnull, ↓v1_ifnonnull, ↓v1_goto, ↓v1_tableswitch_0, ↓v1_return_, ↓v1_ireturn, ↓v1_lreturn, ↓v1_areturn, ↓v1_getfield_0, ↓v1_putfield_0, ↓v1_getstatic, ↓v1_iaload, ↓v1_laload, ↓v1_baload, ↓v1_aaload, ↓v1_iastore, ↓v1_lastore, ↓v1_bastore, ↓v1_aastore_0, ↓v1_arraylength, ↓v1_new_0, ↓v1_newarray, ↓v1_anewarray, ↓v1_invokestatic_0, ↓v1_invokestatic_1, ↓v1_invokestatic_2a, ↓v1_invokevirtual_0, ↓v1_invokespecial_0, ↓v1_invokespecial_1a, ↓v1_invokespecial_1b, ↓vi_ii_e, ↓vi_i_e, ↓vi_jj_e, ↓vi_j_e, ↓vi_ij_e, ↓vi_r_e, ↓vi_rr_e, ↓vi_o_e, ↓vi_ir_e, ↓vi_iir_e, ↓vi_jir_e, ↓vi_rir_e, ↓vi_pop_z, ↓vi_pop_s, ↓vi_sw_n, ↓vi_sw_c, ↓vi_li_z, ↓vi_li_s, ↓vi_ll_z, ↓vi_ll_s, ↓vi_lr_z, ↓vi_lr_s, ↓vi_ret_l, ↓vi_ret_r, vi_sv, vg_set1, vg_set2, vg_lo, List.headD, List.contains_nil, List.contains_cons, Bool.or_false, Bool.false_eq_true, if_false, if_true, Nat.reduceAdd, Nat.reduceBEq, List.nil_append, List.cons_append, List.append_nil, Option.toList, Int32.reduceOfNat, Int64.reduceOfNat, reduceCtorEq, Nat.reduceLeDiff, Nat.le_refl, Nat.zero_le, true_and, and_true, false_or, or_false, or_true, true_or, and_self, not_true_eq_false, not_false_eq_true, forall_const, false_implies, true_implies, Sum.inl.injEq, Sum.inr.injEq, Option.some.injEq, eq_self, oI_1, oI_m, oI_5, oI_L, vi_ws_nil, vi_ws_I, vi_ws_J, vi_ws_R, wi_k, wi_n, wi_r, wi_l, wr_k, wr_n, wr_i, wr_l, wl_k, wl_n, wl_i, wl_r, Nat.reduceSub, Nat.reduceMul, cL_22b_1611, cL_22b_1636, cL_22b_1653, aL_22b_1611, aL_22b_1636, aL_22b_1653, mc_169, ms_169, mr_169, mh_169, ml_169, mc_121, ms_121, mc_154, ms_154, o1, o2]
    refine ⟨fun _ => fin, fun e0 => ⟨vp_nI (i := 0) (by decide) (by decide), ?_⟩⟩
    intro v1 f1 v2 f2
    have e1 : w = 0 := Decidable.not_not.mp e0
    have f3 : v2 = 0 := by rw [f2, f1, hr e1, show h2.2.2.2.1 (b + 80) (Int32.toNatClampNeg 0) = v from o3 e1]; exact lcmp_self v
    exact ⟨fun _ => fin, fun e => absurd f3 e⟩
  refine vr_callSH (N := MT 167) (as := [.inr (.inr (some b)), .inl p1, .inr (.inr (some (b + 80)))]) (st := []) (n := 3) (vg_inW 836 rfl rfl) mh_167 (vg_inW 838 rfl rfl) (vg_inW 49 rfl rfl) (by decide +kernel) (by decide +kernel) (vg_inW 837 rfl rfl) rfl (by decide +kernel) (by simp) ⟨by rw [mc_167, mc_169]; omega, by rw [ms_167, ms_169]; omega⟩ hc (fun v h1 q => ?_) (fun j h1 q => ?_)
  · obtain ⟨w, v', S', q1, q2, q3⟩ := q
    injection q1 with q1
    subst q1
    exact after w v' S' h1 q2 q3
  · obtain ⟨w, v', S', q1, _⟩ := q
    cases q1
theorem hh_22 {p1 κ : Int32} {T : Int64 → SS → Prop} (hL : LI G b n k S h) (hC : vg_C G (MT 25) [.inr (.inr (some b)), .inl p1] h (CO1 0 G b S h κ T cI)) : vg_C G (MT 167) [.inr (.inr (some b)), .inl p1, .inr (.inr (some (b + 80)))] h (fun o h1 => ∃ w v S', o = .inl (some (.inl w)) ∧ RR κ S T w v S' ∧ OV G b S' h w v h1) := by
  have x1 : h.1 b = 10 := by obtain ⟨⟨A, x1, _⟩, _⟩ := hL; exact x1.1.1
  refine c_167 x1 hC (fun v h' q => ?_) (fun j h' q => ?_)
  · rcases q with ⟨r, S', q1, q2, q3, q4⟩ | ⟨q1, _⟩
    · injection q1 with q1
      obtain ⟨_, o1, o2, _⟩ := hL.cl q4
      exact ⟨r, q1, o1, o2, 0, _, S', rfl, Or.inr ⟨q2, rfl, q3⟩, h', q4, Or.inr rfl, fun _ => rfl⟩
    · cases q1
  · rcases q with ⟨r, S', q1, _⟩ | ⟨q1, q2, q3⟩
    · cases q1
    · injection q1 with q1
      exact ⟨q1, 1, 0, S, rfl, Or.inl ⟨by rw [q2]; decide, q2.symm, rfl⟩, h', q3, Or.inl rfl, fun e => absurd e (by decide)⟩
set_option maxRecDepth 100000 in
theorem wk_23 {uc us : Nat} {p1 p2 p3 : Int32} {R : Int32 → Int64 → SS → Prop} (hL : LI G b n k S h) (hk : 5 * k + 5 ≤ n) (hn : n ≤ 2560) (hu : uc ≤ 100 + 10 * k) (hs : us ≤ 400000 + 100 * k) (y1 : h.2.2.1 (G.2.2.2.2 4) (5 * k + 1) = p1) (y2 : h.2.2.1 (G.2.2.2.2 4) (5 * k + 2) = p2) (y3 : h.2.2.1 (G.2.2.2.2 4) (5 * k + 3) = p3) (hQ : ∀ S' h' uc' us' (u v : Option vg_V), LI G b n (k + 1) S' h' → uc' ≤ 100 + 10 * (k + 1) → us' ≤ 400000 + 100 * (k + 1) → vg_A G (MT 169) uc' us' 1964 [some (.inr (.inr (some (G.2.2.2.2 4)))), some (.inr (.inr (some b))), some (.inr (.inr (some (b + 37)))), some (.inr (.inr (some (b + 80)))), some (.inl (nI (5 * k))), u, v] [] h' Q) (hc : vg_C G (MT 170) [.inr (.inr (some b)), .inl p1, .inl p2, .inl p3, .inr (.inr (some (b + 80)))] h (fun o h1 => ∃ w v S', o = .inl (some (.inl w)) ∧ R w v S' ∧ OV G b S' h w v h1)) (hm : ∀ w v S' h1, R w v S' → MX b S h1 → vg_C G (MT 135) [.inr (.inr (some (b + 37))), .inl p1, .inl p2, .inl p3] h1 (PM b k cI w v S' h1)) : vg_A G (MT 169) uc us 1656 [some (.inr (.inr (some (G.2.2.2.2 4)))), some (.inr (.inr (some b))), some (.inr (.inr (some (b + 37)))), some (.inr (.inr (some (b + 80)))), some (.inl (nI (5 * k))), none, none] [] h Q := by
  have s1 := hL.2.2.2.2.2.1
  have s2 := hL.2.2.2.2.2.2
  have c1 := nI_clamp (show 5 * k + 1 < 2 ^ 31 by omega)
  have i1 : vp_in (nI (5 * k + 1)) n := vp_nI (by omega) (by omega)
  have c2 := nI_clamp (show 5 * k + 2 < 2 ^ 31 by omega)
  have i2 : vp_in (nI (5 * k + 2)) n := vp_nI (by omega) (by omega)
  have c3 := nI_clamp (show 5 * k + 3 < 2 ^ 31 by omega)
  have i3 : vp_in (nI (5 * k + 3)) n := vp_nI (by omega) (by omega)
  refine vi_run oL_23a [1676] 60 ?_
  rw [aL_23a_1656]
  simp only [↓reduceIte, vi_go_c, ↓v1_iadd, ↓v1_isub, ↓v1_imul, ↓v1_iand, ↓v1_idiv, ↓v1_irem, ↓v1_ineg, ↓v1_ladd, ↓v1_lsub, ↓v1_land, ↓v1_lcmp, ↓v1_lshl, ↓v1_lshr, ↓v1_i2l, ↓v1_l2i, ↓v1_iconst_0, ↓v1_iconst_m, ↓v1_bipush, ↓v1_sipush, ↓v1_ldc, ↓v1_ldc_w, ↓v1_lconst, ↓v1_ldc2_w, ↓v1_aconst_null, ↓v1_iload, ↓v1_iload_n, ↓v1_lload, ↓v1_lload_n, ↓v1_aload, ↓v1_aload_n, ↓v1_istore, ↓v1_istore_n, ↓v1_lstore, ↓v1_lstore_n, ↓v1_astore, ↓v1_astore_n, ↓v1_iinc, ↓v1_dup, ↓v1_dup2, ↓v1_ifCond_eq, ↓v1_ifCond_ne, ↓v1_ifCond_lt, ↓v1_ifCond_ge, ↓v1_ifCond_gt, ↓v1_ifCond_le, ↓v1_if_icmp_eq, ↓v1_if_icmp_ne, ↓v1_if_icmp_lt, ↓v1_if_icmp_ge, ↓v1_if_icmp_gt, ↓v1_if_icmp_le, ↓v1_if_acmp_ne, ↓v1_ifnull, ↓v1_ifnonnull, ↓v1_goto, ↓v1_tableswitch_0, ↓v1_return_, ↓v1_ireturn, ↓v1_lreturn, ↓v1_areturn, ↓v1_getfield_0, ↓v1_putfield_0, ↓v1_getstatic, ↓v1_iaload, ↓v1_laload, ↓v1_baload, ↓v1_aaload, ↓v1_iastore, ↓v1_lastore, ↓v1_bastore, ↓v1_aastore_0, ↓v1_arraylength, ↓v1_new_0, ↓v1_newarray, ↓v1_anewarray, ↓v1_invokestatic_0, ↓v1_invokestatic_1, ↓v1_invokestatic_2a, ↓v1_invokevirtual_0, ↓v1_invokespecial_0, ↓v1_invokespecial_1a, ↓v1_invokespecial_1b, ↓vi_ii_e, ↓vi_i_e, ↓vi_jj_e, ↓vi_j_e, ↓vi_ij_e, ↓vi_r_e, ↓vi_rr_e, ↓vi_o_e, ↓vi_ir_e, ↓vi_iir_e, ↓vi_jir_e, ↓vi_rir_e, ↓vi_pop_z, ↓vi_pop_s, ↓vi_sw_n, ↓vi_sw_c, ↓vi_li_z, ↓vi_li_s, ↓vi_ll_z, ↓vi_ll_s, ↓vi_lr_z, ↓vi_lr_s, ↓vi_ret_l, ↓vi_ret_r, vi_sv, vg_set1, vg_set2, vg_lo, List.headD, List.contains_nil, List.contains_cons, Bool.or_false, Bool.false_eq_true, if_false, if_true, Nat.reduceAdd, Nat.reduceBEq, List.nil_append, List.cons_append, List.append_nil, Option.toList, Int32.reduceOfNat, Int64.reduceOfNat, reduceCtorEq, Nat.reduceLeDiff, Nat.le_refl, Nat.zero_le, true_and, and_true, false_or, or_false, or_true, true_or, and_self, not_true_eq_false, not_false_eq_true, forall_const, false_implies, true_implies, Sum.inl.injEq, Sum.inr.injEq, Option.some.injEq, eq_self, oI_1, oI_m, oI_5, oI_L, vi_ws_nil, vi_ws_I, vi_ws_J, vi_ws_R, wi_k, wi_n, wi_r, wi_l, wr_k, wr_n, wr_i, wr_l, wl_k, wl_n, wl_i, wl_r, Nat.reduceSub, Nat.reduceMul, cL_23a_1656, aL_23a_1656, mc_169, ms_169, mr_169, mh_169, ml_169, s1, s2]
  intro v1 e1
  rw [show (1 : Int32) = nI 1 from rfl, nI_add] at e1
  subst e1
  refine ⟨i1, fun v2 e2 => ?_⟩
  rw [show (2 : Int32) = nI 2 from rfl, nI_add] at e2
  subst e2
  refine ⟨i2, fun v3 e3 => ?_⟩
  rw [show (3 : Int32) = nI 3 from rfl, nI_add] at e3
  subst e3
  refine ⟨i3, ?_⟩
  rw [c1, y1, c2, y2, c3, y3]
  have after : ∀ w v S' h1, R w v S' → OV G b S' h w v h1 → vg_A G (MT 169) (uc + 2) (us + 12) 1679 [some (.inr (.inr (some (G.2.2.2.2 4)))), some (.inr (.inr (some b))), some (.inr (.inr (some (b + 37)))), some (.inr (.inr (some (b + 80)))), some (.inl (nI (5 * k))), none, none] [.inl w] h1 Q := by
    intro w v S' h1 hR ce
    have X := hL.clO ce
    obtain ⟨m1, m2, m3, m4, m5, m6⟩ := X
    have row := hL.rowO ce
    have z1 := (row (5 * k + 1)).trans y1
    have z2 := (row (5 * k + 2)).trans y2
    have z3 := (row (5 * k + 3)).trans y3
    refine vi_run oL_23b [1964] 80 ?_
    rw [aL_23b_1679]
    simp only [↓reduceIte, vi_go_c, ↓v1_iadd, ↓v1_isub, ↓v1_imul, ↓v1_iand, ↓v1_idiv, ↓v1_irem, ↓v1_ineg, ↓v1_ladd, ↓v1_lsub, ↓v1_land, ↓v1_lcmp, ↓v1_lshl, ↓v1_lshr, ↓v1_i2l, ↓v1_l2i, ↓v1_iconst_0, ↓v1_iconst_m, ↓v1_bipush, ↓v1_sipush, ↓v1_ldc, ↓v1_ldc_w, ↓v1_lconst, ↓v1_ldc2_w, ↓v1_aconst_null, ↓v1_iload, ↓v1_iload_n, ↓v1_lload, ↓v1_lload_n, ↓v1_aload, ↓v1_aload_n, ↓v1_istore, ↓v1_istore_n, ↓v1_lstore, ↓v1_lstore_n, ↓v1_astore, ↓v1_astore_n, ↓v1_iinc, ↓v1_dup, ↓v1_dup2, ↓v1_ifCond_eq, ↓v1_ifCond_ne, ↓v1_ifCond_lt, ↓v1_ifCond_ge, ↓v1_ifCond_gt, ↓v1_ifCond_le, ↓v1_if_icmp_eq, ↓v1_if_icmp_ne, ↓v1_if_icmp_lt, ↓v1_if_icmp_ge, ↓v1_if_icmp_gt, ↓v1_if_icmp_le, ↓v1_if_acmp_ne, ↓v1_ifnull, ↓v1_ifnonnull, ↓v1_goto, ↓v1_tableswitch_0, ↓v1_return_, ↓v1_ireturn, ↓v1_lreturn, ↓v1_areturn, ↓v1_getfield_0, ↓v1_putfield_0, ↓v1_getstatic, ↓v1_iaload, ↓v1_laload, ↓v1_baload, ↓v1_aaload, ↓v1_iastore, ↓v1_lastore, ↓v1_bastore, ↓v1_aastore_0, ↓v1_arraylength, ↓v1_new_0, ↓v1_newarray, ↓v1_anewarray, ↓v1_invokestatic_0, ↓v1_invokestatic_1, ↓v1_invokestatic_2a, ↓v1_invokevirtual_0, ↓v1_invokespecial_0, ↓v1_invokespecial_1a, ↓v1_invokespecial_1b, ↓vi_ii_e, ↓vi_i_e, ↓vi_jj_e, ↓vi_j_e, ↓vi_ij_e, ↓vi_r_e, ↓vi_rr_e, ↓vi_o_e, ↓vi_ir_e, ↓vi_iir_e, ↓vi_jir_e, ↓vi_rir_e, ↓vi_pop_z, ↓vi_pop_s, ↓vi_sw_n, ↓vi_sw_c, ↓vi_li_z, ↓vi_li_s, ↓vi_ll_z, ↓vi_ll_s, ↓vi_lr_z, ↓vi_lr_s, ↓vi_ret_l, ↓vi_ret_r, vi_sv, vg_set1, vg_set2, vg_lo, List.headD, List.contains_nil, List.contains_cons, Bool.or_false, Bool.false_eq_true, if_false, if_true, Nat.reduceAdd, Nat.reduceBEq, List.nil_append, List.cons_append, List.append_nil, Option.toList, Int32.reduceOfNat, Int64.reduceOfNat, reduceCtorEq, Nat.reduceLeDiff, Nat.le_refl, Nat.zero_le, true_and, and_true, false_or, or_false, or_true, true_or, and_self, not_true_eq_false, not_false_eq_true, forall_const, false_implies, true_implies, Sum.inl.injEq, Sum.inr.injEq, Option.some.injEq, eq_self, oI_1, oI_m, oI_5, oI_L, vi_ws_nil, vi_ws_I, vi_ws_J, vi_ws_R, wi_k, wi_n, wi_r, wi_l, wr_k, wr_n, wr_i, wr_l, wl_k, wl_n, wl_i, wl_r, Nat.reduceSub, Nat.reduceMul, cL_23b_1679, cL_23b_1716, cL_23b_1733, aL_23b_1679, aL_23b_1716, aL_23b_1733, mc_169, ms_169, mr_169, mh_169, ml_169, mc_135, ms_135, mc_154, ms_154, m4, m5, m6]
    intro v1 e1
    rw [show (1 : Int32) = nI 1 from rfl, nI_add] at e1
    subst e1
    refine ⟨i1, fun v2 e2 => ?_⟩
    rw [show (2 : Int32) = nI 2 from rfl, nI_add] at e2
    subst e2
    refine ⟨i2, fun v3 e3 => ?_⟩
    rw [show (3 : Int32) = nI 3 from rfl, nI_add] at e3
    subst e3
    refine ⟨i3, ⟨by omega, by omega⟩, ?_⟩
    rw [c1, z1, c2, z2, c3, z3]
    refine (hm w v S' h1 hR m1).mono (fun o h2 q => ?_)
    obtain ⟨r, S2, rfl, mp, hr, of, iv⟩ := q
    unfold cI at hr
    have k1 := mp.mx.1
    simp only [↓reduceIte, vi_go_c, ↓v1_iadd, ↓v1_isub, ↓v1_imul, ↓v1_iand, ↓v1_idiv, ↓v1_irem, ↓v1_ineg, ↓v1_ladd, ↓v1_lsub, ↓v1_land, ↓v1_lcmp, ↓v1_lshl, ↓v1_lshr, ↓v1_i2l, ↓v1_l2i, ↓v1_iconst_0, ↓v1_iconst_m, ↓v1_bipush, ↓v1_sipush, ↓v1_ldc, ↓v1_ldc_w, ↓v1_lconst, ↓v1_ldc2_w, ↓v1_aconst_null, ↓v1_iload, ↓v1_iload_n, ↓v1_lload, ↓v1_lload_n, ↓v1_aload, ↓v1_aload_n, ↓v1_istore, ↓v1_istore_n, ↓v1_lstore, ↓v1_lstore_n, ↓v1_astore, ↓v1_astore_n, ↓v1_iinc, ↓v1_dup, ↓v1_dup2, ↓v1_ifCond_eq, ↓v1_ifCond_ne, ↓v1_ifCond_lt, ↓v1_ifCond_ge, ↓v1_ifCond_gt, ↓v1_ifCond_le, ↓v1_if_icmp_eq, ↓v1_if_icmp_ne, ↓v1_if_icmp_lt, ↓v1_if_icmp_ge, ↓v1_if_icmp_gt, ↓v1_if_icmp_le, ↓v1_if_acmp_ne, ↓v1_ifnull, ↓v1_ifnonnull, ↓v1_goto, ↓v1_tableswitch_0, ↓v1_return_, ↓v1_ireturn, ↓v1_lreturn, ↓v1_areturn, ↓v1_getfield_0, ↓v1_putfield_0, ↓v1_getstatic, ↓v1_iaload, ↓v1_laload, ↓v1_baload, ↓v1_aaload, ↓v1_iastore, ↓v1_lastore, ↓v1_bastore, ↓v1_aastore_0, ↓v1_arraylength, ↓v1_new_0, ↓v1_newarray, ↓v1_anewarray, ↓v1_invokestatic_0, ↓v1_invokestatic_1, ↓v1_invokestatic_2a, ↓v1_invokevirtual_0, ↓v1_invokespecial_0, ↓v1_invokespecial_1a, ↓v1_invokespecial_1b, ↓vi_ii_e, ↓vi_i_e, ↓vi_jj_e, ↓vi_j_e, ↓vi_ij_e, ↓vi_r_e, ↓vi_rr_e, ↓vi_o_e, ↓vi_ir_e, ↓vi_iir_e, ↓vi_jir_e, ↓vi_rir_e, ↓vi_pop_z, ↓vi_pop_s, ↓vi_sw_n, ↓vi_sw_c, ↓vi_li_z, ↓vi_li_s, ↓vi_ll_z, ↓vi_ll_s, ↓vi_lr_z, ↓vi_lr_s, ↓vi_ret_l, ↓vi_ret_r, vi_sv, vg_set1, vg_set2, vg_lo, List.headD, List.contains_nil, List.contains_cons, Bool.or_false, Bool.false_eq_true, if_false, if_true, Nat.reduceAdd, Nat.reduceBEq, List.nil_append, List.cons_append, List.append_nil, Option.toList, Int32.reduceOfNat, Int64.reduceOfNat, reduceCtorEq, Nat.reduceLeDiff, Nat.le_refl, Nat.zero_le, true_and, and_true, false_or, or_false, or_true, true_or, and_self, not_true_eq_false, not_false_eq_true, forall_const, false_implies, true_implies, Sum.inl.injEq, Sum.inr.injEq, Option.some.injEq, eq_self, oI_1, oI_m, oI_5, oI_L, vi_ws_nil, vi_ws_I, vi_ws_J, vi_ws_R, wi_k, wi_n, wi_r, wi_l, wr_k, wr_n, wr_i, wr_l, wl_k, wl_n, wl_i, wl_r, Nat.reduceSub, Nat.reduceMul, cL_23b_1679, cL_23b_1716, cL_23b_1733, aL_23b_1679, aL_23b_1716, aL_23b_1733, mc_169, ms_169, mr_169, mh_169, ml_169, mc_135, ms_135, mc_154, ms_154, k1]
    refine ⟨⟨by omega, by omega⟩, c_154 k1 ?_⟩
    rw [mp.2]
    have o1 : h2.1 (b + 80) = 101 := by rw [mp.1.2.2.1]; exact m2
    have o2 : h2.2.1 (b + 80) = 1 := by rw [mp.1.2.2.2.1]; exact m3
    have o3 : w = 0 → h2.2.2.2.1 (b + 80) 0 = v := fun e => by rw [mp.1.2.2.2.2.2.1]; exact hL.outO ce e
    have fin := hQ S2 h2 (uc + 2) (us + 12) (some (.inl w)) (some (.inl r)) (hL.bothO ce mp of iv) (by omega) (by omega)
    simp only [↓reduceIte, vi_go_c, ↓v1_iadd, ↓v1_isub, ↓v1_imul, ↓v1_iand, ↓v1_idiv, ↓v1_irem, ↓v1_ineg, ↓v1_ladd, ↓v1_lsub, ↓v1_land, ↓v1_lcmp, ↓v1_lshl, ↓v1_lshr, ↓v1_i2l, ↓v1_l2i, ↓v1_iconst_0, ↓v1_iconst_m, ↓v1_bipush, ↓v1_sipush, ↓v1_ldc, ↓v1_ldc_w, ↓v1_lconst, ↓v1_ldc2_w, ↓v1_aconst_null, ↓v1_iload, ↓v1_iload_n, ↓v1_lload, ↓v1_lload_n, ↓v1_aload, ↓v1_aload_n, ↓v1_istore, ↓v1_istore_n, ↓v1_lstore, ↓v1_lstore_n, ↓v1_astore, ↓v1_astore_n, ↓v1_iinc, ↓v1_dup, ↓v1_dup2, ↓v1_ifCond_eq, ↓v1_ifCond_ne, ↓v1_ifCond_lt, ↓v1_ifCond_ge, ↓v1_ifCond_gt, ↓v1_ifCond_le, ↓v1_if_icmp_eq, ↓v1_if_icmp_ne, ↓v1_if_icmp_lt, ↓v1_if_icmp_ge, ↓v1_if_icmp_gt, ↓v1_if_icmp_le, ↓v1_if_acmp_ne, ↓v1_ifnull, ↓v1_ifnonnull, ↓v1_goto, ↓v1_tableswitch_0, ↓v1_return_, ↓v1_ireturn, ↓v1_lreturn, ↓v1_areturn, ↓v1_getfield_0, ↓v1_putfield_0, ↓v1_getstatic, ↓v1_iaload, ↓v1_laload, ↓v1_baload, ↓v1_aaload, ↓v1_iastore, ↓v1_lastore, ↓v1_bastore, ↓v1_aastore_0, ↓v1_arraylength, ↓v1_new_0, ↓v1_newarray, ↓v1_anewarray, ↓v1_invokestatic_0, ↓v1_invokestatic_1, ↓v1_invokestatic_2a, ↓v1_invokevirtual_0, ↓v1_invokespecial_0, ↓v1_invokespecial_1a, ↓v1_invokespecial_1b, ↓vi_ii_e, ↓vi_i_e, ↓vi_jj_e, ↓vi_j_e, ↓vi_ij_e, ↓vi_r_e, ↓vi_rr_e, ↓vi_o_e, ↓vi_ir_e, ↓vi_iir_e, ↓vi_jir_e, ↓vi_rir_e, ↓vi_pop_z, ↓vi_pop_s, ↓vi_sw_n, ↓vi_sw_c, ↓vi_li_z, ↓vi_li_s, ↓vi_ll_z, ↓vi_ll_s, ↓vi_lr_z, ↓vi_lr_s, ↓vi_ret_l, ↓vi_ret_r, vi_sv, vg_set1, vg_set2, vg_lo, List.headD, List.contains_nil, List.contains_cons, Bool.or_false, Bool.false_eq_true, if_false, if_true, Nat.reduceAdd, Nat.reduceBEq, List.nil_append, List.cons_append, List.append_nil, Option.toList, Int32.reduceOfNat, Int64.reduceOfNat, reduceCtorEq, Nat.reduceLeDiff, Nat.le_refl, Nat.zero_le, true_and, and_true, false_or, or_false, or_true, true_or, and_self, not_true_eq_false, not_false_eq_true, forall_const, false_implies, true_implies, Sum.inl.injEq, Sum.inr.injEq, Option.some.injEq, eq_self, oI_1, oI_m, oI_5, oI_L, vi_ws_nil, vi_ws_I, vi_ws_J, vi_ws_R, wi_k, wi_n, wi_r, wi_l, wr_k, wr_n, wr_i, wr_l, wl_k, wl_n, wl_i, wl_r, Nat.reduceSub, Nat.reduceMul, cL_23b_1679, cL_23b_1716, cL_23b_1733, aL_23b_1679, aL_23b_1716, aL_23b_1733, mc_169, ms_169, mr_169, mh_169, ml_169, mc_135, ms_135, mc_154, ms_154, o1, o2]
    refine ⟨fun _ => fin, fun e0 => ⟨vp_nI (i := 0) (by decide) (by decide), ?_⟩⟩
    intro v1 f1 v2 f2
    have e1 : w = 0 := Decidable.not_not.mp e0
    have f3 : v2 = 0 := by rw [f2, f1, hr e1, show h2.2.2.2.1 (b + 80) (Int32.toNatClampNeg 0) = v from o3 e1]; exact lcmp_self v
    exact ⟨fun _ => fin, fun e => absurd f3 e⟩
  refine vr_callSH (N := MT 170) (as := [.inr (.inr (some b)), .inl p1, .inl p2, .inl p3, .inr (.inr (some (b + 80)))]) (st := []) (n := 5) (vg_inW 843 rfl rfl) mh_170 (vg_inW 845 rfl rfl) (vg_inW 49 rfl rfl) (by decide +kernel) (by decide +kernel) (vg_inW 844 rfl rfl) rfl (by decide +kernel) (by simp) ⟨by rw [mc_170, mc_169]; omega, by rw [ms_170, ms_169]; omega⟩ hc (fun v h1 q => ?_) (fun j h1 q => ?_)
  · obtain ⟨w, v', S', q1, q2, q3⟩ := q
    injection q1 with q1
    subst q1
    exact after w v' S' h1 q2 q3
  · obtain ⟨w, v', S', q1, _⟩ := q
    cases q1
theorem hh_23 {p1 p2 p3 κ : Int32} {T : Int64 → SS → Prop} (hL : LI G b n k S h) (hC : vg_C G (MT 41) [.inr (.inr (some b)), .inl p1, .inl p2, .inl p3] h (CO G b S h κ T cI)) : vg_C G (MT 170) [.inr (.inr (some b)), .inl p1, .inl p2, .inl p3, .inr (.inr (some (b + 80)))] h (fun o h1 => ∃ w v S', o = .inl (some (.inl w)) ∧ RR κ S T w v S' ∧ OV G b S' h w v h1) := by
  have x1 : h.1 b = 10 := by obtain ⟨⟨A, x1, _⟩, _⟩ := hL; exact x1.1.1
  refine c_170 x1 hC (fun v h' q => ?_) (fun j h' q => ?_)
  · rcases q with ⟨r, S', q1, q2, q3, q4⟩ | ⟨q1, _⟩ | ⟨q1, _⟩
    · injection q1 with q1
      obtain ⟨_, o1, o2, _⟩ := hL.cl q4
      exact ⟨r, q1, o1, o2, 0, _, S', rfl, Or.inr ⟨q2, rfl, q3⟩, h', q4, Or.inr rfl, fun _ => rfl⟩
    · cases q1
    · cases q1
  · rcases q with ⟨r, S', q1, _⟩ | ⟨q1, q2, q3⟩ | ⟨q1, q2, q3⟩
    · cases q1
    · injection q1 with q1
      exact Or.inl ⟨q1, 1, 0, S, rfl, Or.inl ⟨by rw [q2]; decide, q2.symm, rfl⟩, h', q3, Or.inl rfl, fun e => absurd e (by decide)⟩
    · injection q1 with q1
      exact Or.inr ⟨q1, 2, 0, S, rfl, Or.inl ⟨by rw [q2]; decide, q2.symm, rfl⟩, h', q3, Or.inl rfl, fun e => absurd e (by decide)⟩
set_option maxRecDepth 100000 in
theorem wk_24 {uc us : Nat} {p1 p2 p3 p4 : Int32} {R : Int32 → Int64 → SS → Prop} (hL : LI G b n k S h) (hk : 5 * k + 5 ≤ n) (hn : n ≤ 2560) (hu : uc ≤ 100 + 10 * k) (hs : us ≤ 400000 + 100 * k) (y1 : h.2.2.1 (G.2.2.2.2 4) (5 * k + 1) = p1) (y2 : h.2.2.1 (G.2.2.2.2 4) (5 * k + 2) = p2) (y3 : h.2.2.1 (G.2.2.2.2 4) (5 * k + 3) = p3) (y4 : h.2.2.1 (G.2.2.2.2 4) (5 * k + 4) = p4) (hQ : ∀ S' h' uc' us' (u v : Option vg_V), LI G b n (k + 1) S' h' → uc' ≤ 100 + 10 * (k + 1) → us' ≤ 400000 + 100 * (k + 1) → vg_A G (MT 169) uc' us' 1964 [some (.inr (.inr (some (G.2.2.2.2 4)))), some (.inr (.inr (some b))), some (.inr (.inr (some (b + 37)))), some (.inr (.inr (some (b + 80)))), some (.inl (nI (5 * k))), u, v] [] h' Q) (hc : vg_C G (MT 155) [.inr (.inr (some b)), .inl p1, .inl p2, .inl p3, .inl p4, .inr (.inr (some (b + 80)))] h (fun o h1 => ∃ w v S', o = .inl (some (.inl w)) ∧ R w v S' ∧ OV G b S' h w v h1)) (hm : ∀ w v S' h1, R w v S' → MX b S h1 → vg_C G (MT 97) [.inr (.inr (some (b + 37))), .inl p1, .inl p2, .inl p3, .inl p4] h1 (PM b k cI w v S' h1)) : vg_A G (MT 169) uc us 1736 [some (.inr (.inr (some (G.2.2.2.2 4)))), some (.inr (.inr (some b))), some (.inr (.inr (some (b + 37)))), some (.inr (.inr (some (b + 80)))), some (.inl (nI (5 * k))), none, none] [] h Q := by
  have s1 := hL.2.2.2.2.2.1
  have s2 := hL.2.2.2.2.2.2
  have c1 := nI_clamp (show 5 * k + 1 < 2 ^ 31 by omega)
  have i1 : vp_in (nI (5 * k + 1)) n := vp_nI (by omega) (by omega)
  have c2 := nI_clamp (show 5 * k + 2 < 2 ^ 31 by omega)
  have i2 : vp_in (nI (5 * k + 2)) n := vp_nI (by omega) (by omega)
  have c3 := nI_clamp (show 5 * k + 3 < 2 ^ 31 by omega)
  have i3 : vp_in (nI (5 * k + 3)) n := vp_nI (by omega) (by omega)
  have c4 := nI_clamp (show 5 * k + 4 < 2 ^ 31 by omega)
  have i4 : vp_in (nI (5 * k + 4)) n := vp_nI (by omega) (by omega)
  refine vi_run oL_24a [1762] 60 ?_
  rw [aL_24a_1736]
  simp only [↓reduceIte, vi_go_c, ↓v1_iadd, ↓v1_isub, ↓v1_imul, ↓v1_iand, ↓v1_idiv, ↓v1_irem, ↓v1_ineg, ↓v1_ladd, ↓v1_lsub, ↓v1_land, ↓v1_lcmp, ↓v1_lshl, ↓v1_lshr, ↓v1_i2l, ↓v1_l2i, ↓v1_iconst_0, ↓v1_iconst_m, ↓v1_bipush, ↓v1_sipush, ↓v1_ldc, ↓v1_ldc_w, ↓v1_lconst, ↓v1_ldc2_w, ↓v1_aconst_null, ↓v1_iload, ↓v1_iload_n, ↓v1_lload, ↓v1_lload_n, ↓v1_aload, ↓v1_aload_n, ↓v1_istore, ↓v1_istore_n, ↓v1_lstore, ↓v1_lstore_n, ↓v1_astore, ↓v1_astore_n, ↓v1_iinc, ↓v1_dup, ↓v1_dup2, ↓v1_ifCond_eq, ↓v1_ifCond_ne, ↓v1_ifCond_lt, ↓v1_ifCond_ge, ↓v1_ifCond_gt, ↓v1_ifCond_le, ↓v1_if_icmp_eq, ↓v1_if_icmp_ne, ↓v1_if_icmp_lt, ↓v1_if_icmp_ge, ↓v1_if_icmp_gt, ↓v1_if_icmp_le, ↓v1_if_acmp_ne, ↓v1_ifnull, ↓v1_ifnonnull, ↓v1_goto, ↓v1_tableswitch_0, ↓v1_return_, ↓v1_ireturn, ↓v1_lreturn, ↓v1_areturn, ↓v1_getfield_0, ↓v1_putfield_0, ↓v1_getstatic, ↓v1_iaload, ↓v1_laload, ↓v1_baload, ↓v1_aaload, ↓v1_iastore, ↓v1_lastore, ↓v1_bastore, ↓v1_aastore_0, ↓v1_arraylength, ↓v1_new_0, ↓v1_newarray, ↓v1_anewarray, ↓v1_invokestatic_0, ↓v1_invokestatic_1, ↓v1_invokestatic_2a, ↓v1_invokevirtual_0, ↓v1_invokespecial_0, ↓v1_invokespecial_1a, ↓v1_invokespecial_1b, ↓vi_ii_e, ↓vi_i_e, ↓vi_jj_e, ↓vi_j_e, ↓vi_ij_e, ↓vi_r_e, ↓vi_rr_e, ↓vi_o_e, ↓vi_ir_e, ↓vi_iir_e, ↓vi_jir_e, ↓vi_rir_e, ↓vi_pop_z, ↓vi_pop_s, ↓vi_sw_n, ↓vi_sw_c, ↓vi_li_z, ↓vi_li_s, ↓vi_ll_z, ↓vi_ll_s, ↓vi_lr_z, ↓vi_lr_s, ↓vi_ret_l, ↓vi_ret_r, vi_sv, vg_set1, vg_set2, vg_lo, List.headD, List.contains_nil, List.contains_cons, Bool.or_false, Bool.false_eq_true, if_false, if_true, Nat.reduceAdd, Nat.reduceBEq, List.nil_append, List.cons_append, List.append_nil, Option.toList, Int32.reduceOfNat, Int64.reduceOfNat, reduceCtorEq, Nat.reduceLeDiff, Nat.le_refl, Nat.zero_le, true_and, and_true, false_or, or_false, or_true, true_or, and_self, not_true_eq_false, not_false_eq_true, forall_const, false_implies, true_implies, Sum.inl.injEq, Sum.inr.injEq, Option.some.injEq, eq_self, oI_1, oI_m, oI_5, oI_L, vi_ws_nil, vi_ws_I, vi_ws_J, vi_ws_R, wi_k, wi_n, wi_r, wi_l, wr_k, wr_n, wr_i, wr_l, wl_k, wl_n, wl_i, wl_r, Nat.reduceSub, Nat.reduceMul, cL_24a_1736, aL_24a_1736, mc_169, ms_169, mr_169, mh_169, ml_169, s1, s2]
  intro v1 e1
  rw [show (1 : Int32) = nI 1 from rfl, nI_add] at e1
  subst e1
  refine ⟨i1, fun v2 e2 => ?_⟩
  rw [show (2 : Int32) = nI 2 from rfl, nI_add] at e2
  subst e2
  refine ⟨i2, fun v3 e3 => ?_⟩
  rw [show (3 : Int32) = nI 3 from rfl, nI_add] at e3
  subst e3
  refine ⟨i3, fun v4 e4 => ?_⟩
  rw [show (4 : Int32) = nI 4 from rfl, nI_add] at e4
  subst e4
  refine ⟨i4, ?_⟩
  rw [c1, y1, c2, y2, c3, y3, c4, y4]
  have after : ∀ w v S' h1, R w v S' → OV G b S' h w v h1 → vg_A G (MT 169) (uc + 2) (us + 12) 1765 [some (.inr (.inr (some (G.2.2.2.2 4)))), some (.inr (.inr (some b))), some (.inr (.inr (some (b + 37)))), some (.inr (.inr (some (b + 80)))), some (.inl (nI (5 * k))), none, none] [.inl w] h1 Q := by
    intro w v S' h1 hR ce
    have X := hL.clO ce
    obtain ⟨m1, m2, m3, m4, m5, m6⟩ := X
    have row := hL.rowO ce
    have z1 := (row (5 * k + 1)).trans y1
    have z2 := (row (5 * k + 2)).trans y2
    have z3 := (row (5 * k + 3)).trans y3
    have z4 := (row (5 * k + 4)).trans y4
    refine vi_run oL_24b [1964] 80 ?_
    rw [aL_24b_1765]
    simp only [↓reduceIte, vi_go_c, ↓v1_iadd, ↓v1_isub, ↓v1_imul, ↓v1_iand, ↓v1_idiv, ↓v1_irem, ↓v1_ineg, ↓v1_ladd, ↓v1_lsub, ↓v1_land, ↓v1_lcmp, ↓v1_lshl, ↓v1_lshr, ↓v1_i2l, ↓v1_l2i, ↓v1_iconst_0, ↓v1_iconst_m, ↓v1_bipush, ↓v1_sipush, ↓v1_ldc, ↓v1_ldc_w, ↓v1_lconst, ↓v1_ldc2_w, ↓v1_aconst_null, ↓v1_iload, ↓v1_iload_n, ↓v1_lload, ↓v1_lload_n, ↓v1_aload, ↓v1_aload_n, ↓v1_istore, ↓v1_istore_n, ↓v1_lstore, ↓v1_lstore_n, ↓v1_astore, ↓v1_astore_n, ↓v1_iinc, ↓v1_dup, ↓v1_dup2, ↓v1_ifCond_eq, ↓v1_ifCond_ne, ↓v1_ifCond_lt, ↓v1_ifCond_ge, ↓v1_ifCond_gt, ↓v1_ifCond_le, ↓v1_if_icmp_eq, ↓v1_if_icmp_ne, ↓v1_if_icmp_lt, ↓v1_if_icmp_ge, ↓v1_if_icmp_gt, ↓v1_if_icmp_le, ↓v1_if_acmp_ne, ↓v1_ifnull, ↓v1_ifnonnull, ↓v1_goto, ↓v1_tableswitch_0, ↓v1_return_, ↓v1_ireturn, ↓v1_lreturn, ↓v1_areturn, ↓v1_getfield_0, ↓v1_putfield_0, ↓v1_getstatic, ↓v1_iaload, ↓v1_laload, ↓v1_baload, ↓v1_aaload, ↓v1_iastore, ↓v1_lastore, ↓v1_bastore, ↓v1_aastore_0, ↓v1_arraylength, ↓v1_new_0, ↓v1_newarray, ↓v1_anewarray, ↓v1_invokestatic_0, ↓v1_invokestatic_1, ↓v1_invokestatic_2a, ↓v1_invokevirtual_0, ↓v1_invokespecial_0, ↓v1_invokespecial_1a, ↓v1_invokespecial_1b, ↓vi_ii_e, ↓vi_i_e, ↓vi_jj_e, ↓vi_j_e, ↓vi_ij_e, ↓vi_r_e, ↓vi_rr_e, ↓vi_o_e, ↓vi_ir_e, ↓vi_iir_e, ↓vi_jir_e, ↓vi_rir_e, ↓vi_pop_z, ↓vi_pop_s, ↓vi_sw_n, ↓vi_sw_c, ↓vi_li_z, ↓vi_li_s, ↓vi_ll_z, ↓vi_ll_s, ↓vi_lr_z, ↓vi_lr_s, ↓vi_ret_l, ↓vi_ret_r, vi_sv, vg_set1, vg_set2, vg_lo, List.headD, List.contains_nil, List.contains_cons, Bool.or_false, Bool.false_eq_true, if_false, if_true, Nat.reduceAdd, Nat.reduceBEq, List.nil_append, List.cons_append, List.append_nil, Option.toList, Int32.reduceOfNat, Int64.reduceOfNat, reduceCtorEq, Nat.reduceLeDiff, Nat.le_refl, Nat.zero_le, true_and, and_true, false_or, or_false, or_true, true_or, and_self, not_true_eq_false, not_false_eq_true, forall_const, false_implies, true_implies, Sum.inl.injEq, Sum.inr.injEq, Option.some.injEq, eq_self, oI_1, oI_m, oI_5, oI_L, vi_ws_nil, vi_ws_I, vi_ws_J, vi_ws_R, wi_k, wi_n, wi_r, wi_l, wr_k, wr_n, wr_i, wr_l, wl_k, wl_n, wl_i, wl_r, Nat.reduceSub, Nat.reduceMul, cL_24b_1765, cL_24b_1808, cL_24b_1825, aL_24b_1765, aL_24b_1808, aL_24b_1825, mc_169, ms_169, mr_169, mh_169, ml_169, mc_97, ms_97, mc_154, ms_154, m4, m5, m6]
    intro v1 e1
    rw [show (1 : Int32) = nI 1 from rfl, nI_add] at e1
    subst e1
    refine ⟨i1, fun v2 e2 => ?_⟩
    rw [show (2 : Int32) = nI 2 from rfl, nI_add] at e2
    subst e2
    refine ⟨i2, fun v3 e3 => ?_⟩
    rw [show (3 : Int32) = nI 3 from rfl, nI_add] at e3
    subst e3
    refine ⟨i3, fun v4 e4 => ?_⟩
    rw [show (4 : Int32) = nI 4 from rfl, nI_add] at e4
    subst e4
    refine ⟨i4, ⟨by omega, by omega⟩, ?_⟩
    rw [c1, z1, c2, z2, c3, z3, c4, z4]
    refine (hm w v S' h1 hR m1).mono (fun o h2 q => ?_)
    obtain ⟨r, S2, rfl, mp, hr, of, iv⟩ := q
    unfold cI at hr
    have k1 := mp.mx.1
    simp only [↓reduceIte, vi_go_c, ↓v1_iadd, ↓v1_isub, ↓v1_imul, ↓v1_iand, ↓v1_idiv, ↓v1_irem, ↓v1_ineg, ↓v1_ladd, ↓v1_lsub, ↓v1_land, ↓v1_lcmp, ↓v1_lshl, ↓v1_lshr, ↓v1_i2l, ↓v1_l2i, ↓v1_iconst_0, ↓v1_iconst_m, ↓v1_bipush, ↓v1_sipush, ↓v1_ldc, ↓v1_ldc_w, ↓v1_lconst, ↓v1_ldc2_w, ↓v1_aconst_null, ↓v1_iload, ↓v1_iload_n, ↓v1_lload, ↓v1_lload_n, ↓v1_aload, ↓v1_aload_n, ↓v1_istore, ↓v1_istore_n, ↓v1_lstore, ↓v1_lstore_n, ↓v1_astore, ↓v1_astore_n, ↓v1_iinc, ↓v1_dup, ↓v1_dup2, ↓v1_ifCond_eq, ↓v1_ifCond_ne, ↓v1_ifCond_lt, ↓v1_ifCond_ge, ↓v1_ifCond_gt, ↓v1_ifCond_le, ↓v1_if_icmp_eq, ↓v1_if_icmp_ne, ↓v1_if_icmp_lt, ↓v1_if_icmp_ge, ↓v1_if_icmp_gt, ↓v1_if_icmp_le, ↓v1_if_acmp_ne, ↓v1_ifnull, ↓v1_ifnonnull, ↓v1_goto, ↓v1_tableswitch_0, ↓v1_return_, ↓v1_ireturn, ↓v1_lreturn, ↓v1_areturn, ↓v1_getfield_0, ↓v1_putfield_0, ↓v1_getstatic, ↓v1_iaload, ↓v1_laload, ↓v1_baload, ↓v1_aaload, ↓v1_iastore, ↓v1_lastore, ↓v1_bastore, ↓v1_aastore_0, ↓v1_arraylength, ↓v1_new_0, ↓v1_newarray, ↓v1_anewarray, ↓v1_invokestatic_0, ↓v1_invokestatic_1, ↓v1_invokestatic_2a, ↓v1_invokevirtual_0, ↓v1_invokespecial_0, ↓v1_invokespecial_1a, ↓v1_invokespecial_1b, ↓vi_ii_e, ↓vi_i_e, ↓vi_jj_e, ↓vi_j_e, ↓vi_ij_e, ↓vi_r_e, ↓vi_rr_e, ↓vi_o_e, ↓vi_ir_e, ↓vi_iir_e, ↓vi_jir_e, ↓vi_rir_e, ↓vi_pop_z, ↓vi_pop_s, ↓vi_sw_n, ↓vi_sw_c, ↓vi_li_z, ↓vi_li_s, ↓vi_ll_z, ↓vi_ll_s, ↓vi_lr_z, ↓vi_lr_s, ↓vi_ret_l, ↓vi_ret_r, vi_sv, vg_set1, vg_set2, vg_lo, List.headD, List.contains_nil, List.contains_cons, Bool.or_false, Bool.false_eq_true, if_false, if_true, Nat.reduceAdd, Nat.reduceBEq, List.nil_append, List.cons_append, List.append_nil, Option.toList, Int32.reduceOfNat, Int64.reduceOfNat, reduceCtorEq, Nat.reduceLeDiff, Nat.le_refl, Nat.zero_le, true_and, and_true, false_or, or_false, or_true, true_or, and_self, not_true_eq_false, not_false_eq_true, forall_const, false_implies, true_implies, Sum.inl.injEq, Sum.inr.injEq, Option.some.injEq, eq_self, oI_1, oI_m, oI_5, oI_L, vi_ws_nil, vi_ws_I, vi_ws_J, vi_ws_R, wi_k, wi_n, wi_r, wi_l, wr_k, wr_n, wr_i, wr_l, wl_k, wl_n, wl_i, wl_r, Nat.reduceSub, Nat.reduceMul, cL_24b_1765, cL_24b_1808, cL_24b_1825, aL_24b_1765, aL_24b_1808, aL_24b_1825, mc_169, ms_169, mr_169, mh_169, ml_169, mc_97, ms_97, mc_154, ms_154, k1]
    refine ⟨⟨by omega, by omega⟩, c_154 k1 ?_⟩
    rw [mp.2]
    have o1 : h2.1 (b + 80) = 101 := by rw [mp.1.2.2.1]; exact m2
    have o2 : h2.2.1 (b + 80) = 1 := by rw [mp.1.2.2.2.1]; exact m3
    have o3 : w = 0 → h2.2.2.2.1 (b + 80) 0 = v := fun e => by rw [mp.1.2.2.2.2.2.1]; exact hL.outO ce e
    have fin := hQ S2 h2 (uc + 2) (us + 12) (some (.inl w)) (some (.inl r)) (hL.bothO ce mp of iv) (by omega) (by omega)
    simp only [↓reduceIte, vi_go_c, ↓v1_iadd, ↓v1_isub, ↓v1_imul, ↓v1_iand, ↓v1_idiv, ↓v1_irem, ↓v1_ineg, ↓v1_ladd, ↓v1_lsub, ↓v1_land, ↓v1_lcmp, ↓v1_lshl, ↓v1_lshr, ↓v1_i2l, ↓v1_l2i, ↓v1_iconst_0, ↓v1_iconst_m, ↓v1_bipush, ↓v1_sipush, ↓v1_ldc, ↓v1_ldc_w, ↓v1_lconst, ↓v1_ldc2_w, ↓v1_aconst_null, ↓v1_iload, ↓v1_iload_n, ↓v1_lload, ↓v1_lload_n, ↓v1_aload, ↓v1_aload_n, ↓v1_istore, ↓v1_istore_n, ↓v1_lstore, ↓v1_lstore_n, ↓v1_astore, ↓v1_astore_n, ↓v1_iinc, ↓v1_dup, ↓v1_dup2, ↓v1_ifCond_eq, ↓v1_ifCond_ne, ↓v1_ifCond_lt, ↓v1_ifCond_ge, ↓v1_ifCond_gt, ↓v1_ifCond_le, ↓v1_if_icmp_eq, ↓v1_if_icmp_ne, ↓v1_if_icmp_lt, ↓v1_if_icmp_ge, ↓v1_if_icmp_gt, ↓v1_if_icmp_le, ↓v1_if_acmp_ne, ↓v1_ifnull, ↓v1_ifnonnull, ↓v1_goto, ↓v1_tableswitch_0, ↓v1_return_, ↓v1_ireturn, ↓v1_lreturn, ↓v1_areturn, ↓v1_getfield_0, ↓v1_putfield_0, ↓v1_getstatic, ↓v1_iaload, ↓v1_laload, ↓v1_baload, ↓v1_aaload, ↓v1_iastore, ↓v1_lastore, ↓v1_bastore, ↓v1_aastore_0, ↓v1_arraylength, ↓v1_new_0, ↓v1_newarray, ↓v1_anewarray, ↓v1_invokestatic_0, ↓v1_invokestatic_1, ↓v1_invokestatic_2a, ↓v1_invokevirtual_0, ↓v1_invokespecial_0, ↓v1_invokespecial_1a, ↓v1_invokespecial_1b, ↓vi_ii_e, ↓vi_i_e, ↓vi_jj_e, ↓vi_j_e, ↓vi_ij_e, ↓vi_r_e, ↓vi_rr_e, ↓vi_o_e, ↓vi_ir_e, ↓vi_iir_e, ↓vi_jir_e, ↓vi_rir_e, ↓vi_pop_z, ↓vi_pop_s, ↓vi_sw_n, ↓vi_sw_c, ↓vi_li_z, ↓vi_li_s, ↓vi_ll_z, ↓vi_ll_s, ↓vi_lr_z, ↓vi_lr_s, ↓vi_ret_l, ↓vi_ret_r, vi_sv, vg_set1, vg_set2, vg_lo, List.headD, List.contains_nil, List.contains_cons, Bool.or_false, Bool.false_eq_true, if_false, if_true, Nat.reduceAdd, Nat.reduceBEq, List.nil_append, List.cons_append, List.append_nil, Option.toList, Int32.reduceOfNat, Int64.reduceOfNat, reduceCtorEq, Nat.reduceLeDiff, Nat.le_refl, Nat.zero_le, true_and, and_true, false_or, or_false, or_true, true_or, and_self, not_true_eq_false, not_false_eq_true, forall_const, false_implies, true_implies, Sum.inl.injEq, Sum.inr.injEq, Option.some.injEq, eq_self, oI_1, oI_m, oI_5, oI_L, vi_ws_nil, vi_ws_I, vi_ws_J, vi_ws_R, wi_k, wi_n, wi_r, wi_l, wr_k, wr_n, wr_i, wr_l, wl_k, wl_n, wl_i, wl_r, Nat.reduceSub, Nat.reduceMul, cL_24b_1765, cL_24b_1808, cL_24b_1825, aL_24b_1765, aL_24b_1808, aL_24b_1825, mc_169, ms_169, mr_169, mh_169, ml_169, mc_97, ms_97, mc_154, ms_154, o1, o2]
    refine ⟨fun _ => fin, fun e0 => ⟨vp_nI (i := 0) (by decide) (by decide), ?_⟩⟩
    intro v1 f1 v2 f2
    have e1 : w = 0 := Decidable.not_not.mp e0
    have f3 : v2 = 0 := by rw [f2, f1, hr e1, show h2.2.2.2.1 (b + 80) (Int32.toNatClampNeg 0) = v from o3 e1]; exact lcmp_self v
    exact ⟨fun _ => fin, fun e => absurd f3 e⟩
  refine vr_callSH (N := MT 155) (as := [.inr (.inr (some b)), .inl p1, .inl p2, .inl p3, .inl p4, .inr (.inr (some (b + 80)))]) (st := []) (n := 6) (vg_inW 853 rfl rfl) mh_155 (vg_inW 855 rfl rfl) (vg_inW 49 rfl rfl) (by decide +kernel) (by decide +kernel) (vg_inW 854 rfl rfl) rfl (by decide +kernel) (by simp) ⟨by rw [mc_155, mc_169]; omega, by rw [ms_155, ms_169]; omega⟩ hc (fun v h1 q => ?_) (fun j h1 q => ?_)
  · obtain ⟨w, v', S', q1, q2, q3⟩ := q
    injection q1 with q1
    subst q1
    exact after w v' S' h1 q2 q3
  · obtain ⟨w, v', S', q1, _⟩ := q
    cases q1
theorem hh_24 {p1 p2 p3 p4 κ : Int32} {T : Int64 → SS → Prop} (hL : LI G b n k S h) (hC : vg_C G (MT 8) [.inr (.inr (some b)), .inl p1, .inl p2, .inl p3, .inl p4] h (CO G b S h κ T cI)) : vg_C G (MT 155) [.inr (.inr (some b)), .inl p1, .inl p2, .inl p3, .inl p4, .inr (.inr (some (b + 80)))] h (fun o h1 => ∃ w v S', o = .inl (some (.inl w)) ∧ RR κ S T w v S' ∧ OV G b S' h w v h1) := by
  have x1 : h.1 b = 10 := by obtain ⟨⟨A, x1, _⟩, _⟩ := hL; exact x1.1.1
  refine c_155 x1 hC (fun v h' q => ?_) (fun j h' q => ?_)
  · rcases q with ⟨r, S', q1, q2, q3, q4⟩ | ⟨q1, _⟩ | ⟨q1, _⟩
    · injection q1 with q1
      obtain ⟨_, o1, o2, _⟩ := hL.cl q4
      exact ⟨r, q1, o1, o2, 0, _, S', rfl, Or.inr ⟨q2, rfl, q3⟩, h', q4, Or.inr rfl, fun _ => rfl⟩
    · cases q1
    · cases q1
  · rcases q with ⟨r, S', q1, _⟩ | ⟨q1, q2, q3⟩ | ⟨q1, q2, q3⟩
    · cases q1
    · injection q1 with q1
      exact Or.inl ⟨q1, 1, 0, S, rfl, Or.inl ⟨by rw [q2]; decide, q2.symm, rfl⟩, h', q3, Or.inl rfl, fun e => absurd e (by decide)⟩
    · injection q1 with q1
      exact Or.inr ⟨q1, 2, 0, S, rfl, Or.inl ⟨by rw [q2]; decide, q2.symm, rfl⟩, h', q3, Or.inl rfl, fun e => absurd e (by decide)⟩
set_option maxRecDepth 100000 in
theorem wk_25 {uc us : Nat} {p1 p2 : Int32} {R : Int32 → Int64 → SS → Prop} (hL : LI G b n k S h) (hk : 5 * k + 5 ≤ n) (hn : n ≤ 2560) (hu : uc ≤ 100 + 10 * k) (hs : us ≤ 400000 + 100 * k) (y1 : h.2.2.1 (G.2.2.2.2 4) (5 * k + 1) = p1) (y2 : h.2.2.1 (G.2.2.2.2 4) (5 * k + 2) = p2) (hQ : ∀ S' h' uc' us' (u v : Option vg_V), LI G b n (k + 1) S' h' → uc' ≤ 100 + 10 * (k + 1) → us' ≤ 400000 + 100 * (k + 1) → vg_A G (MT 169) uc' us' 1964 [some (.inr (.inr (some (G.2.2.2.2 4)))), some (.inr (.inr (some b))), some (.inr (.inr (some (b + 37)))), some (.inr (.inr (some (b + 80)))), some (.inl (nI (5 * k))), u, v] [] h' Q) (hc : vg_C G (MT 168) [.inr (.inr (some b)), .inl p1, .inl p2, .inr (.inr (some (b + 80)))] h (fun o h1 => ∃ w v S', o = .inl (some (.inl w)) ∧ R w v S' ∧ OV G b S' h w v h1)) (hm : ∀ w v S' h1, R w v S' → MX b S h1 → vg_C G (MT 133) [.inr (.inr (some (b + 37))), .inl p1, .inl p2] h1 (PM b k cI w v S' h1)) : vg_A G (MT 169) uc us 1828 [some (.inr (.inr (some (G.2.2.2.2 4)))), some (.inr (.inr (some b))), some (.inr (.inr (some (b + 37)))), some (.inr (.inr (some (b + 80)))), some (.inl (nI (5 * k))), none, none] [] h Q := by
  have s1 := hL.2.2.2.2.2.1
  have s2 := hL.2.2.2.2.2.2
  have c1 := nI_clamp (show 5 * k + 1 < 2 ^ 31 by omega)
  have i1 : vp_in (nI (5 * k + 1)) n := vp_nI (by omega) (by omega)
  have c2 := nI_clamp (show 5 * k + 2 < 2 ^ 31 by omega)
  have i2 : vp_in (nI (5 * k + 2)) n := vp_nI (by omega) (by omega)
  refine vi_run oL_25a [1842] 60 ?_
  rw [aL_25a_1828]
  simp only [↓reduceIte, vi_go_c, ↓v1_iadd, ↓v1_isub, ↓v1_imul, ↓v1_iand, ↓v1_idiv, ↓v1_irem, ↓v1_ineg, ↓v1_ladd, ↓v1_lsub, ↓v1_land, ↓v1_lcmp, ↓v1_lshl, ↓v1_lshr, ↓v1_i2l, ↓v1_l2i, ↓v1_iconst_0, ↓v1_iconst_m, ↓v1_bipush, ↓v1_sipush, ↓v1_ldc, ↓v1_ldc_w, ↓v1_lconst, ↓v1_ldc2_w, ↓v1_aconst_null, ↓v1_iload, ↓v1_iload_n, ↓v1_lload, ↓v1_lload_n, ↓v1_aload, ↓v1_aload_n, ↓v1_istore, ↓v1_istore_n, ↓v1_lstore, ↓v1_lstore_n, ↓v1_astore, ↓v1_astore_n, ↓v1_iinc, ↓v1_dup, ↓v1_dup2, ↓v1_ifCond_eq, ↓v1_ifCond_ne, ↓v1_ifCond_lt, ↓v1_ifCond_ge, ↓v1_ifCond_gt, ↓v1_ifCond_le, ↓v1_if_icmp_eq, ↓v1_if_icmp_ne, ↓v1_if_icmp_lt, ↓v1_if_icmp_ge, ↓v1_if_icmp_gt, ↓v1_if_icmp_le, ↓v1_if_acmp_ne, ↓v1_ifnull, ↓v1_ifnonnull, ↓v1_goto, ↓v1_tableswitch_0, ↓v1_return_, ↓v1_ireturn, ↓v1_lreturn, ↓v1_areturn, ↓v1_getfield_0, ↓v1_putfield_0, ↓v1_getstatic, ↓v1_iaload, ↓v1_laload, ↓v1_baload, ↓v1_aaload, ↓v1_iastore, ↓v1_lastore, ↓v1_bastore, ↓v1_aastore_0, ↓v1_arraylength, ↓v1_new_0, ↓v1_newarray, ↓v1_anewarray, ↓v1_invokestatic_0, ↓v1_invokestatic_1, ↓v1_invokestatic_2a, ↓v1_invokevirtual_0, ↓v1_invokespecial_0, ↓v1_invokespecial_1a, ↓v1_invokespecial_1b, ↓vi_ii_e, ↓vi_i_e, ↓vi_jj_e, ↓vi_j_e, ↓vi_ij_e, ↓vi_r_e, ↓vi_rr_e, ↓vi_o_e, ↓vi_ir_e, ↓vi_iir_e, ↓vi_jir_e, ↓vi_rir_e, ↓vi_pop_z, ↓vi_pop_s, ↓vi_sw_n, ↓vi_sw_c, ↓vi_li_z, ↓vi_li_s, ↓vi_ll_z, ↓vi_ll_s, ↓vi_lr_z, ↓vi_lr_s, ↓vi_ret_l, ↓vi_ret_r, vi_sv, vg_set1, vg_set2, vg_lo, List.headD, List.contains_nil, List.contains_cons, Bool.or_false, Bool.false_eq_true, if_false, if_true, Nat.reduceAdd, Nat.reduceBEq, List.nil_append, List.cons_append, List.append_nil, Option.toList, Int32.reduceOfNat, Int64.reduceOfNat, reduceCtorEq, Nat.reduceLeDiff, Nat.le_refl, Nat.zero_le, true_and, and_true, false_or, or_false, or_true, true_or, and_self, not_true_eq_false, not_false_eq_true, forall_const, false_implies, true_implies, Sum.inl.injEq, Sum.inr.injEq, Option.some.injEq, eq_self, oI_1, oI_m, oI_5, oI_L, vi_ws_nil, vi_ws_I, vi_ws_J, vi_ws_R, wi_k, wi_n, wi_r, wi_l, wr_k, wr_n, wr_i, wr_l, wl_k, wl_n, wl_i, wl_r, Nat.reduceSub, Nat.reduceMul, cL_25a_1828, aL_25a_1828, mc_169, ms_169, mr_169, mh_169, ml_169, s1, s2]
  intro v1 e1
  rw [show (1 : Int32) = nI 1 from rfl, nI_add] at e1
  subst e1
  refine ⟨i1, fun v2 e2 => ?_⟩
  rw [show (2 : Int32) = nI 2 from rfl, nI_add] at e2
  subst e2
  refine ⟨i2, ?_⟩
  rw [c1, y1, c2, y2]
  have after : ∀ w v S' h1, R w v S' → OV G b S' h w v h1 → vg_A G (MT 169) (uc + 1) (us + 6) 1845 [some (.inr (.inr (some (G.2.2.2.2 4)))), some (.inr (.inr (some b))), some (.inr (.inr (some (b + 37)))), some (.inr (.inr (some (b + 80)))), some (.inl (nI (5 * k))), none, none] [.inl w] h1 Q := by
    intro w v S' h1 hR ce
    have X := hL.clO ce
    obtain ⟨m1, m2, m3, m4, m5, m6⟩ := X
    have row := hL.rowO ce
    have z1 := (row (5 * k + 1)).trans y1
    have z2 := (row (5 * k + 2)).trans y2
    refine vi_run oL_25b [1964] 80 ?_
    rw [aL_25b_1845]
    simp only [↓reduceIte, vi_go_c, ↓v1_iadd, ↓v1_isub, ↓v1_imul, ↓v1_iand, ↓v1_idiv, ↓v1_irem, ↓v1_ineg, ↓v1_ladd, ↓v1_lsub, ↓v1_land, ↓v1_lcmp, ↓v1_lshl, ↓v1_lshr, ↓v1_i2l, ↓v1_l2i, ↓v1_iconst_0, ↓v1_iconst_m, ↓v1_bipush, ↓v1_sipush, ↓v1_ldc, ↓v1_ldc_w, ↓v1_lconst, ↓v1_ldc2_w, ↓v1_aconst_null, ↓v1_iload, ↓v1_iload_n, ↓v1_lload, ↓v1_lload_n, ↓v1_aload, ↓v1_aload_n, ↓v1_istore, ↓v1_istore_n, ↓v1_lstore, ↓v1_lstore_n, ↓v1_astore, ↓v1_astore_n, ↓v1_iinc, ↓v1_dup, ↓v1_dup2, ↓v1_ifCond_eq, ↓v1_ifCond_ne, ↓v1_ifCond_lt, ↓v1_ifCond_ge, ↓v1_ifCond_gt, ↓v1_ifCond_le, ↓v1_if_icmp_eq, ↓v1_if_icmp_ne, ↓v1_if_icmp_lt, ↓v1_if_icmp_ge, ↓v1_if_icmp_gt, ↓v1_if_icmp_le, ↓v1_if_acmp_ne, ↓v1_ifnull, ↓v1_ifnonnull, ↓v1_goto, ↓v1_tableswitch_0, ↓v1_return_, ↓v1_ireturn, ↓v1_lreturn, ↓v1_areturn, ↓v1_getfield_0, ↓v1_putfield_0, ↓v1_getstatic, ↓v1_iaload, ↓v1_laload, ↓v1_baload, ↓v1_aaload, ↓v1_iastore, ↓v1_lastore, ↓v1_bastore, ↓v1_aastore_0, ↓v1_arraylength, ↓v1_new_0, ↓v1_newarray, ↓v1_anewarray, ↓v1_invokestatic_0, ↓v1_invokestatic_1, ↓v1_invokestatic_2a, ↓v1_invokevirtual_0, ↓v1_invokespecial_0, ↓v1_invokespecial_1a, ↓v1_invokespecial_1b, ↓vi_ii_e, ↓vi_i_e, ↓vi_jj_e, ↓vi_j_e, ↓vi_ij_e, ↓vi_r_e, ↓vi_rr_e, ↓vi_o_e, ↓vi_ir_e, ↓vi_iir_e, ↓vi_jir_e, ↓vi_rir_e, ↓vi_pop_z, ↓vi_pop_s, ↓vi_sw_n, ↓vi_sw_c, ↓vi_li_z, ↓vi_li_s, ↓vi_ll_z, ↓vi_ll_s, ↓vi_lr_z, ↓vi_lr_s, ↓vi_ret_l, ↓vi_ret_r, vi_sv, vg_set1, vg_set2, vg_lo, List.headD, List.contains_nil, List.contains_cons, Bool.or_false, Bool.false_eq_true, if_false, if_true, Nat.reduceAdd, Nat.reduceBEq, List.nil_append, List.cons_append, List.append_nil, Option.toList, Int32.reduceOfNat, Int64.reduceOfNat, reduceCtorEq, Nat.reduceLeDiff, Nat.le_refl, Nat.zero_le, true_and, and_true, false_or, or_false, or_true, true_or, and_self, not_true_eq_false, not_false_eq_true, forall_const, false_implies, true_implies, Sum.inl.injEq, Sum.inr.injEq, Option.some.injEq, eq_self, oI_1, oI_m, oI_5, oI_L, vi_ws_nil, vi_ws_I, vi_ws_J, vi_ws_R, wi_k, wi_n, wi_r, wi_l, wr_k, wr_n, wr_i, wr_l, wl_k, wl_n, wl_i, wl_r, Nat.reduceSub, Nat.reduceMul, cL_25b_1845, cL_25b_1876, cL_25b_1893, aL_25b_1845, aL_25b_1876, aL_25b_1893, mc_169, ms_169, mr_169, mh_169, ml_169, mc_133, ms_133, mc_154, ms_154, m4, m5, m6]
    intro v1 e1
    rw [show (1 : Int32) = nI 1 from rfl, nI_add] at e1
    subst e1
    refine ⟨i1, fun v2 e2 => ?_⟩
    rw [show (2 : Int32) = nI 2 from rfl, nI_add] at e2
    subst e2
    refine ⟨i2, ⟨by omega, by omega⟩, ?_⟩
    rw [c1, z1, c2, z2]
    refine (hm w v S' h1 hR m1).mono (fun o h2 q => ?_)
    obtain ⟨r, S2, rfl, mp, hr, of, iv⟩ := q
    unfold cI at hr
    have k1 := mp.mx.1
    simp only [↓reduceIte, vi_go_c, ↓v1_iadd, ↓v1_isub, ↓v1_imul, ↓v1_iand, ↓v1_idiv, ↓v1_irem, ↓v1_ineg, ↓v1_ladd, ↓v1_lsub, ↓v1_land, ↓v1_lcmp, ↓v1_lshl, ↓v1_lshr, ↓v1_i2l, ↓v1_l2i, ↓v1_iconst_0, ↓v1_iconst_m, ↓v1_bipush, ↓v1_sipush, ↓v1_ldc, ↓v1_ldc_w, ↓v1_lconst, ↓v1_ldc2_w, ↓v1_aconst_null, ↓v1_iload, ↓v1_iload_n, ↓v1_lload, ↓v1_lload_n, ↓v1_aload, ↓v1_aload_n, ↓v1_istore, ↓v1_istore_n, ↓v1_lstore, ↓v1_lstore_n, ↓v1_astore, ↓v1_astore_n, ↓v1_iinc, ↓v1_dup, ↓v1_dup2, ↓v1_ifCond_eq, ↓v1_ifCond_ne, ↓v1_ifCond_lt, ↓v1_ifCond_ge, ↓v1_ifCond_gt, ↓v1_ifCond_le, ↓v1_if_icmp_eq, ↓v1_if_icmp_ne, ↓v1_if_icmp_lt, ↓v1_if_icmp_ge, ↓v1_if_icmp_gt, ↓v1_if_icmp_le, ↓v1_if_acmp_ne, ↓v1_ifnull, ↓v1_ifnonnull, ↓v1_goto, ↓v1_tableswitch_0, ↓v1_return_, ↓v1_ireturn, ↓v1_lreturn, ↓v1_areturn, ↓v1_getfield_0, ↓v1_putfield_0, ↓v1_getstatic, ↓v1_iaload, ↓v1_laload, ↓v1_baload, ↓v1_aaload, ↓v1_iastore, ↓v1_lastore, ↓v1_bastore, ↓v1_aastore_0, ↓v1_arraylength, ↓v1_new_0, ↓v1_newarray, ↓v1_anewarray, ↓v1_invokestatic_0, ↓v1_invokestatic_1, ↓v1_invokestatic_2a, ↓v1_invokevirtual_0, ↓v1_invokespecial_0, ↓v1_invokespecial_1a, ↓v1_invokespecial_1b, ↓vi_ii_e, ↓vi_i_e, ↓vi_jj_e, ↓vi_j_e, ↓vi_ij_e, ↓vi_r_e, ↓vi_rr_e, ↓vi_o_e, ↓vi_ir_e, ↓vi_iir_e, ↓vi_jir_e, ↓vi_rir_e, ↓vi_pop_z, ↓vi_pop_s, ↓vi_sw_n, ↓vi_sw_c, ↓vi_li_z, ↓vi_li_s, ↓vi_ll_z, ↓vi_ll_s, ↓vi_lr_z, ↓vi_lr_s, ↓vi_ret_l, ↓vi_ret_r, vi_sv, vg_set1, vg_set2, vg_lo, List.headD, List.contains_nil, List.contains_cons, Bool.or_false, Bool.false_eq_true, if_false, if_true, Nat.reduceAdd, Nat.reduceBEq, List.nil_append, List.cons_append, List.append_nil, Option.toList, Int32.reduceOfNat, Int64.reduceOfNat, reduceCtorEq, Nat.reduceLeDiff, Nat.le_refl, Nat.zero_le, true_and, and_true, false_or, or_false, or_true, true_or, and_self, not_true_eq_false, not_false_eq_true, forall_const, false_implies, true_implies, Sum.inl.injEq, Sum.inr.injEq, Option.some.injEq, eq_self, oI_1, oI_m, oI_5, oI_L, vi_ws_nil, vi_ws_I, vi_ws_J, vi_ws_R, wi_k, wi_n, wi_r, wi_l, wr_k, wr_n, wr_i, wr_l, wl_k, wl_n, wl_i, wl_r, Nat.reduceSub, Nat.reduceMul, cL_25b_1845, cL_25b_1876, cL_25b_1893, aL_25b_1845, aL_25b_1876, aL_25b_1893, mc_169, ms_169, mr_169, mh_169, ml_169, mc_133, ms_133, mc_154, ms_154, k1]
    refine ⟨⟨by omega, by omega⟩, c_154 k1 ?_⟩
    rw [mp.2]
    have o1 : h2.1 (b + 80) = 101 := by rw [mp.1.2.2.1]; exact m2
    have o2 : h2.2.1 (b + 80) = 1 := by rw [mp.1.2.2.2.1]; exact m3
    have o3 : w = 0 → h2.2.2.2.1 (b + 80) 0 = v := fun e => by rw [mp.1.2.2.2.2.2.1]; exact hL.outO ce e
    have fin := hQ S2 h2 (uc + 1) (us + 6) (some (.inl w)) (some (.inl r)) (hL.bothO ce mp of iv) (by omega) (by omega)
    simp only [↓reduceIte, vi_go_c, ↓v1_iadd, ↓v1_isub, ↓v1_imul, ↓v1_iand, ↓v1_idiv, ↓v1_irem, ↓v1_ineg, ↓v1_ladd, ↓v1_lsub, ↓v1_land, ↓v1_lcmp, ↓v1_lshl, ↓v1_lshr, ↓v1_i2l, ↓v1_l2i, ↓v1_iconst_0, ↓v1_iconst_m, ↓v1_bipush, ↓v1_sipush, ↓v1_ldc, ↓v1_ldc_w, ↓v1_lconst, ↓v1_ldc2_w, ↓v1_aconst_null, ↓v1_iload, ↓v1_iload_n, ↓v1_lload, ↓v1_lload_n, ↓v1_aload, ↓v1_aload_n, ↓v1_istore, ↓v1_istore_n, ↓v1_lstore, ↓v1_lstore_n, ↓v1_astore, ↓v1_astore_n, ↓v1_iinc, ↓v1_dup, ↓v1_dup2, ↓v1_ifCond_eq, ↓v1_ifCond_ne, ↓v1_ifCond_lt, ↓v1_ifCond_ge, ↓v1_ifCond_gt, ↓v1_ifCond_le, ↓v1_if_icmp_eq, ↓v1_if_icmp_ne, ↓v1_if_icmp_lt, ↓v1_if_icmp_ge, ↓v1_if_icmp_gt, ↓v1_if_icmp_le, ↓v1_if_acmp_ne, ↓v1_ifnull, ↓v1_ifnonnull, ↓v1_goto, ↓v1_tableswitch_0, ↓v1_return_, ↓v1_ireturn, ↓v1_lreturn, ↓v1_areturn, ↓v1_getfield_0, ↓v1_putfield_0, ↓v1_getstatic, ↓v1_iaload, ↓v1_laload, ↓v1_baload, ↓v1_aaload, ↓v1_iastore, ↓v1_lastore, ↓v1_bastore, ↓v1_aastore_0, ↓v1_arraylength, ↓v1_new_0, ↓v1_newarray, ↓v1_anewarray, ↓v1_invokestatic_0, ↓v1_invokestatic_1, ↓v1_invokestatic_2a, ↓v1_invokevirtual_0, ↓v1_invokespecial_0, ↓v1_invokespecial_1a, ↓v1_invokespecial_1b, ↓vi_ii_e, ↓vi_i_e, ↓vi_jj_e, ↓vi_j_e, ↓vi_ij_e, ↓vi_r_e, ↓vi_rr_e, ↓vi_o_e, ↓vi_ir_e, ↓vi_iir_e, ↓vi_jir_e, ↓vi_rir_e, ↓vi_pop_z, ↓vi_pop_s, ↓vi_sw_n, ↓vi_sw_c, ↓vi_li_z, ↓vi_li_s, ↓vi_ll_z, ↓vi_ll_s, ↓vi_lr_z, ↓vi_lr_s, ↓vi_ret_l, ↓vi_ret_r, vi_sv, vg_set1, vg_set2, vg_lo, List.headD, List.contains_nil, List.contains_cons, Bool.or_false, Bool.false_eq_true, if_false, if_true, Nat.reduceAdd, Nat.reduceBEq, List.nil_append, List.cons_append, List.append_nil, Option.toList, Int32.reduceOfNat, Int64.reduceOfNat, reduceCtorEq, Nat.reduceLeDiff, Nat.le_refl, Nat.zero_le, true_and, and_true, false_or, or_false, or_true, true_or, and_self, not_true_eq_false, not_false_eq_true, forall_const, false_implies, true_implies, Sum.inl.injEq, Sum.inr.injEq, Option.some.injEq, eq_self, oI_1, oI_m, oI_5, oI_L, vi_ws_nil, vi_ws_I, vi_ws_J, vi_ws_R, wi_k, wi_n, wi_r, wi_l, wr_k, wr_n, wr_i, wr_l, wl_k, wl_n, wl_i, wl_r, Nat.reduceSub, Nat.reduceMul, cL_25b_1845, cL_25b_1876, cL_25b_1893, aL_25b_1845, aL_25b_1876, aL_25b_1893, mc_169, ms_169, mr_169, mh_169, ml_169, mc_133, ms_133, mc_154, ms_154, o1, o2]
    refine ⟨fun _ => fin, fun e0 => ⟨vp_nI (i := 0) (by decide) (by decide), ?_⟩⟩
    intro v1 f1 v2 f2
    have e1 : w = 0 := Decidable.not_not.mp e0
    have f3 : v2 = 0 := by rw [f2, f1, hr e1, show h2.2.2.2.1 (b + 80) (Int32.toNatClampNeg 0) = v from o3 e1]; exact lcmp_self v
    exact ⟨fun _ => fin, fun e => absurd f3 e⟩
  refine vr_callSH (N := MT 168) (as := [.inr (.inr (some b)), .inl p1, .inl p2, .inr (.inr (some (b + 80)))]) (st := []) (n := 4) (vg_inW 873 rfl rfl) mh_168 (vg_inW 875 rfl rfl) (vg_inW 49 rfl rfl) (by decide +kernel) (by decide +kernel) (vg_inW 874 rfl rfl) rfl (by decide +kernel) (by simp) ⟨by rw [mc_168, mc_169]; omega, by rw [ms_168, ms_169]; omega⟩ hc (fun v h1 q => ?_) (fun j h1 q => ?_)
  · obtain ⟨w, v', S', q1, q2, q3⟩ := q
    injection q1 with q1
    subst q1
    exact after w v' S' h1 q2 q3
  · obtain ⟨w, v', S', q1, _⟩ := q
    cases q1
theorem hh_25 {p1 p2 κ : Int32} {T : Int64 → SS → Prop} (hL : LI G b n k S h) (hC : vg_C G (MT 39) [.inr (.inr (some b)), .inl p1, .inl p2] h (CO1 0 G b S h κ T cI)) : vg_C G (MT 168) [.inr (.inr (some b)), .inl p1, .inl p2, .inr (.inr (some (b + 80)))] h (fun o h1 => ∃ w v S', o = .inl (some (.inl w)) ∧ RR κ S T w v S' ∧ OV G b S' h w v h1) := by
  have x1 : h.1 b = 10 := by obtain ⟨⟨A, x1, _⟩, _⟩ := hL; exact x1.1.1
  refine c_168 x1 hC (fun v h' q => ?_) (fun j h' q => ?_)
  · rcases q with ⟨r, S', q1, q2, q3, q4⟩ | ⟨q1, _⟩
    · injection q1 with q1
      obtain ⟨_, o1, o2, _⟩ := hL.cl q4
      exact ⟨r, q1, o1, o2, 0, _, S', rfl, Or.inr ⟨q2, rfl, q3⟩, h', q4, Or.inr rfl, fun _ => rfl⟩
    · cases q1
  · rcases q with ⟨r, S', q1, _⟩ | ⟨q1, q2, q3⟩
    · cases q1
    · injection q1 with q1
      exact ⟨q1, 1, 0, S, rfl, Or.inl ⟨by rw [q2]; decide, q2.symm, rfl⟩, h', q3, Or.inl rfl, fun e => absurd e (by decide)⟩
set_option maxRecDepth 100000 in
theorem wk_26 {uc us : Nat} {p1 p2 : Int32} {R : Int32 → Int64 → SS → Prop} (hL : LI G b n k S h) (hk : 5 * k + 5 ≤ n) (hn : n ≤ 2560) (hu : uc ≤ 100 + 10 * k) (hs : us ≤ 400000 + 100 * k) (y1 : h.2.2.1 (G.2.2.2.2 4) (5 * k + 1) = p1) (y2 : h.2.2.1 (G.2.2.2.2 4) (5 * k + 2) = p2) (hQ : ∀ S' h' uc' us' (u v : Option vg_V), LI G b n (k + 1) S' h' → uc' ≤ 100 + 10 * (k + 1) → us' ≤ 400000 + 100 * (k + 1) → vg_A G (MT 169) uc' us' 1964 [some (.inr (.inr (some (G.2.2.2.2 4)))), some (.inr (.inr (some b))), some (.inr (.inr (some (b + 37)))), some (.inr (.inr (some (b + 80)))), some (.inl (nI (5 * k))), u, v] [] h' Q) (hc : vg_C G (MT 182) [.inr (.inr (some b)), .inl p1, .inl p2, .inr (.inr (some (b + 80)))] h (fun o h1 => ∃ w v S', o = .inl (some (.inl w)) ∧ R w v S' ∧ OV G b S' h w v h1)) (hm : ∀ w v S' h1, R w v S' → MX b S h1 → vg_C G (MT 153) [.inr (.inr (some (b + 37))), .inl p1, .inl p2] h1 (PM b k cI w v S' h1)) : vg_A G (MT 169) uc us 1896 [some (.inr (.inr (some (G.2.2.2.2 4)))), some (.inr (.inr (some b))), some (.inr (.inr (some (b + 37)))), some (.inr (.inr (some (b + 80)))), some (.inl (nI (5 * k))), none, none] [] h Q := by
  have s1 := hL.2.2.2.2.2.1
  have s2 := hL.2.2.2.2.2.2
  have c1 := nI_clamp (show 5 * k + 1 < 2 ^ 31 by omega)
  have i1 : vp_in (nI (5 * k + 1)) n := vp_nI (by omega) (by omega)
  have c2 := nI_clamp (show 5 * k + 2 < 2 ^ 31 by omega)
  have i2 : vp_in (nI (5 * k + 2)) n := vp_nI (by omega) (by omega)
  refine vi_run oL_26a [1910] 60 ?_
  rw [aL_26a_1896]
  simp only [↓reduceIte, vi_go_c, ↓v1_iadd, ↓v1_isub, ↓v1_imul, ↓v1_iand, ↓v1_idiv, ↓v1_irem, ↓v1_ineg, ↓v1_ladd, ↓v1_lsub, ↓v1_land, ↓v1_lcmp, ↓v1_lshl, ↓v1_lshr, ↓v1_i2l, ↓v1_l2i, ↓v1_iconst_0, ↓v1_iconst_m, ↓v1_bipush, ↓v1_sipush, ↓v1_ldc, ↓v1_ldc_w, ↓v1_lconst, ↓v1_ldc2_w, ↓v1_aconst_null, ↓v1_iload, ↓v1_iload_n, ↓v1_lload, ↓v1_lload_n, ↓v1_aload, ↓v1_aload_n, ↓v1_istore, ↓v1_istore_n, ↓v1_lstore, ↓v1_lstore_n, ↓v1_astore, ↓v1_astore_n, ↓v1_iinc, ↓v1_dup, ↓v1_dup2, ↓v1_ifCond_eq, ↓v1_ifCond_ne, ↓v1_ifCond_lt, ↓v1_ifCond_ge, ↓v1_ifCond_gt, ↓v1_ifCond_le, ↓v1_if_icmp_eq, ↓v1_if_icmp_ne, ↓v1_if_icmp_lt, ↓v1_if_icmp_ge, ↓v1_if_icmp_gt, ↓v1_if_icmp_le, ↓v1_if_acmp_ne, ↓v1_ifnull, ↓v1_ifnonnull, ↓v1_goto, ↓v1_tableswitch_0, ↓v1_return_, ↓v1_ireturn, ↓v1_lreturn, ↓v1_areturn, ↓v1_getfield_0, ↓v1_putfield_0, ↓v1_getstatic, ↓v1_iaload, ↓v1_laload, ↓v1_baload, ↓v1_aaload, ↓v1_iastore, ↓v1_lastore, ↓v1_bastore, ↓v1_aastore_0, ↓v1_arraylength, ↓v1_new_0, ↓v1_newarray, ↓v1_anewarray, ↓v1_invokestatic_0, ↓v1_invokestatic_1, ↓v1_invokestatic_2a, ↓v1_invokevirtual_0, ↓v1_invokespecial_0, ↓v1_invokespecial_1a, ↓v1_invokespecial_1b, ↓vi_ii_e, ↓vi_i_e, ↓vi_jj_e, ↓vi_j_e, ↓vi_ij_e, ↓vi_r_e, ↓vi_rr_e, ↓vi_o_e, ↓vi_ir_e, ↓vi_iir_e, ↓vi_jir_e, ↓vi_rir_e, ↓vi_pop_z, ↓vi_pop_s, ↓vi_sw_n, ↓vi_sw_c, ↓vi_li_z, ↓vi_li_s, ↓vi_ll_z, ↓vi_ll_s, ↓vi_lr_z, ↓vi_lr_s, ↓vi_ret_l, ↓vi_ret_r, vi_sv, vg_set1, vg_set2, vg_lo, List.headD, List.contains_nil, List.contains_cons, Bool.or_false, Bool.false_eq_true, if_false, if_true, Nat.reduceAdd, Nat.reduceBEq, List.nil_append, List.cons_append, List.append_nil, Option.toList, Int32.reduceOfNat, Int64.reduceOfNat, reduceCtorEq, Nat.reduceLeDiff, Nat.le_refl, Nat.zero_le, true_and, and_true, false_or, or_false, or_true, true_or, and_self, not_true_eq_false, not_false_eq_true, forall_const, false_implies, true_implies, Sum.inl.injEq, Sum.inr.injEq, Option.some.injEq, eq_self, oI_1, oI_m, oI_5, oI_L, vi_ws_nil, vi_ws_I, vi_ws_J, vi_ws_R, wi_k, wi_n, wi_r, wi_l, wr_k, wr_n, wr_i, wr_l, wl_k, wl_n, wl_i, wl_r, Nat.reduceSub, Nat.reduceMul, cL_26a_1896, aL_26a_1896, mc_169, ms_169, mr_169, mh_169, ml_169, s1, s2]
  intro v1 e1
  rw [show (1 : Int32) = nI 1 from rfl, nI_add] at e1
  subst e1
  refine ⟨i1, fun v2 e2 => ?_⟩
  rw [show (2 : Int32) = nI 2 from rfl, nI_add] at e2
  subst e2
  refine ⟨i2, ?_⟩
  rw [c1, y1, c2, y2]
  have after : ∀ w v S' h1, R w v S' → OV G b S' h w v h1 → vg_A G (MT 169) (uc + 1) (us + 6) 1913 [some (.inr (.inr (some (G.2.2.2.2 4)))), some (.inr (.inr (some b))), some (.inr (.inr (some (b + 37)))), some (.inr (.inr (some (b + 80)))), some (.inl (nI (5 * k))), none, none] [.inl w] h1 Q := by
    intro w v S' h1 hR ce
    have X := hL.clO ce
    obtain ⟨m1, m2, m3, m4, m5, m6⟩ := X
    have row := hL.rowO ce
    have z1 := (row (5 * k + 1)).trans y1
    have z2 := (row (5 * k + 2)).trans y2
    refine vi_run oL_26b [1964] 80 ?_
    rw [aL_26b_1913]
    simp only [↓reduceIte, vi_go_c, ↓v1_iadd, ↓v1_isub, ↓v1_imul, ↓v1_iand, ↓v1_idiv, ↓v1_irem, ↓v1_ineg, ↓v1_ladd, ↓v1_lsub, ↓v1_land, ↓v1_lcmp, ↓v1_lshl, ↓v1_lshr, ↓v1_i2l, ↓v1_l2i, ↓v1_iconst_0, ↓v1_iconst_m, ↓v1_bipush, ↓v1_sipush, ↓v1_ldc, ↓v1_ldc_w, ↓v1_lconst, ↓v1_ldc2_w, ↓v1_aconst_null, ↓v1_iload, ↓v1_iload_n, ↓v1_lload, ↓v1_lload_n, ↓v1_aload, ↓v1_aload_n, ↓v1_istore, ↓v1_istore_n, ↓v1_lstore, ↓v1_lstore_n, ↓v1_astore, ↓v1_astore_n, ↓v1_iinc, ↓v1_dup, ↓v1_dup2, ↓v1_ifCond_eq, ↓v1_ifCond_ne, ↓v1_ifCond_lt, ↓v1_ifCond_ge, ↓v1_ifCond_gt, ↓v1_ifCond_le, ↓v1_if_icmp_eq, ↓v1_if_icmp_ne, ↓v1_if_icmp_lt, ↓v1_if_icmp_ge, ↓v1_if_icmp_gt, ↓v1_if_icmp_le, ↓v1_if_acmp_ne, ↓v1_ifnull, ↓v1_ifnonnull, ↓v1_goto, ↓v1_tableswitch_0, ↓v1_return_, ↓v1_ireturn, ↓v1_lreturn, ↓v1_areturn, ↓v1_getfield_0, ↓v1_putfield_0, ↓v1_getstatic, ↓v1_iaload, ↓v1_laload, ↓v1_baload, ↓v1_aaload, ↓v1_iastore, ↓v1_lastore, ↓v1_bastore, ↓v1_aastore_0, ↓v1_arraylength, ↓v1_new_0, ↓v1_newarray, ↓v1_anewarray, ↓v1_invokestatic_0, ↓v1_invokestatic_1, ↓v1_invokestatic_2a, ↓v1_invokevirtual_0, ↓v1_invokespecial_0, ↓v1_invokespecial_1a, ↓v1_invokespecial_1b, ↓vi_ii_e, ↓vi_i_e, ↓vi_jj_e, ↓vi_j_e, ↓vi_ij_e, ↓vi_r_e, ↓vi_rr_e, ↓vi_o_e, ↓vi_ir_e, ↓vi_iir_e, ↓vi_jir_e, ↓vi_rir_e, ↓vi_pop_z, ↓vi_pop_s, ↓vi_sw_n, ↓vi_sw_c, ↓vi_li_z, ↓vi_li_s, ↓vi_ll_z, ↓vi_ll_s, ↓vi_lr_z, ↓vi_lr_s, ↓vi_ret_l, ↓vi_ret_r, vi_sv, vg_set1, vg_set2, vg_lo, List.headD, List.contains_nil, List.contains_cons, Bool.or_false, Bool.false_eq_true, if_false, if_true, Nat.reduceAdd, Nat.reduceBEq, List.nil_append, List.cons_append, List.append_nil, Option.toList, Int32.reduceOfNat, Int64.reduceOfNat, reduceCtorEq, Nat.reduceLeDiff, Nat.le_refl, Nat.zero_le, true_and, and_true, false_or, or_false, or_true, true_or, and_self, not_true_eq_false, not_false_eq_true, forall_const, false_implies, true_implies, Sum.inl.injEq, Sum.inr.injEq, Option.some.injEq, eq_self, oI_1, oI_m, oI_5, oI_L, vi_ws_nil, vi_ws_I, vi_ws_J, vi_ws_R, wi_k, wi_n, wi_r, wi_l, wr_k, wr_n, wr_i, wr_l, wl_k, wl_n, wl_i, wl_r, Nat.reduceSub, Nat.reduceMul, cL_26b_1913, cL_26b_1944, cL_26b_1961, aL_26b_1913, aL_26b_1944, aL_26b_1961, mc_169, ms_169, mr_169, mh_169, ml_169, mc_153, ms_153, mc_154, ms_154, m4, m5, m6]
    intro v1 e1
    rw [show (1 : Int32) = nI 1 from rfl, nI_add] at e1
    subst e1
    refine ⟨i1, fun v2 e2 => ?_⟩
    rw [show (2 : Int32) = nI 2 from rfl, nI_add] at e2
    subst e2
    refine ⟨i2, ⟨by omega, by omega⟩, ?_⟩
    rw [c1, z1, c2, z2]
    refine (hm w v S' h1 hR m1).mono (fun o h2 q => ?_)
    obtain ⟨r, S2, rfl, mp, hr, of, iv⟩ := q
    unfold cI at hr
    have k1 := mp.mx.1
    simp only [↓reduceIte, vi_go_c, ↓v1_iadd, ↓v1_isub, ↓v1_imul, ↓v1_iand, ↓v1_idiv, ↓v1_irem, ↓v1_ineg, ↓v1_ladd, ↓v1_lsub, ↓v1_land, ↓v1_lcmp, ↓v1_lshl, ↓v1_lshr, ↓v1_i2l, ↓v1_l2i, ↓v1_iconst_0, ↓v1_iconst_m, ↓v1_bipush, ↓v1_sipush, ↓v1_ldc, ↓v1_ldc_w, ↓v1_lconst, ↓v1_ldc2_w, ↓v1_aconst_null, ↓v1_iload, ↓v1_iload_n, ↓v1_lload, ↓v1_lload_n, ↓v1_aload, ↓v1_aload_n, ↓v1_istore, ↓v1_istore_n, ↓v1_lstore, ↓v1_lstore_n, ↓v1_astore, ↓v1_astore_n, ↓v1_iinc, ↓v1_dup, ↓v1_dup2, ↓v1_ifCond_eq, ↓v1_ifCond_ne, ↓v1_ifCond_lt, ↓v1_ifCond_ge, ↓v1_ifCond_gt, ↓v1_ifCond_le, ↓v1_if_icmp_eq, ↓v1_if_icmp_ne, ↓v1_if_icmp_lt, ↓v1_if_icmp_ge, ↓v1_if_icmp_gt, ↓v1_if_icmp_le, ↓v1_if_acmp_ne, ↓v1_ifnull, ↓v1_ifnonnull, ↓v1_goto, ↓v1_tableswitch_0, ↓v1_return_, ↓v1_ireturn, ↓v1_lreturn, ↓v1_areturn, ↓v1_getfield_0, ↓v1_putfield_0, ↓v1_getstatic, ↓v1_iaload, ↓v1_laload, ↓v1_baload, ↓v1_aaload, ↓v1_iastore, ↓v1_lastore, ↓v1_bastore, ↓v1_aastore_0, ↓v1_arraylength, ↓v1_new_0, ↓v1_newarray, ↓v1_anewarray, ↓v1_invokestatic_0, ↓v1_invokestatic_1, ↓v1_invokestatic_2a, ↓v1_invokevirtual_0, ↓v1_invokespecial_0, ↓v1_invokespecial_1a, ↓v1_invokespecial_1b, ↓vi_ii_e, ↓vi_i_e, ↓vi_jj_e, ↓vi_j_e, ↓vi_ij_e, ↓vi_r_e, ↓vi_rr_e, ↓vi_o_e, ↓vi_ir_e, ↓vi_iir_e, ↓vi_jir_e, ↓vi_rir_e, ↓vi_pop_z, ↓vi_pop_s, ↓vi_sw_n, ↓vi_sw_c, ↓vi_li_z, ↓vi_li_s, ↓vi_ll_z, ↓vi_ll_s, ↓vi_lr_z, ↓vi_lr_s, ↓vi_ret_l, ↓vi_ret_r, vi_sv, vg_set1, vg_set2, vg_lo, List.headD, List.contains_nil, List.contains_cons, Bool.or_false, Bool.false_eq_true, if_false, if_true, Nat.reduceAdd, Nat.reduceBEq, List.nil_append, List.cons_append, List.append_nil, Option.toList, Int32.reduceOfNat, Int64.reduceOfNat, reduceCtorEq, Nat.reduceLeDiff, Nat.le_refl, Nat.zero_le, true_and, and_true, false_or, or_false, or_true, true_or, and_self, not_true_eq_false, not_false_eq_true, forall_const, false_implies, true_implies, Sum.inl.injEq, Sum.inr.injEq, Option.some.injEq, eq_self, oI_1, oI_m, oI_5, oI_L, vi_ws_nil, vi_ws_I, vi_ws_J, vi_ws_R, wi_k, wi_n, wi_r, wi_l, wr_k, wr_n, wr_i, wr_l, wl_k, wl_n, wl_i, wl_r, Nat.reduceSub, Nat.reduceMul, cL_26b_1913, cL_26b_1944, cL_26b_1961, aL_26b_1913, aL_26b_1944, aL_26b_1961, mc_169, ms_169, mr_169, mh_169, ml_169, mc_153, ms_153, mc_154, ms_154, k1]
    refine ⟨⟨by omega, by omega⟩, c_154 k1 ?_⟩
    rw [mp.2]
    have o1 : h2.1 (b + 80) = 101 := by rw [mp.1.2.2.1]; exact m2
    have o2 : h2.2.1 (b + 80) = 1 := by rw [mp.1.2.2.2.1]; exact m3
    have o3 : w = 0 → h2.2.2.2.1 (b + 80) 0 = v := fun e => by rw [mp.1.2.2.2.2.2.1]; exact hL.outO ce e
    have fin := hQ S2 h2 (uc + 1) (us + 6) (some (.inl w)) (some (.inl r)) (hL.bothO ce mp of iv) (by omega) (by omega)
    simp only [↓reduceIte, vi_go_c, ↓v1_iadd, ↓v1_isub, ↓v1_imul, ↓v1_iand, ↓v1_idiv, ↓v1_irem, ↓v1_ineg, ↓v1_ladd, ↓v1_lsub, ↓v1_land, ↓v1_lcmp, ↓v1_lshl, ↓v1_lshr, ↓v1_i2l, ↓v1_l2i, ↓v1_iconst_0, ↓v1_iconst_m, ↓v1_bipush, ↓v1_sipush, ↓v1_ldc, ↓v1_ldc_w, ↓v1_lconst, ↓v1_ldc2_w, ↓v1_aconst_null, ↓v1_iload, ↓v1_iload_n, ↓v1_lload, ↓v1_lload_n, ↓v1_aload, ↓v1_aload_n, ↓v1_istore, ↓v1_istore_n, ↓v1_lstore, ↓v1_lstore_n, ↓v1_astore, ↓v1_astore_n, ↓v1_iinc, ↓v1_dup, ↓v1_dup2, ↓v1_ifCond_eq, ↓v1_ifCond_ne, ↓v1_ifCond_lt, ↓v1_ifCond_ge, ↓v1_ifCond_gt, ↓v1_ifCond_le, ↓v1_if_icmp_eq, ↓v1_if_icmp_ne, ↓v1_if_icmp_lt, ↓v1_if_icmp_ge, ↓v1_if_icmp_gt, ↓v1_if_icmp_le, ↓v1_if_acmp_ne, ↓v1_ifnull, ↓v1_ifnonnull, ↓v1_goto, ↓v1_tableswitch_0, ↓v1_return_, ↓v1_ireturn, ↓v1_lreturn, ↓v1_areturn, ↓v1_getfield_0, ↓v1_putfield_0, ↓v1_getstatic, ↓v1_iaload, ↓v1_laload, ↓v1_baload, ↓v1_aaload, ↓v1_iastore, ↓v1_lastore, ↓v1_bastore, ↓v1_aastore_0, ↓v1_arraylength, ↓v1_new_0, ↓v1_newarray, ↓v1_anewarray, ↓v1_invokestatic_0, ↓v1_invokestatic_1, ↓v1_invokestatic_2a, ↓v1_invokevirtual_0, ↓v1_invokespecial_0, ↓v1_invokespecial_1a, ↓v1_invokespecial_1b, ↓vi_ii_e, ↓vi_i_e, ↓vi_jj_e, ↓vi_j_e, ↓vi_ij_e, ↓vi_r_e, ↓vi_rr_e, ↓vi_o_e, ↓vi_ir_e, ↓vi_iir_e, ↓vi_jir_e, ↓vi_rir_e, ↓vi_pop_z, ↓vi_pop_s, ↓vi_sw_n, ↓vi_sw_c, ↓vi_li_z, ↓vi_li_s, ↓vi_ll_z, ↓vi_ll_s, ↓vi_lr_z, ↓vi_lr_s, ↓vi_ret_l, ↓vi_ret_r, vi_sv, vg_set1, vg_set2, vg_lo, List.headD, List.contains_nil, List.contains_cons, Bool.or_false, Bool.false_eq_true, if_false, if_true, Nat.reduceAdd, Nat.reduceBEq, List.nil_append, List.cons_append, List.append_nil, Option.toList, Int32.reduceOfNat, Int64.reduceOfNat, reduceCtorEq, Nat.reduceLeDiff, Nat.le_refl, Nat.zero_le, true_and, and_true, false_or, or_false, or_true, true_or, and_self, not_true_eq_false, not_false_eq_true, forall_const, false_implies, true_implies, Sum.inl.injEq, Sum.inr.injEq, Option.some.injEq, eq_self, oI_1, oI_m, oI_5, oI_L, vi_ws_nil, vi_ws_I, vi_ws_J, vi_ws_R, wi_k, wi_n, wi_r, wi_l, wr_k, wr_n, wr_i, wr_l, wl_k, wl_n, wl_i, wl_r, Nat.reduceSub, Nat.reduceMul, cL_26b_1913, cL_26b_1944, cL_26b_1961, aL_26b_1913, aL_26b_1944, aL_26b_1961, mc_169, ms_169, mr_169, mh_169, ml_169, mc_153, ms_153, mc_154, ms_154, o1, o2]
    refine ⟨fun _ => fin, fun e0 => ⟨vp_nI (i := 0) (by decide) (by decide), ?_⟩⟩
    intro v1 f1 v2 f2
    have e1 : w = 0 := Decidable.not_not.mp e0
    have f3 : v2 = 0 := by rw [f2, f1, hr e1, show h2.2.2.2.1 (b + 80) (Int32.toNatClampNeg 0) = v from o3 e1]; exact lcmp_self v
    exact ⟨fun _ => fin, fun e => absurd f3 e⟩
  refine vr_callSH (N := MT 182) (as := [.inr (.inr (some b)), .inl p1, .inl p2, .inr (.inr (some (b + 80)))]) (st := []) (n := 4) (vg_inW 880 rfl rfl) mh_182 (vg_inW 882 rfl rfl) (vg_inW 49 rfl rfl) (by decide +kernel) (by decide +kernel) (vg_inW 881 rfl rfl) rfl (by decide +kernel) (by simp) ⟨by rw [mc_182, mc_169]; omega, by rw [ms_182, ms_169]; omega⟩ hc (fun v h1 q => ?_) (fun j h1 q => ?_)
  · obtain ⟨w, v', S', q1, q2, q3⟩ := q
    injection q1 with q1
    subst q1
    exact after w v' S' h1 q2 q3
  · obtain ⟨w, v', S', q1, _⟩ := q
    cases q1
theorem hh_26 {p1 p2 κ : Int32} {T : Int64 → SS → Prop} (hL : LI G b n k S h) (hC : vg_C G (MT 59) [.inr (.inr (some b)), .inl p1, .inl p2] h (CO1 0 G b S h κ T cI)) : vg_C G (MT 182) [.inr (.inr (some b)), .inl p1, .inl p2, .inr (.inr (some (b + 80)))] h (fun o h1 => ∃ w v S', o = .inl (some (.inl w)) ∧ RR κ S T w v S' ∧ OV G b S' h w v h1) := by
  have x1 : h.1 b = 10 := by obtain ⟨⟨A, x1, _⟩, _⟩ := hL; exact x1.1.1
  refine c_182 x1 hC (fun v h' q => ?_) (fun j h' q => ?_)
  · rcases q with ⟨r, S', q1, q2, q3, q4⟩ | ⟨q1, _⟩
    · injection q1 with q1
      obtain ⟨_, o1, o2, _⟩ := hL.cl q4
      exact ⟨r, q1, o1, o2, 0, _, S', rfl, Or.inr ⟨q2, rfl, q3⟩, h', q4, Or.inr rfl, fun _ => rfl⟩
    · cases q1
  · rcases q with ⟨r, S', q1, _⟩ | ⟨q1, q2, q3⟩
    · cases q1
    · injection q1 with q1
      exact ⟨q1, 1, 0, S, rfl, Or.inl ⟨by rw [q2]; decide, q2.symm, rfl⟩, h', q3, Or.inl rfl, fun e => absurd e (by decide)⟩
end LW
