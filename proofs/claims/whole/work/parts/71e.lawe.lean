/-! ===== the walks of the law's cases ===== -/
section LW
variable {G : vg_G} {b n k : Nat} {S : SS} {h : vg_H} {Q : vg_O → vg_H → Prop}
set_option maxRecDepth 100000 in
theorem wk_18 {uc us : Nat} {p1 p2 : Int32} {R : Int32 → Int64 → SS → Prop} (hL : LI G b n k S h) (hk : 5 * k + 5 ≤ n) (hn : n ≤ 2560) (hu : uc ≤ 100 + 10 * k) (hs : us ≤ 400000 + 100 * k) (y1 : h.2.2.1 (G.2.2.2.2 4) (5 * k + 1) = p1) (y2 : h.2.2.1 (G.2.2.2.2 4) (5 * k + 2) = p2) (hQ : ∀ S' h' uc' us' (u v : Option vg_V), LI G b n (k + 1) S' h' → uc' ≤ 100 + 10 * (k + 1) → us' ≤ 400000 + 100 * (k + 1) → vg_A G (MT 169) uc' us' 1964 [some (.inr (.inr (some (G.2.2.2.2 4)))), some (.inr (.inr (some b))), some (.inr (.inr (some (b + 37)))), some (.inr (.inr (some (b + 80)))), some (.inl (nI (5 * k))), u, v] [] h' Q) (hc : vg_C G (MT 158) [.inr (.inr (some b)), .inl p1, .inl p2, .inr (.inr (some (b + 80)))] h (fun o h1 => ∃ w v S', o = .inl (some (.inl w)) ∧ R w v S' ∧ OV G b S' h w v h1)) (hm : ∀ w v S' h1, R w v S' → MX b S h1 → vg_C G (MT 101) [.inr (.inr (some (b + 37))), .inl p1, .inl p2] h1 (PM b k cI w v S' h1)) : vg_A G (MT 169) uc us 1328 [some (.inr (.inr (some (G.2.2.2.2 4)))), some (.inr (.inr (some b))), some (.inr (.inr (some (b + 37)))), some (.inr (.inr (some (b + 80)))), some (.inl (nI (5 * k))), none, none] [] h Q := by
  have s1 := hL.2.2.2.2.2.1
  have s2 := hL.2.2.2.2.2.2
  have c1 := nI_clamp (show 5 * k + 1 < 2 ^ 31 by omega)
  have i1 : vp_in (nI (5 * k + 1)) n := vp_nI (by omega) (by omega)
  have c2 := nI_clamp (show 5 * k + 2 < 2 ^ 31 by omega)
  have i2 : vp_in (nI (5 * k + 2)) n := vp_nI (by omega) (by omega)
  refine vi_run oL_18a [1342] 60 ?_
  rw [aL_18a_1328]
  simp only [↓reduceIte, vi_go_c, ↓v1_iadd, ↓v1_isub, ↓v1_imul, ↓v1_iand, ↓v1_idiv, ↓v1_irem, ↓v1_ineg, ↓v1_ladd, ↓v1_lsub, ↓v1_land, ↓v1_lcmp, ↓v1_lshl, ↓v1_lshr, ↓v1_i2l, ↓v1_l2i, ↓v1_iconst_0, ↓v1_iconst_m, ↓v1_bipush, ↓v1_sipush, ↓v1_ldc, ↓v1_ldc_w, ↓v1_lconst, ↓v1_ldc2_w, ↓v1_aconst_null, ↓v1_iload, ↓v1_iload_n, ↓v1_lload, ↓v1_lload_n, ↓v1_aload, ↓v1_aload_n, ↓v1_istore, ↓v1_istore_n, ↓v1_lstore, ↓v1_lstore_n, ↓v1_astore, ↓v1_astore_n, ↓v1_iinc, ↓v1_dup, ↓v1_dup2, ↓v1_ifCond_eq, ↓v1_ifCond_ne, ↓v1_ifCond_lt, ↓v1_ifCond_ge, ↓v1_ifCond_gt, ↓v1_ifCond_le, ↓v1_if_icmp_eq, ↓v1_if_icmp_ne, ↓v1_if_icmp_lt, ↓v1_if_icmp_ge, ↓v1_if_icmp_gt, ↓v1_if_icmp_le, ↓v1_if_acmp_ne, ↓v1_ifnull, ↓v1_ifnonnull, ↓v1_goto, ↓v1_tableswitch_0, ↓v1_return_, ↓v1_ireturn, ↓v1_lreturn, ↓v1_areturn, ↓v1_getfield_0, ↓v1_putfield_0, ↓v1_getstatic, ↓v1_iaload, ↓v1_laload, ↓v1_baload, ↓v1_aaload, ↓v1_iastore, ↓v1_lastore, ↓v1_bastore, ↓v1_aastore_0, ↓v1_arraylength, ↓v1_new_0, ↓v1_newarray, ↓v1_anewarray, ↓v1_invokestatic_0, ↓v1_invokestatic_1, ↓v1_invokestatic_2a, ↓v1_invokevirtual_0, ↓v1_invokespecial_0, ↓v1_invokespecial_1a, ↓v1_invokespecial_1b, ↓vi_ii_e, ↓vi_i_e, ↓vi_jj_e, ↓vi_j_e, ↓vi_ij_e, ↓vi_r_e, ↓vi_rr_e, ↓vi_o_e, ↓vi_ir_e, ↓vi_iir_e, ↓vi_jir_e, ↓vi_rir_e, ↓vi_pop_z, ↓vi_pop_s, ↓vi_sw_n, ↓vi_sw_c, ↓vi_li_z, ↓vi_li_s, ↓vi_ll_z, ↓vi_ll_s, ↓vi_lr_z, ↓vi_lr_s, ↓vi_ret_l, ↓vi_ret_r, vi_sv, vg_set1, vg_set2, vg_lo, List.headD, List.contains_nil, List.contains_cons, Bool.or_false, Bool.false_eq_true, if_false, if_true, Nat.reduceAdd, Nat.reduceBEq, List.nil_append, List.cons_append, List.append_nil, Option.toList, Int32.reduceOfNat, Int64.reduceOfNat, reduceCtorEq, Nat.reduceLeDiff, Nat.le_refl, Nat.zero_le, true_and, and_true, false_or, or_false, or_true, true_or, and_self, not_true_eq_false, not_false_eq_true, forall_const, false_implies, true_implies, Sum.inl.injEq, Sum.inr.injEq, Option.some.injEq, eq_self, oI_1, oI_m, oI_5, oI_L, vi_ws_nil, vi_ws_I, vi_ws_J, vi_ws_R, wi_k, wi_n, wi_r, wi_l, wr_k, wr_n, wr_i, wr_l, wl_k, wl_n, wl_i, wl_r, Nat.reduceSub, Nat.reduceMul, cL_18a_1328, aL_18a_1328, mc_169, ms_169, mr_169, mh_169, ml_169, s1, s2]
  intro v1 e1
  rw [show (1 : Int32) = nI 1 from rfl, nI_add] at e1
  subst e1
  refine ⟨i1, fun v2 e2 => ?_⟩
  rw [show (2 : Int32) = nI 2 from rfl, nI_add] at e2
  subst e2
  refine ⟨i2, ?_⟩
  rw [c1, y1, c2, y2]
  have after : ∀ w v S' h1, R w v S' → OV G b S' h w v h1 → vg_A G (MT 169) (uc + 1) (us + 6) 1345 [some (.inr (.inr (some (G.2.2.2.2 4)))), some (.inr (.inr (some b))), some (.inr (.inr (some (b + 37)))), some (.inr (.inr (some (b + 80)))), some (.inl (nI (5 * k))), none, none] [.inl w] h1 Q := by
    intro w v S' h1 hR ce
    have X := hL.clO ce
    obtain ⟨m1, m2, m3, m4, m5, m6⟩ := X
    have row := hL.rowO ce
    have z1 := (row (5 * k + 1)).trans y1
    have z2 := (row (5 * k + 2)).trans y2
    refine vi_run oL_18b [1964] 80 ?_
    rw [aL_18b_1345]
    simp only [↓reduceIte, vi_go_c, ↓v1_iadd, ↓v1_isub, ↓v1_imul, ↓v1_iand, ↓v1_idiv, ↓v1_irem, ↓v1_ineg, ↓v1_ladd, ↓v1_lsub, ↓v1_land, ↓v1_lcmp, ↓v1_lshl, ↓v1_lshr, ↓v1_i2l, ↓v1_l2i, ↓v1_iconst_0, ↓v1_iconst_m, ↓v1_bipush, ↓v1_sipush, ↓v1_ldc, ↓v1_ldc_w, ↓v1_lconst, ↓v1_ldc2_w, ↓v1_aconst_null, ↓v1_iload, ↓v1_iload_n, ↓v1_lload, ↓v1_lload_n, ↓v1_aload, ↓v1_aload_n, ↓v1_istore, ↓v1_istore_n, ↓v1_lstore, ↓v1_lstore_n, ↓v1_astore, ↓v1_astore_n, ↓v1_iinc, ↓v1_dup, ↓v1_dup2, ↓v1_ifCond_eq, ↓v1_ifCond_ne, ↓v1_ifCond_lt, ↓v1_ifCond_ge, ↓v1_ifCond_gt, ↓v1_ifCond_le, ↓v1_if_icmp_eq, ↓v1_if_icmp_ne, ↓v1_if_icmp_lt, ↓v1_if_icmp_ge, ↓v1_if_icmp_gt, ↓v1_if_icmp_le, ↓v1_if_acmp_ne, ↓v1_ifnull, ↓v1_ifnonnull, ↓v1_goto, ↓v1_tableswitch_0, ↓v1_return_, ↓v1_ireturn, ↓v1_lreturn, ↓v1_areturn, ↓v1_getfield_0, ↓v1_putfield_0, ↓v1_getstatic, ↓v1_iaload, ↓v1_laload, ↓v1_baload, ↓v1_aaload, ↓v1_iastore, ↓v1_lastore, ↓v1_bastore, ↓v1_aastore_0, ↓v1_arraylength, ↓v1_new_0, ↓v1_newarray, ↓v1_anewarray, ↓v1_invokestatic_0, ↓v1_invokestatic_1, ↓v1_invokestatic_2a, ↓v1_invokevirtual_0, ↓v1_invokespecial_0, ↓v1_invokespecial_1a, ↓v1_invokespecial_1b, ↓vi_ii_e, ↓vi_i_e, ↓vi_jj_e, ↓vi_j_e, ↓vi_ij_e, ↓vi_r_e, ↓vi_rr_e, ↓vi_o_e, ↓vi_ir_e, ↓vi_iir_e, ↓vi_jir_e, ↓vi_rir_e, ↓vi_pop_z, ↓vi_pop_s, ↓vi_sw_n, ↓vi_sw_c, ↓vi_li_z, ↓vi_li_s, ↓vi_ll_z, ↓vi_ll_s, ↓vi_lr_z, ↓vi_lr_s, ↓vi_ret_l, ↓vi_ret_r, vi_sv, vg_set1, vg_set2, vg_lo, List.headD, List.contains_nil, List.contains_cons, Bool.or_false, Bool.false_eq_true, if_false, if_true, Nat.reduceAdd, Nat.reduceBEq, List.nil_append, List.cons_append, List.append_nil, Option.toList, Int32.reduceOfNat, Int64.reduceOfNat, reduceCtorEq, Nat.reduceLeDiff, Nat.le_refl, Nat.zero_le, true_and, and_true, false_or, or_false, or_true, true_or, and_self, not_true_eq_false, not_false_eq_true, forall_const, false_implies, true_implies, Sum.inl.injEq, Sum.inr.injEq, Option.some.injEq, eq_self, oI_1, oI_m, oI_5, oI_L, vi_ws_nil, vi_ws_I, vi_ws_J, vi_ws_R, wi_k, wi_n, wi_r, wi_l, wr_k, wr_n, wr_i, wr_l, wl_k, wl_n, wl_i, wl_r, Nat.reduceSub, Nat.reduceMul, cL_18b_1345, cL_18b_1376, cL_18b_1393, aL_18b_1345, aL_18b_1376, aL_18b_1393, mc_169, ms_169, mr_169, mh_169, ml_169, mc_101, ms_101, mc_154, ms_154, m4, m5, m6]
    intro v1 e1
    rw [show (1 : Int32) = nI 1 from rfl, nI_add] at e1
    subst e1
    refine ⟨i1, fun v2 e2 => ?_⟩
    rw [show (2 : Int32) = nI 2 from rfl, nI_add] at e2
    subst e2
    refine ⟨i2, ⟨by omega, by omega⟩, ?_⟩
    rw [c1, z1, c2, z2]
    refine (hm w v S' h1 hR m1).mono (fun o h2 q => ?_)
    obtain ⟨r, S2, rfl, mp, hr, of, iv⟩ := q
    unfold cI at hr
    have k1 := mp.mx.1
    simp only [↓reduceIte, vi_go_c, ↓v1_iadd, ↓v1_isub, ↓v1_imul, ↓v1_iand, ↓v1_idiv, ↓v1_irem, ↓v1_ineg, ↓v1_ladd, ↓v1_lsub, ↓v1_land, ↓v1_lcmp, ↓v1_lshl, ↓v1_lshr, ↓v1_i2l, ↓v1_l2i, ↓v1_iconst_0, ↓v1_iconst_m, ↓v1_bipush, ↓v1_sipush, ↓v1_ldc, ↓v1_ldc_w, ↓v1_lconst, ↓v1_ldc2_w, ↓v1_aconst_null, ↓v1_iload, ↓v1_iload_n, ↓v1_lload, ↓v1_lload_n, ↓v1_aload, ↓v1_aload_n, ↓v1_istore, ↓v1_istore_n, ↓v1_lstore, ↓v1_lstore_n, ↓v1_astore, ↓v1_astore_n, ↓v1_iinc, ↓v1_dup, ↓v1_dup2, ↓v1_ifCond_eq, ↓v1_ifCond_ne, ↓v1_ifCond_lt, ↓v1_ifCond_ge, ↓v1_ifCond_gt, ↓v1_ifCond_le, ↓v1_if_icmp_eq, ↓v1_if_icmp_ne, ↓v1_if_icmp_lt, ↓v1_if_icmp_ge, ↓v1_if_icmp_gt, ↓v1_if_icmp_le, ↓v1_if_acmp_ne, ↓v1_ifnull, ↓v1_ifnonnull, ↓v1_goto, ↓v1_tableswitch_0, ↓v1_return_, ↓v1_ireturn, ↓v1_lreturn, ↓v1_areturn, ↓v1_getfield_0, ↓v1_putfield_0, ↓v1_getstatic, ↓v1_iaload, ↓v1_laload, ↓v1_baload, ↓v1_aaload, ↓v1_iastore, ↓v1_lastore, ↓v1_bastore, ↓v1_aastore_0, ↓v1_arraylength, ↓v1_new_0, ↓v1_newarray, ↓v1_anewarray, ↓v1_invokestatic_0, ↓v1_invokestatic_1, ↓v1_invokestatic_2a, ↓v1_invokevirtual_0, ↓v1_invokespecial_0, ↓v1_invokespecial_1a, ↓v1_invokespecial_1b, ↓vi_ii_e, ↓vi_i_e, ↓vi_jj_e, ↓vi_j_e, ↓vi_ij_e, ↓vi_r_e, ↓vi_rr_e, ↓vi_o_e, ↓vi_ir_e, ↓vi_iir_e, ↓vi_jir_e, ↓vi_rir_e, ↓vi_pop_z, ↓vi_pop_s, ↓vi_sw_n, ↓vi_sw_c, ↓vi_li_z, ↓vi_li_s, ↓vi_ll_z, ↓vi_ll_s, ↓vi_lr_z, ↓vi_lr_s, ↓vi_ret_l, ↓vi_ret_r, vi_sv, vg_set1, vg_set2, vg_lo, List.headD, List.contains_nil, List.contains_cons, Bool.or_false, Bool.false_eq_true, if_false, if_true, Nat.reduceAdd, Nat.reduceBEq, List.nil_append, List.cons_append, List.append_nil, Option.toList, Int32.reduceOfNat, Int64.reduceOfNat, reduceCtorEq, Nat.reduceLeDiff, Nat.le_refl, Nat.zero_le, true_and, and_true, false_or, or_false, or_true, true_or, and_self, not_true_eq_false, not_false_eq_true, forall_const, false_implies, true_implies, Sum.inl.injEq, Sum.inr.injEq, Option.some.injEq, eq_self, oI_1, oI_m, oI_5, oI_L, vi_ws_nil, vi_ws_I, vi_ws_J, vi_ws_R, wi_k, wi_n, wi_r, wi_l, wr_k, wr_n, wr_i, wr_l, wl_k, wl_n, wl_i, wl_r, Nat.reduceSub, Nat.reduceMul, cL_18b_1345, cL_18b_1376, cL_18b_1393, aL_18b_1345, aL_18b_1376, aL_18b_1393, mc_169, ms_169, mr_169, mh_169, ml_169, mc_101, ms_101, mc_154, ms_154, k1]
    refine ⟨⟨by omega, by omega⟩, c_154 k1 ?_⟩
    rw [mp.2]
    have o1 : h2.1 (b + 80) = 101 := by rw [mp.1.2.2.1]; exact m2
    have o2 : h2.2.1 (b + 80) = 1 := by rw [mp.1.2.2.2.1]; exact m3
    have o3 : w = 0 → h2.2.2.2.1 (b + 80) 0 = v := fun e => by rw [mp.1.2.2.2.2.2.1]; exact hL.outO ce e
    have fin := hQ S2 h2 (uc + 1) (us + 6) (some (.inl w)) (some (.inl r)) (hL.bothO ce mp of iv) (by omega) (by omega)
    simp only [↓reduceIte, vi_go_c, ↓v1_iadd, ↓v1_isub, ↓v1_imul, ↓v1_iand, ↓v1_idiv, ↓v1_irem, ↓v1_ineg, ↓v1_ladd, ↓v1_lsub, ↓v1_land, ↓v1_lcmp, ↓v1_lshl, ↓v1_lshr, ↓v1_i2l, ↓v1_l2i, ↓v1_iconst_0, ↓v1_iconst_m, ↓v1_bipush, ↓v1_sipush, ↓v1_ldc, ↓v1_ldc_w, ↓v1_lconst, ↓v1_ldc2_w, ↓v1_aconst_null, ↓v1_iload, ↓v1_iload_n, ↓v1_lload, ↓v1_lload_n, ↓v1_aload, ↓v1_aload_n, ↓v1_istore, ↓v1_istore_n, ↓v1_lstore, ↓v1_lstore_n, ↓v1_astore, ↓v1_astore_n, ↓v1_iinc, ↓v1_dup, ↓v1_dup2, ↓v1_ifCond_eq, ↓v1_ifCond_ne, ↓v1_ifCond_lt, ↓v1_ifCond_ge, ↓v1_ifCond_gt, ↓v1_ifCond_le, ↓v1_if_icmp_eq, ↓v1_if_icmp_ne, ↓v1_if_icmp_lt, ↓v1_if_icmp_ge, ↓v1_if_icmp_gt, ↓v1_if_icmp_le, ↓v1_if_acmp_ne, ↓v1_ifnull, ↓v1_ifnonnull, ↓v1_goto, ↓v1_tableswitch_0, ↓v1_return_, ↓v1_ireturn, ↓v1_lreturn, ↓v1_areturn, ↓v1_getfield_0, ↓v1_putfield_0, ↓v1_getstatic, ↓v1_iaload, ↓v1_laload, ↓v1_baload, ↓v1_aaload, ↓v1_iastore, ↓v1_lastore, ↓v1_bastore, ↓v1_aastore_0, ↓v1_arraylength, ↓v1_new_0, ↓v1_newarray, ↓v1_anewarray, ↓v1_invokestatic_0, ↓v1_invokestatic_1, ↓v1_invokestatic_2a, ↓v1_invokevirtual_0, ↓v1_invokespecial_0, ↓v1_invokespecial_1a, ↓v1_invokespecial_1b, ↓vi_ii_e, ↓vi_i_e, ↓vi_jj_e, ↓vi_j_e, ↓vi_ij_e, ↓vi_r_e, ↓vi_rr_e, ↓vi_o_e, ↓vi_ir_e, ↓vi_iir_e, ↓vi_jir_e, ↓vi_rir_e, ↓vi_pop_z, ↓vi_pop_s, ↓vi_sw_n, ↓vi_sw_c, ↓vi_li_z, ↓vi_li_s, ↓vi_ll_z, ↓vi_ll_s, ↓vi_lr_z, ↓vi_lr_s, ↓vi_ret_l, ↓vi_ret_r, vi_sv, vg_set1, vg_set2, vg_lo, List.headD, List.contains_nil, List.contains_cons, Bool.or_false, Bool.false_eq_true, if_false, if_true, Nat.reduceAdd, Nat.reduceBEq, List.nil_append, List.cons_append, List.append_nil, Option.toList, Int32.reduceOfNat, Int64.reduceOfNat, reduceCtorEq, Nat.reduceLeDiff, Nat.le_refl, Nat.zero_le, true_and, and_true, false_or, or_false, or_true, true_or, and_self, not_true_eq_false, not_false_eq_true, forall_const, false_implies, true_implies, Sum.inl.injEq, Sum.inr.injEq, Option.some.injEq, eq_self, oI_1, oI_m, oI_5, oI_L, vi_ws_nil, vi_ws_I, vi_ws_J, vi_ws_R, wi_k, wi_n, wi_r, wi_l, wr_k, wr_n, wr_i, wr_l, wl_k, wl_n, wl_i, wl_r, Nat.reduceSub, Nat.reduceMul, cL_18b_1345, cL_18b_1376, cL_18b_1393, aL_18b_1345, aL_18b_1376, aL_18b_1393, mc_169, ms_169, mr_169, mh_169, ml_169, mc_101, ms_101, mc_154, ms_154, o1, o2]
    refine ⟨fun _ => fin, fun e0 => ⟨vp_nI (i := 0) (by decide) (by decide), ?_⟩⟩
    intro v1 f1 v2 f2
    have e1 : w = 0 := Decidable.not_not.mp e0
    have f3 : v2 = 0 := by rw [f2, f1, hr e1, show h2.2.2.2.1 (b + 80) (Int32.toNatClampNeg 0) = v from o3 e1]; exact lcmp_self v
    exact ⟨fun _ => fin, fun e => absurd f3 e⟩
  refine vr_callSH (N := MT 158) (as := [.inr (.inr (some b)), .inl p1, .inl p2, .inr (.inr (some (b + 80)))]) (st := []) (n := 4) (vg_inW 808 rfl rfl) mh_158 (vg_inW 810 rfl rfl) (vg_inW 49 rfl rfl) (by decide +kernel) (by decide +kernel) (vg_inW 809 rfl rfl) rfl (by decide +kernel) (by simp) ⟨by rw [mc_158, mc_169]; omega, by rw [ms_158, ms_169]; omega⟩ hc (fun v h1 q => ?_) (fun j h1 q => ?_)
  · obtain ⟨w, v', S', q1, q2, q3⟩ := q
    injection q1 with q1
    subst q1
    exact after w v' S' h1 q2 q3
  · obtain ⟨w, v', S', q1, _⟩ := q
    cases q1
theorem hh_18 {p1 p2 κ : Int32} {T : Int64 → SS → Prop} (hL : LI G b n k S h) (hC : vg_C G (MT 11) [.inr (.inr (some b)), .inl p1, .inl p2] h (CO1 0 G b S h κ T cI)) : vg_C G (MT 158) [.inr (.inr (some b)), .inl p1, .inl p2, .inr (.inr (some (b + 80)))] h (fun o h1 => ∃ w v S', o = .inl (some (.inl w)) ∧ RR κ S T w v S' ∧ OV G b S' h w v h1) := by
  have x1 : h.1 b = 10 := by obtain ⟨⟨A, x1, _⟩, _⟩ := hL; exact x1.1.1
  refine c_158 x1 hC (fun v h' q => ?_) (fun j h' q => ?_)
  · rcases q with ⟨r, S', q1, q2, q3, q4⟩ | ⟨q1, _⟩
    · injection q1 with q1
      obtain ⟨_, o1, o2, _⟩ := hL.cl q4
      exact ⟨r, q1, o1, o2, 0, _, S', rfl, Or.inr ⟨q2, rfl, q3⟩, h', q4, Or.inr rfl, fun _ => rfl⟩
    · cases q1
  · rcases q with ⟨r, S', q1, _⟩ | ⟨q1, q2, q3⟩
    · cases q1
    · injection q1 with q1
      exact ⟨q1, 1, 0, S, rfl, Or.inl ⟨by rw [q2]; decide, q2.symm, rfl⟩, h', q3, Or.inl rfl, fun e => absurd e (by decide)⟩
set_option maxRecDepth 100000 in
theorem wk_19 {uc us : Nat} {p1 p2 p3 : Int32} {R : Int32 → Int64 → SS → Prop} (hL : LI G b n k S h) (hk : 5 * k + 5 ≤ n) (hn : n ≤ 2560) (hu : uc ≤ 100 + 10 * k) (hs : us ≤ 400000 + 100 * k) (y1 : h.2.2.1 (G.2.2.2.2 4) (5 * k + 1) = p1) (y2 : h.2.2.1 (G.2.2.2.2 4) (5 * k + 2) = p2) (y3 : h.2.2.1 (G.2.2.2.2 4) (5 * k + 3) = p3) (hQ : ∀ S' h' uc' us' (u v : Option vg_V), LI G b n (k + 1) S' h' → uc' ≤ 100 + 10 * (k + 1) → us' ≤ 400000 + 100 * (k + 1) → vg_A G (MT 169) uc' us' 1964 [some (.inr (.inr (some (G.2.2.2.2 4)))), some (.inr (.inr (some b))), some (.inr (.inr (some (b + 37)))), some (.inr (.inr (some (b + 80)))), some (.inl (nI (5 * k))), u, v] [] h' Q) (hc : vg_C G (MT 164) [.inr (.inr (some b)), .inl p1, .inl p2, .inl p3, .inr (.inr (some (b + 80)))] h (fun o h1 => ∃ w v S', o = .inl (some (.inl w)) ∧ R w v S' ∧ OV G b S' h w v h1)) (hm : ∀ w v S' h1, R w v S' → MX b S h1 → vg_C G (MT 113) [.inr (.inr (some (b + 37))), .inl p1, .inl p2, .inl p3] h1 (PM b k cI w v S' h1)) : vg_A G (MT 169) uc us 1396 [some (.inr (.inr (some (G.2.2.2.2 4)))), some (.inr (.inr (some b))), some (.inr (.inr (some (b + 37)))), some (.inr (.inr (some (b + 80)))), some (.inl (nI (5 * k))), none, none] [] h Q := by
  have s1 := hL.2.2.2.2.2.1
  have s2 := hL.2.2.2.2.2.2
  have c1 := nI_clamp (show 5 * k + 1 < 2 ^ 31 by omega)
  have i1 : vp_in (nI (5 * k + 1)) n := vp_nI (by omega) (by omega)
  have c2 := nI_clamp (show 5 * k + 2 < 2 ^ 31 by omega)
  have i2 : vp_in (nI (5 * k + 2)) n := vp_nI (by omega) (by omega)
  have c3 := nI_clamp (show 5 * k + 3 < 2 ^ 31 by omega)
  have i3 : vp_in (nI (5 * k + 3)) n := vp_nI (by omega) (by omega)
  refine vi_run oL_19a [1416] 60 ?_
  rw [aL_19a_1396]
  simp only [↓reduceIte, vi_go_c, ↓v1_iadd, ↓v1_isub, ↓v1_imul, ↓v1_iand, ↓v1_idiv, ↓v1_irem, ↓v1_ineg, ↓v1_ladd, ↓v1_lsub, ↓v1_land, ↓v1_lcmp, ↓v1_lshl, ↓v1_lshr, ↓v1_i2l, ↓v1_l2i, ↓v1_iconst_0, ↓v1_iconst_m, ↓v1_bipush, ↓v1_sipush, ↓v1_ldc, ↓v1_ldc_w, ↓v1_lconst, ↓v1_ldc2_w, ↓v1_aconst_null, ↓v1_iload, ↓v1_iload_n, ↓v1_lload, ↓v1_lload_n, ↓v1_aload, ↓v1_aload_n, ↓v1_istore, ↓v1_istore_n, ↓v1_lstore, ↓v1_lstore_n, ↓v1_astore, ↓v1_astore_n, ↓v1_iinc, ↓v1_dup, ↓v1_dup2, ↓v1_ifCond_eq, ↓v1_ifCond_ne, ↓v1_ifCond_lt, ↓v1_ifCond_ge, ↓v1_ifCond_gt, ↓v1_ifCond_le, ↓v1_if_icmp_eq, ↓v1_if_icmp_ne, ↓v1_if_icmp_lt, ↓v1_if_icmp_ge, ↓v1_if_icmp_gt, ↓v1_if_icmp_le, ↓v1_if_acmp_ne, ↓v1_ifnull, ↓v1_ifnonnull, ↓v1_goto, ↓v1_tableswitch_0, ↓v1_return_, ↓v1_ireturn, ↓v1_lreturn, ↓v1_areturn, ↓v1_getfield_0, ↓v1_putfield_0, ↓v1_getstatic, ↓v1_iaload, ↓v1_laload, ↓v1_baload, ↓v1_aaload, ↓v1_iastore, ↓v1_lastore, ↓v1_bastore, ↓v1_aastore_0, ↓v1_arraylength, ↓v1_new_0, ↓v1_newarray, ↓v1_anewarray, ↓v1_invokestatic_0, ↓v1_invokestatic_1, ↓v1_invokestatic_2a, ↓v1_invokevirtual_0, ↓v1_invokespecial_0, ↓v1_invokespecial_1a, ↓v1_invokespecial_1b, ↓vi_ii_e, ↓vi_i_e, ↓vi_jj_e, ↓vi_j_e, ↓vi_ij_e, ↓vi_r_e, ↓vi_rr_e, ↓vi_o_e, ↓vi_ir_e, ↓vi_iir_e, ↓vi_jir_e, ↓vi_rir_e, ↓vi_pop_z, ↓vi_pop_s, ↓vi_sw_n, ↓vi_sw_c, ↓vi_li_z, ↓vi_li_s, ↓vi_ll_z, ↓vi_ll_s, ↓vi_lr_z, ↓vi_lr_s, ↓vi_ret_l, ↓vi_ret_r, vi_sv, vg_set1, vg_set2, vg_lo, List.headD, List.contains_nil, List.contains_cons, Bool.or_false, Bool.false_eq_true, if_false, if_true, Nat.reduceAdd, Nat.reduceBEq, List.nil_append, List.cons_append, List.append_nil, Option.toList, Int32.reduceOfNat, Int64.reduceOfNat, reduceCtorEq, Nat.reduceLeDiff, Nat.le_refl, Nat.zero_le, true_and, and_true, false_or, or_false, or_true, true_or, and_self, not_true_eq_false, not_false_eq_true, forall_const, false_implies, true_implies, Sum.inl.injEq, Sum.inr.injEq, Option.some.injEq, eq_self, oI_1, oI_m, oI_5, oI_L, vi_ws_nil, vi_ws_I, vi_ws_J, vi_ws_R, wi_k, wi_n, wi_r, wi_l, wr_k, wr_n, wr_i, wr_l, wl_k, wl_n, wl_i, wl_r, Nat.reduceSub, Nat.reduceMul, cL_19a_1396, aL_19a_1396, mc_169, ms_169, mr_169, mh_169, ml_169, s1, s2]
  intro v1 e1
  rw [show (1 : Int32) = nI 1 from rfl, nI_add] at e1
  subst e1
  refine ⟨i1, fun v2 e2 => ?_⟩
  rw [show (2 : Int32) = nI 2 from rfl, nI_add] at e2
  subst e2
  refine ⟨i2, fun v3 e3 => ?_⟩
  rw [show (3 : Int32) = nI 3 from rfl, nI_add] at e3
  subst e3
  refine ⟨i3, ?_⟩
  rw [c1, y1, c2, y2, c3, y3]
  have after : ∀ w v S' h1, R w v S' → OV G b S' h w v h1 → vg_A G (MT 169) (uc + 2) (us + 12) 1419 [some (.inr (.inr (some (G.2.2.2.2 4)))), some (.inr (.inr (some b))), some (.inr (.inr (some (b + 37)))), some (.inr (.inr (some (b + 80)))), some (.inl (nI (5 * k))), none, none] [.inl w] h1 Q := by
    intro w v S' h1 hR ce
    have X := hL.clO ce
    obtain ⟨m1, m2, m3, m4, m5, m6⟩ := X
    have row := hL.rowO ce
    have z1 := (row (5 * k + 1)).trans y1
    have z2 := (row (5 * k + 2)).trans y2
    have z3 := (row (5 * k + 3)).trans y3
    refine vi_run oL_19b [1964] 80 ?_
    rw [aL_19b_1419]
    simp only [↓reduceIte, vi_go_c, ↓v1_iadd, ↓v1_isub, ↓v1_imul, ↓v1_iand, ↓v1_idiv, ↓v1_irem, ↓v1_ineg, ↓v1_ladd, ↓v1_lsub, ↓v1_land, ↓v1_lcmp, ↓v1_lshl, ↓v1_lshr, ↓v1_i2l, ↓v1_l2i, ↓v1_iconst_0, ↓v1_iconst_m, ↓v1_bipush, ↓v1_sipush, ↓v1_ldc, ↓v1_ldc_w, ↓v1_lconst, ↓v1_ldc2_w, ↓v1_aconst_null, ↓v1_iload, ↓v1_iload_n, ↓v1_lload, ↓v1_lload_n, ↓v1_aload, ↓v1_aload_n, ↓v1_istore, ↓v1_istore_n, ↓v1_lstore, ↓v1_lstore_n, ↓v1_astore, ↓v1_astore_n, ↓v1_iinc, ↓v1_dup, ↓v1_dup2, ↓v1_ifCond_eq, ↓v1_ifCond_ne, ↓v1_ifCond_lt, ↓v1_ifCond_ge, ↓v1_ifCond_gt, ↓v1_ifCond_le, ↓v1_if_icmp_eq, ↓v1_if_icmp_ne, ↓v1_if_icmp_lt, ↓v1_if_icmp_ge, ↓v1_if_icmp_gt, ↓v1_if_icmp_le, ↓v1_if_acmp_ne, ↓v1_ifnull, ↓v1_ifnonnull, ↓v1_goto, ↓v1_tableswitch_0, ↓v1_return_, ↓v1_ireturn, ↓v1_lreturn, ↓v1_areturn, ↓v1_getfield_0, ↓v1_putfield_0, ↓v1_getstatic, ↓v1_iaload, ↓v1_laload, ↓v1_baload, ↓v1_aaload, ↓v1_iastore, ↓v1_lastore, ↓v1_bastore, ↓v1_aastore_0, ↓v1_arraylength, ↓v1_new_0, ↓v1_newarray, ↓v1_anewarray, ↓v1_invokestatic_0, ↓v1_invokestatic_1, ↓v1_invokestatic_2a, ↓v1_invokevirtual_0, ↓v1_invokespecial_0, ↓v1_invokespecial_1a, ↓v1_invokespecial_1b, ↓vi_ii_e, ↓vi_i_e, ↓vi_jj_e, ↓vi_j_e, ↓vi_ij_e, ↓vi_r_e, ↓vi_rr_e, ↓vi_o_e, ↓vi_ir_e, ↓vi_iir_e, ↓vi_jir_e, ↓vi_rir_e, ↓vi_pop_z, ↓vi_pop_s, ↓vi_sw_n, ↓vi_sw_c, ↓vi_li_z, ↓vi_li_s, ↓vi_ll_z, ↓vi_ll_s, ↓vi_lr_z, ↓vi_lr_s, ↓vi_ret_l, ↓vi_ret_r, vi_sv, vg_set1, vg_set2, vg_lo, List.headD, List.contains_nil, List.contains_cons, Bool.or_false, Bool.false_eq_true, if_false, if_true, Nat.reduceAdd, Nat.reduceBEq, List.nil_append, List.cons_append, List.append_nil, Option.toList, Int32.reduceOfNat, Int64.reduceOfNat, reduceCtorEq, Nat.reduceLeDiff, Nat.le_refl, Nat.zero_le, true_and, and_true, false_or, or_false, or_true, true_or, and_self, not_true_eq_false, not_false_eq_true, forall_const, false_implies, true_implies, Sum.inl.injEq, Sum.inr.injEq, Option.some.injEq, eq_self, oI_1, oI_m, oI_5, oI_L, vi_ws_nil, vi_ws_I, vi_ws_J, vi_ws_R, wi_k, wi_n, wi_r, wi_l, wr_k, wr_n, wr_i, wr_l, wl_k, wl_n, wl_i, wl_r, Nat.reduceSub, Nat.reduceMul, cL_19b_1419, cL_19b_1456, cL_19b_1473, aL_19b_1419, aL_19b_1456, aL_19b_1473, mc_169, ms_169, mr_169, mh_169, ml_169, mc_113, ms_113, mc_154, ms_154, m4, m5, m6]
    intro v1 e1
    rw [show (1 : Int32) = nI 1 from rfl, nI_add] at e1
    subst e1
    refine ⟨i1, fun v2 e2 => ?_⟩
    rw [show (2 : Int32) = nI 2 from rfl, nI_add] at e2
    subst e2
    refine ⟨i2, fun v3 e3 => ?_⟩
    rw [show (3 : Int32) = nI 3 from rfl, nI_add] at e3
    subst e3
    refine ⟨i3, ⟨by omega, by omega⟩, ?_⟩
    rw [c1, z1, c2, z2, c3, z3]
    refine (hm w v S' h1 hR m1).mono (fun o h2 q => ?_)
    obtain ⟨r, S2, rfl, mp, hr, of, iv⟩ := q
    unfold cI at hr
    have k1 := mp.mx.1
    simp only [↓reduceIte, vi_go_c, ↓v1_iadd, ↓v1_isub, ↓v1_imul, ↓v1_iand, ↓v1_idiv, ↓v1_irem, ↓v1_ineg, ↓v1_ladd, ↓v1_lsub, ↓v1_land, ↓v1_lcmp, ↓v1_lshl, ↓v1_lshr, ↓v1_i2l, ↓v1_l2i, ↓v1_iconst_0, ↓v1_iconst_m, ↓v1_bipush, ↓v1_sipush, ↓v1_ldc, ↓v1_ldc_w, ↓v1_lconst, ↓v1_ldc2_w, ↓v1_aconst_null, ↓v1_iload, ↓v1_iload_n, ↓v1_lload, ↓v1_lload_n, ↓v1_aload, ↓v1_aload_n, ↓v1_istore, ↓v1_istore_n, ↓v1_lstore, ↓v1_lstore_n, ↓v1_astore, ↓v1_astore_n, ↓v1_iinc, ↓v1_dup, ↓v1_dup2, ↓v1_ifCond_eq, ↓v1_ifCond_ne, ↓v1_ifCond_lt, ↓v1_ifCond_ge, ↓v1_ifCond_gt, ↓v1_ifCond_le, ↓v1_if_icmp_eq, ↓v1_if_icmp_ne, ↓v1_if_icmp_lt, ↓v1_if_icmp_ge, ↓v1_if_icmp_gt, ↓v1_if_icmp_le, ↓v1_if_acmp_ne, ↓v1_ifnull, ↓v1_ifnonnull, ↓v1_goto, ↓v1_tableswitch_0, ↓v1_return_, ↓v1_ireturn, ↓v1_lreturn, ↓v1_areturn, ↓v1_getfield_0, ↓v1_putfield_0, ↓v1_getstatic, ↓v1_iaload, ↓v1_laload, ↓v1_baload, ↓v1_aaload, ↓v1_iastore, ↓v1_lastore, ↓v1_bastore, ↓v1_aastore_0, ↓v1_arraylength, ↓v1_new_0, ↓v1_newarray, ↓v1_anewarray, ↓v1_invokestatic_0, ↓v1_invokestatic_1, ↓v1_invokestatic_2a, ↓v1_invokevirtual_0, ↓v1_invokespecial_0, ↓v1_invokespecial_1a, ↓v1_invokespecial_1b, ↓vi_ii_e, ↓vi_i_e, ↓vi_jj_e, ↓vi_j_e, ↓vi_ij_e, ↓vi_r_e, ↓vi_rr_e, ↓vi_o_e, ↓vi_ir_e, ↓vi_iir_e, ↓vi_jir_e, ↓vi_rir_e, ↓vi_pop_z, ↓vi_pop_s, ↓vi_sw_n, ↓vi_sw_c, ↓vi_li_z, ↓vi_li_s, ↓vi_ll_z, ↓vi_ll_s, ↓vi_lr_z, ↓vi_lr_s, ↓vi_ret_l, ↓vi_ret_r, vi_sv, vg_set1, vg_set2, vg_lo, List.headD, List.contains_nil, List.contains_cons, Bool.or_false, Bool.false_eq_true, if_false, if_true, Nat.reduceAdd, Nat.reduceBEq, List.nil_append, List.cons_append, List.append_nil, Option.toList, Int32.reduceOfNat, Int64.reduceOfNat, reduceCtorEq, Nat.reduceLeDiff, Nat.le_refl, Nat.zero_le, true_and, and_true, false_or, or_false, or_true, true_or, and_self, not_true_eq_false, not_false_eq_true, forall_const, false_implies, true_implies, Sum.inl.injEq, Sum.inr.injEq, Option.some.injEq, eq_self, oI_1, oI_m, oI_5, oI_L, vi_ws_nil, vi_ws_I, vi_ws_J, vi_ws_R, wi_k, wi_n, wi_r, wi_l, wr_k, wr_n, wr_i, wr_l, wl_k, wl_n, wl_i, wl_r, Nat.reduceSub, Nat.reduceMul, cL_19b_1419, cL_19b_1456, cL_19b_1473, aL_19b_1419, aL_19b_1456, aL_19b_1473, mc_169, ms_169, mr_169, mh_169, ml_169, mc_113, ms_113, mc_154, ms_154, k1]
    refine ⟨⟨by omega, by omega⟩, c_154 k1 ?_⟩
    rw [mp.2]
    have o1 : h2.1 (b + 80) = 101 := by rw [mp.1.2.2.1]; exact m2
    have o2 : h2.2.1 (b + 80) = 1 := by rw [mp.1.2.2.2.1]; exact m3
    have o3 : w = 0 → h2.2.2.2.1 (b + 80) 0 = v := fun e => by rw [mp.1.2.2.2.2.2.1]; exact hL.outO ce e
    have fin := hQ S2 h2 (uc + 2) (us + 12) (some (.inl w)) (some (.inl r)) (hL.bothO ce mp of iv) (by omega) (by omega)
    simp only [↓reduceIte, vi_go_c, ↓v1_iadd, ↓v1_isub, ↓v1_imul, ↓v1_iand, ↓v1_idiv, ↓v1_irem, ↓v1_ineg, ↓v1_ladd, ↓v1_lsub, ↓v1_land, ↓v1_lcmp, ↓v1_lshl, ↓v1_lshr, ↓v1_i2l, ↓v1_l2i, ↓v1_iconst_0, ↓v1_iconst_m, ↓v1_bipush, ↓v1_sipush, ↓v1_ldc, ↓v1_ldc_w, ↓v1_lconst, ↓v1_ldc2_w, ↓v1_aconst_null, ↓v1_iload, ↓v1_iload_n, ↓v1_lload, ↓v1_lload_n, ↓v1_aload, ↓v1_aload_n, ↓v1_istore, ↓v1_istore_n, ↓v1_lstore, ↓v1_lstore_n, ↓v1_astore, ↓v1_astore_n, ↓v1_iinc, ↓v1_dup, ↓v1_dup2, ↓v1_ifCond_eq, ↓v1_ifCond_ne, ↓v1_ifCond_lt, ↓v1_ifCond_ge, ↓v1_ifCond_gt, ↓v1_ifCond_le, ↓v1_if_icmp_eq, ↓v1_if_icmp_ne, ↓v1_if_icmp_lt, ↓v1_if_icmp_ge, ↓v1_if_icmp_gt, ↓v1_if_icmp_le, ↓v1_if_acmp_ne, ↓v1_ifnull, ↓v1_ifnonnull, ↓v1_goto, ↓v1_tableswitch_0, ↓v1_return_, ↓v1_ireturn, ↓v1_lreturn, ↓v1_areturn, ↓v1_getfield_0, ↓v1_putfield_0, ↓v1_getstatic, ↓v1_iaload, ↓v1_laload, ↓v1_baload, ↓v1_aaload, ↓v1_iastore, ↓v1_lastore, ↓v1_bastore, ↓v1_aastore_0, ↓v1_arraylength, ↓v1_new_0, ↓v1_newarray, ↓v1_anewarray, ↓v1_invokestatic_0, ↓v1_invokestatic_1, ↓v1_invokestatic_2a, ↓v1_invokevirtual_0, ↓v1_invokespecial_0, ↓v1_invokespecial_1a, ↓v1_invokespecial_1b, ↓vi_ii_e, ↓vi_i_e, ↓vi_jj_e, ↓vi_j_e, ↓vi_ij_e, ↓vi_r_e, ↓vi_rr_e, ↓vi_o_e, ↓vi_ir_e, ↓vi_iir_e, ↓vi_jir_e, ↓vi_rir_e, ↓vi_pop_z, ↓vi_pop_s, ↓vi_sw_n, ↓vi_sw_c, ↓vi_li_z, ↓vi_li_s, ↓vi_ll_z, ↓vi_ll_s, ↓vi_lr_z, ↓vi_lr_s, ↓vi_ret_l, ↓vi_ret_r, vi_sv, vg_set1, vg_set2, vg_lo, List.headD, List.contains_nil, List.contains_cons, Bool.or_false, Bool.false_eq_true, if_false, if_true, Nat.reduceAdd, Nat.reduceBEq, List.nil_append, List.cons_append, List.append_nil, Option.toList, Int32.reduceOfNat, Int64.reduceOfNat, reduceCtorEq, Nat.reduceLeDiff, Nat.le_refl, Nat.zero_le, true_and, and_true, false_or, or_false, or_true, true_or, and_self, not_true_eq_false, not_false_eq_true, forall_const, false_implies, true_implies, Sum.inl.injEq, Sum.inr.injEq, Option.some.injEq, eq_self, oI_1, oI_m, oI_5, oI_L, vi_ws_nil, vi_ws_I, vi_ws_J, vi_ws_R, wi_k, wi_n, wi_r, wi_l, wr_k, wr_n, wr_i, wr_l, wl_k, wl_n, wl_i, wl_r, Nat.reduceSub, Nat.reduceMul, cL_19b_1419, cL_19b_1456, cL_19b_1473, aL_19b_1419, aL_19b_1456, aL_19b_1473, mc_169, ms_169, mr_169, mh_169, ml_169, mc_113, ms_113, mc_154, ms_154, o1, o2]
    refine ⟨fun _ => fin, fun e0 => ⟨vp_nI (i := 0) (by decide) (by decide), ?_⟩⟩
    intro v1 f1 v2 f2
    have e1 : w = 0 := Decidable.not_not.mp e0
    have f3 : v2 = 0 := by rw [f2, f1, hr e1, show h2.2.2.2.1 (b + 80) (Int32.toNatClampNeg 0) = v from o3 e1]; exact lcmp_self v
    exact ⟨fun _ => fin, fun e => absurd f3 e⟩
  refine vr_callSH (N := MT 164) (as := [.inr (.inr (some b)), .inl p1, .inl p2, .inl p3, .inr (.inr (some (b + 80)))]) (st := []) (n := 5) (vg_inW 815 rfl rfl) mh_164 (vg_inW 817 rfl rfl) (vg_inW 49 rfl rfl) (by decide +kernel) (by decide +kernel) (vg_inW 816 rfl rfl) rfl (by decide +kernel) (by simp) ⟨by rw [mc_164, mc_169]; omega, by rw [ms_164, ms_169]; omega⟩ hc (fun v h1 q => ?_) (fun j h1 q => ?_)
  · obtain ⟨w, v', S', q1, q2, q3⟩ := q
    injection q1 with q1
    subst q1
    exact after w v' S' h1 q2 q3
  · obtain ⟨w, v', S', q1, _⟩ := q
    cases q1
theorem hh_19 {p1 p2 p3 κ : Int32} {T : Int64 → SS → Prop} (hL : LI G b n k S h) (hC : vg_C G (MT 21) [.inr (.inr (some b)), .inl p1, .inl p2, .inl p3] h (CO G b S h κ T cI)) : vg_C G (MT 164) [.inr (.inr (some b)), .inl p1, .inl p2, .inl p3, .inr (.inr (some (b + 80)))] h (fun o h1 => ∃ w v S', o = .inl (some (.inl w)) ∧ RR κ S T w v S' ∧ OV G b S' h w v h1) := by
  have x1 : h.1 b = 10 := by obtain ⟨⟨A, x1, _⟩, _⟩ := hL; exact x1.1.1
  refine c_164 x1 hC (fun v h' q => ?_) (fun j h' q => ?_)
  · rcases q with ⟨r, S', q1, q2, q3, q4⟩ | ⟨q1, _⟩ | ⟨q1, _⟩
    · injection q1 with q1
      obtain ⟨_, o1, o2, _⟩ := hL.cl q4
      exact ⟨r, q1, o1, o2, 0, _, S', rfl, Or.inr ⟨q2, rfl, q3⟩, h', q4, Or.inr rfl, fun _ => rfl⟩
    · cases q1
    · cases q1
  · rcases q with ⟨r, S', q1, _⟩ | ⟨q1, q2, q3⟩ | ⟨q1, q2, q3⟩
    · cases q1
    · injection q1 with q1
      exact Or.inl ⟨q1, 1, 0, S, rfl, Or.inl ⟨by rw [q2]; decide, q2.symm, rfl⟩, h', q3, Or.inl rfl, fun e => absurd e (by decide)⟩
    · injection q1 with q1
      exact Or.inr ⟨q1, 2, 0, S, rfl, Or.inl ⟨by rw [q2]; decide, q2.symm, rfl⟩, h', q3, Or.inl rfl, fun e => absurd e (by decide)⟩
set_option maxRecDepth 100000 in
theorem wk_20 {uc us : Nat} {p1 p2 : Int32} {R : Int32 → Int64 → SS → Prop} (hL : LI G b n k S h) (hk : 5 * k + 5 ≤ n) (hn : n ≤ 2560) (hu : uc ≤ 100 + 10 * k) (hs : us ≤ 400000 + 100 * k) (y1 : h.2.2.1 (G.2.2.2.2 4) (5 * k + 1) = p1) (y2 : h.2.2.1 (G.2.2.2.2 4) (5 * k + 2) = p2) (hQ : ∀ S' h' uc' us' (u v : Option vg_V), LI G b n (k + 1) S' h' → uc' ≤ 100 + 10 * (k + 1) → us' ≤ 400000 + 100 * (k + 1) → vg_A G (MT 169) uc' us' 1964 [some (.inr (.inr (some (G.2.2.2.2 4)))), some (.inr (.inr (some b))), some (.inr (.inr (some (b + 37)))), some (.inr (.inr (some (b + 80)))), some (.inl (nI (5 * k))), u, v] [] h' Q) (hc : vg_C G (MT 156) [.inr (.inr (some b)), .inl p1, .inl p2, .inr (.inr (some (b + 80)))] h (fun o h1 => ∃ w v S', o = .inl (some (.inl w)) ∧ R w v S' ∧ OV G b S' h w v h1)) (hm : ∀ w v S' h1, R w v S' → MX b S h1 → vg_C G (MT 98) [.inr (.inr (some (b + 37))), .inl p1, .inl p2] h1 (PM b k cI w v S' h1)) : vg_A G (MT 169) uc us 1476 [some (.inr (.inr (some (G.2.2.2.2 4)))), some (.inr (.inr (some b))), some (.inr (.inr (some (b + 37)))), some (.inr (.inr (some (b + 80)))), some (.inl (nI (5 * k))), none, none] [] h Q := by
  have s1 := hL.2.2.2.2.2.1
  have s2 := hL.2.2.2.2.2.2
  have c1 := nI_clamp (show 5 * k + 1 < 2 ^ 31 by omega)
  have i1 : vp_in (nI (5 * k + 1)) n := vp_nI (by omega) (by omega)
  have c2 := nI_clamp (show 5 * k + 2 < 2 ^ 31 by omega)
  have i2 : vp_in (nI (5 * k + 2)) n := vp_nI (by omega) (by omega)
  refine vi_run oL_20a [1490] 60 ?_
  rw [aL_20a_1476]
  simp only [↓reduceIte, vi_go_c, ↓v1_iadd, ↓v1_isub, ↓v1_imul, ↓v1_iand, ↓v1_idiv, ↓v1_irem, ↓v1_ineg, ↓v1_ladd, ↓v1_lsub, ↓v1_land, ↓v1_lcmp, ↓v1_lshl, ↓v1_lshr, ↓v1_i2l, ↓v1_l2i, ↓v1_iconst_0, ↓v1_iconst_m, ↓v1_bipush, ↓v1_sipush, ↓v1_ldc, ↓v1_ldc_w, ↓v1_lconst, ↓v1_ldc2_w, ↓v1_aconst_null, ↓v1_iload, ↓v1_iload_n, ↓v1_lload, ↓v1_lload_n, ↓v1_aload, ↓v1_aload_n, ↓v1_istore, ↓v1_istore_n, ↓v1_lstore, ↓v1_lstore_n, ↓v1_astore, ↓v1_astore_n, ↓v1_iinc, ↓v1_dup, ↓v1_dup2, ↓v1_ifCond_eq, ↓v1_ifCond_ne, ↓v1_ifCond_lt, ↓v1_ifCond_ge, ↓v1_ifCond_gt, ↓v1_ifCond_le, ↓v1_if_icmp_eq, ↓v1_if_icmp_ne, ↓v1_if_icmp_lt, ↓v1_if_icmp_ge, ↓v1_if_icmp_gt, ↓v1_if_icmp_le, ↓v1_if_acmp_ne, ↓v1_ifnull, ↓v1_ifnonnull, ↓v1_goto, ↓v1_tableswitch_0, ↓v1_return_, ↓v1_ireturn, ↓v1_lreturn, ↓v1_areturn, ↓v1_getfield_0, ↓v1_putfield_0, ↓v1_getstatic, ↓v1_iaload, ↓v1_laload, ↓v1_baload, ↓v1_aaload, ↓v1_iastore, ↓v1_lastore, ↓v1_bastore, ↓v1_aastore_0, ↓v1_arraylength, ↓v1_new_0, ↓v1_newarray, ↓v1_anewarray, ↓v1_invokestatic_0, ↓v1_invokestatic_1, ↓v1_invokestatic_2a, ↓v1_invokevirtual_0, ↓v1_invokespecial_0, ↓v1_invokespecial_1a, ↓v1_invokespecial_1b, ↓vi_ii_e, ↓vi_i_e, ↓vi_jj_e, ↓vi_j_e, ↓vi_ij_e, ↓vi_r_e, ↓vi_rr_e, ↓vi_o_e, ↓vi_ir_e, ↓vi_iir_e, ↓vi_jir_e, ↓vi_rir_e, ↓vi_pop_z, ↓vi_pop_s, ↓vi_sw_n, ↓vi_sw_c, ↓vi_li_z, ↓vi_li_s, ↓vi_ll_z, ↓vi_ll_s, ↓vi_lr_z, ↓vi_lr_s, ↓vi_ret_l, ↓vi_ret_r, vi_sv, vg_set1, vg_set2, vg_lo, List.headD, List.contains_nil, List.contains_cons, Bool.or_false, Bool.false_eq_true, if_false, if_true, Nat.reduceAdd, Nat.reduceBEq, List.nil_append, List.cons_append, List.append_nil, Option.toList, Int32.reduceOfNat, Int64.reduceOfNat, reduceCtorEq, Nat.reduceLeDiff, Nat.le_refl, Nat.zero_le, true_and, and_true, false_or, or_false, or_true, true_or, and_self, not_true_eq_false, not_false_eq_true, forall_const, false_implies, true_implies, Sum.inl.injEq, Sum.inr.injEq, Option.some.injEq, eq_self, oI_1, oI_m, oI_5, oI_L, vi_ws_nil, vi_ws_I, vi_ws_J, vi_ws_R, wi_k, wi_n, wi_r, wi_l, wr_k, wr_n, wr_i, wr_l, wl_k, wl_n, wl_i, wl_r, Nat.reduceSub, Nat.reduceMul, cL_20a_1476, aL_20a_1476, mc_169, ms_169, mr_169, mh_169, ml_169, s1, s2]
  intro v1 e1
  rw [show (1 : Int32) = nI 1 from rfl, nI_add] at e1
  subst e1
  refine ⟨i1, fun v2 e2 => ?_⟩
  rw [show (2 : Int32) = nI 2 from rfl, nI_add] at e2
  subst e2
  refine ⟨i2, ?_⟩
  rw [c1, y1, c2, y2]
  have after : ∀ w v S' h1, R w v S' → OV G b S' h w v h1 → vg_A G (MT 169) (uc + 1) (us + 6) 1493 [some (.inr (.inr (some (G.2.2.2.2 4)))), some (.inr (.inr (some b))), some (.inr (.inr (some (b + 37)))), some (.inr (.inr (some (b + 80)))), some (.inl (nI (5 * k))), none, none] [.inl w] h1 Q := by
    intro w v S' h1 hR ce
    have X := hL.clO ce
    obtain ⟨m1, m2, m3, m4, m5, m6⟩ := X
    have row := hL.rowO ce
    have z1 := (row (5 * k + 1)).trans y1
    have z2 := (row (5 * k + 2)).trans y2
    refine vi_run oL_20b [1964] 80 ?_
    rw [aL_20b_1493]
    simp only [↓reduceIte, vi_go_c, ↓v1_iadd, ↓v1_isub, ↓v1_imul, ↓v1_iand, ↓v1_idiv, ↓v1_irem, ↓v1_ineg, ↓v1_ladd, ↓v1_lsub, ↓v1_land, ↓v1_lcmp, ↓v1_lshl, ↓v1_lshr, ↓v1_i2l, ↓v1_l2i, ↓v1_iconst_0, ↓v1_iconst_m, ↓v1_bipush, ↓v1_sipush, ↓v1_ldc, ↓v1_ldc_w, ↓v1_lconst, ↓v1_ldc2_w, ↓v1_aconst_null, ↓v1_iload, ↓v1_iload_n, ↓v1_lload, ↓v1_lload_n, ↓v1_aload, ↓v1_aload_n, ↓v1_istore, ↓v1_istore_n, ↓v1_lstore, ↓v1_lstore_n, ↓v1_astore, ↓v1_astore_n, ↓v1_iinc, ↓v1_dup, ↓v1_dup2, ↓v1_ifCond_eq, ↓v1_ifCond_ne, ↓v1_ifCond_lt, ↓v1_ifCond_ge, ↓v1_ifCond_gt, ↓v1_ifCond_le, ↓v1_if_icmp_eq, ↓v1_if_icmp_ne, ↓v1_if_icmp_lt, ↓v1_if_icmp_ge, ↓v1_if_icmp_gt, ↓v1_if_icmp_le, ↓v1_if_acmp_ne, ↓v1_ifnull, ↓v1_ifnonnull, ↓v1_goto, ↓v1_tableswitch_0, ↓v1_return_, ↓v1_ireturn, ↓v1_lreturn, ↓v1_areturn, ↓v1_getfield_0, ↓v1_putfield_0, ↓v1_getstatic, ↓v1_iaload, ↓v1_laload, ↓v1_baload, ↓v1_aaload, ↓v1_iastore, ↓v1_lastore, ↓v1_bastore, ↓v1_aastore_0, ↓v1_arraylength, ↓v1_new_0, ↓v1_newarray, ↓v1_anewarray, ↓v1_invokestatic_0, ↓v1_invokestatic_1, ↓v1_invokestatic_2a, ↓v1_invokevirtual_0, ↓v1_invokespecial_0, ↓v1_invokespecial_1a, ↓v1_invokespecial_1b, ↓vi_ii_e, ↓vi_i_e, ↓vi_jj_e, ↓vi_j_e, ↓vi_ij_e, ↓vi_r_e, ↓vi_rr_e, ↓vi_o_e, ↓vi_ir_e, ↓vi_iir_e, ↓vi_jir_e, ↓vi_rir_e, ↓vi_pop_z, ↓vi_pop_s, ↓vi_sw_n, ↓vi_sw_c, ↓vi_li_z, ↓vi_li_s, ↓vi_ll_z, ↓vi_ll_s, ↓vi_lr_z, ↓vi_lr_s, ↓vi_ret_l, ↓vi_ret_r, vi_sv, vg_set1, vg_set2, vg_lo, List.headD, List.contains_nil, List.contains_cons, Bool.or_false, Bool.false_eq_true, if_false, if_true, Nat.reduceAdd, Nat.reduceBEq, List.nil_append, List.cons_append, List.append_nil, Option.toList, Int32.reduceOfNat, Int64.reduceOfNat, reduceCtorEq, Nat.reduceLeDiff, Nat.le_refl, Nat.zero_le, true_and, and_true, false_or, or_false, or_true, true_or, and_self, not_true_eq_false, not_false_eq_true, forall_const, false_implies, true_implies, Sum.inl.injEq, Sum.inr.injEq, Option.some.injEq, eq_self, oI_1, oI_m, oI_5, oI_L, vi_ws_nil, vi_ws_I, vi_ws_J, vi_ws_R, wi_k, wi_n, wi_r, wi_l, wr_k, wr_n, wr_i, wr_l, wl_k, wl_n, wl_i, wl_r, Nat.reduceSub, Nat.reduceMul, cL_20b_1493, cL_20b_1524, cL_20b_1541, aL_20b_1493, aL_20b_1524, aL_20b_1541, mc_169, ms_169, mr_169, mh_169, ml_169, mc_98, ms_98, mc_154, ms_154, m4, m5, m6]
    intro v1 e1
    rw [show (1 : Int32) = nI 1 from rfl, nI_add] at e1
    subst e1
    refine ⟨i1, fun v2 e2 => ?_⟩
    rw [show (2 : Int32) = nI 2 from rfl, nI_add] at e2
    subst e2
    refine ⟨i2, ⟨by omega, by omega⟩, ?_⟩
    rw [c1, z1, c2, z2]
    refine (hm w v S' h1 hR m1).mono (fun o h2 q => ?_)
    obtain ⟨r, S2, rfl, mp, hr, of, iv⟩ := q
    unfold cI at hr
    have k1 := mp.mx.1
    simp only [↓reduceIte, vi_go_c, ↓v1_iadd, ↓v1_isub, ↓v1_imul, ↓v1_iand, ↓v1_idiv, ↓v1_irem, ↓v1_ineg, ↓v1_ladd, ↓v1_lsub, ↓v1_land, ↓v1_lcmp, ↓v1_lshl, ↓v1_lshr, ↓v1_i2l, ↓v1_l2i, ↓v1_iconst_0, ↓v1_iconst_m, ↓v1_bipush, ↓v1_sipush, ↓v1_ldc, ↓v1_ldc_w, ↓v1_lconst, ↓v1_ldc2_w, ↓v1_aconst_null, ↓v1_iload, ↓v1_iload_n, ↓v1_lload, ↓v1_lload_n, ↓v1_aload, ↓v1_aload_n, ↓v1_istore, ↓v1_istore_n, ↓v1_lstore, ↓v1_lstore_n, ↓v1_astore, ↓v1_astore_n, ↓v1_iinc, ↓v1_dup, ↓v1_dup2, ↓v1_ifCond_eq, ↓v1_ifCond_ne, ↓v1_ifCond_lt, ↓v1_ifCond_ge, ↓v1_ifCond_gt, ↓v1_ifCond_le, ↓v1_if_icmp_eq, ↓v1_if_icmp_ne, ↓v1_if_icmp_lt, ↓v1_if_icmp_ge, ↓v1_if_icmp_gt, ↓v1_if_icmp_le, ↓v1_if_acmp_ne, ↓v1_ifnull, ↓v1_ifnonnull, ↓v1_goto, ↓v1_tableswitch_0, ↓v1_return_, ↓v1_ireturn, ↓v1_lreturn, ↓v1_areturn, ↓v1_getfield_0, ↓v1_putfield_0, ↓v1_getstatic, ↓v1_iaload, ↓v1_laload, ↓v1_baload, ↓v1_aaload, ↓v1_iastore, ↓v1_lastore, ↓v1_bastore, ↓v1_aastore_0, ↓v1_arraylength, ↓v1_new_0, ↓v1_newarray, ↓v1_anewarray, ↓v1_invokestatic_0, ↓v1_invokestatic_1, ↓v1_invokestatic_2a, ↓v1_invokevirtual_0, ↓v1_invokespecial_0, ↓v1_invokespecial_1a, ↓v1_invokespecial_1b, ↓vi_ii_e, ↓vi_i_e, ↓vi_jj_e, ↓vi_j_e, ↓vi_ij_e, ↓vi_r_e, ↓vi_rr_e, ↓vi_o_e, ↓vi_ir_e, ↓vi_iir_e, ↓vi_jir_e, ↓vi_rir_e, ↓vi_pop_z, ↓vi_pop_s, ↓vi_sw_n, ↓vi_sw_c, ↓vi_li_z, ↓vi_li_s, ↓vi_ll_z, ↓vi_ll_s, ↓vi_lr_z, ↓vi_lr_s, ↓vi_ret_l, ↓vi_ret_r, vi_sv, vg_set1, vg_set2, vg_lo, List.headD, List.contains_nil, List.contains_cons, Bool.or_false, Bool.false_eq_true, if_false, if_true, Nat.reduceAdd, Nat.reduceBEq, List.nil_append, List.cons_append, List.append_nil, Option.toList, Int32.reduceOfNat, Int64.reduceOfNat, reduceCtorEq, Nat.reduceLeDiff, Nat.le_refl, Nat.zero_le, true_and, and_true, false_or, or_false, or_true, true_or, and_self, not_true_eq_false, not_false_eq_true, forall_const, false_implies, true_implies, Sum.inl.injEq, Sum.inr.injEq, Option.some.injEq, eq_self, oI_1, oI_m, oI_5, oI_L, vi_ws_nil, vi_ws_I, vi_ws_J, vi_ws_R, wi_k, wi_n, wi_r, wi_l, wr_k, wr_n, wr_i, wr_l, wl_k, wl_n, wl_i, wl_r, Nat.reduceSub, Nat.reduceMul, cL_20b_1493, cL_20b_1524, cL_20b_1541, aL_20b_1493, aL_20b_1524, aL_20b_1541, mc_169, ms_169, mr_169, mh_169, ml_169, mc_98, ms_98, mc_154, ms_154, k1]
    refine ⟨⟨by omega, by omega⟩, c_154 k1 ?_⟩
    rw [mp.2]
    have o1 : h2.1 (b + 80) = 101 := by rw [mp.1.2.2.1]; exact m2
    have o2 : h2.2.1 (b + 80) = 1 := by rw [mp.1.2.2.2.1]; exact m3
    have o3 : w = 0 → h2.2.2.2.1 (b + 80) 0 = v := fun e => by rw [mp.1.2.2.2.2.2.1]; exact hL.outO ce e
    have fin := hQ S2 h2 (uc + 1) (us + 6) (some (.inl w)) (some (.inl r)) (hL.bothO ce mp of iv) (by omega) (by omega)
    simp only [↓reduceIte, vi_go_c, ↓v1_iadd, ↓v1_isub, ↓v1_imul, ↓v1_iand, ↓v1_idiv, ↓v1_irem, ↓v1_ineg, ↓v1_ladd, ↓v1_lsub, ↓v1_land, ↓v1_lcmp, ↓v1_lshl, ↓v1_lshr, ↓v1_i2l, ↓v1_l2i, ↓v1_iconst_0, ↓v1_iconst_m, ↓v1_bipush, ↓v1_sipush, ↓v1_ldc, ↓v1_ldc_w, ↓v1_lconst, ↓v1_ldc2_w, ↓v1_aconst_null, ↓v1_iload, ↓v1_iload_n, ↓v1_lload, ↓v1_lload_n, ↓v1_aload, ↓v1_aload_n, ↓v1_istore, ↓v1_istore_n, ↓v1_lstore, ↓v1_lstore_n, ↓v1_astore, ↓v1_astore_n, ↓v1_iinc, ↓v1_dup, ↓v1_dup2, ↓v1_ifCond_eq, ↓v1_ifCond_ne, ↓v1_ifCond_lt, ↓v1_ifCond_ge, ↓v1_ifCond_gt, ↓v1_ifCond_le, ↓v1_if_icmp_eq, ↓v1_if_icmp_ne, ↓v1_if_icmp_lt, ↓v1_if_icmp_ge, ↓v1_if_icmp_gt, ↓v1_if_icmp_le, ↓v1_if_acmp_ne, ↓v1_ifnull, ↓v1_ifnonnull, ↓v1_goto, ↓v1_tableswitch_0, ↓v1_return_, ↓v1_ireturn, ↓v1_lreturn, ↓v1_areturn, ↓v1_getfield_0, ↓v1_putfield_0, ↓v1_getstatic, ↓v1_iaload, ↓v1_laload, ↓v1_baload, ↓v1_aaload, ↓v1_iastore, ↓v1_lastore, ↓v1_bastore, ↓v1_aastore_0, ↓v1_arraylength, ↓v1_new_0, ↓v1_newarray, ↓v1_anewarray, ↓v1_invokestatic_0, ↓v1_invokestatic_1, ↓v1_invokestatic_2a, ↓v1_invokevirtual_0, ↓v1_invokespecial_0, ↓v1_invokespecial_1a, ↓v1_invokespecial_1b, ↓vi_ii_e, ↓vi_i_e, ↓vi_jj_e, ↓vi_j_e, ↓vi_ij_e, ↓vi_r_e, ↓vi_rr_e, ↓vi_o_e, ↓vi_ir_e, ↓vi_iir_e, ↓vi_jir_e, ↓vi_rir_e, ↓vi_pop_z, ↓vi_pop_s, ↓vi_sw_n, ↓vi_sw_c, ↓vi_li_z, ↓vi_li_s, ↓vi_ll_z, ↓vi_ll_s, ↓vi_lr_z, ↓vi_lr_s, ↓vi_ret_l, ↓vi_ret_r, vi_sv, vg_set1, vg_set2, vg_lo, List.headD, List.contains_nil, List.contains_cons, Bool.or_false, Bool.false_eq_true, if_false, if_true, Nat.reduceAdd, Nat.reduceBEq, List.nil_append, List.cons_append, List.append_nil, Option.toList, Int32.reduceOfNat, Int64.reduceOfNat, reduceCtorEq, Nat.reduceLeDiff, Nat.le_refl, Nat.zero_le, true_and, and_true, false_or, or_false, or_true, true_or, and_self, not_true_eq_false, not_false_eq_true, forall_const, false_implies, true_implies, Sum.inl.injEq, Sum.inr.injEq, Option.some.injEq, eq_self, oI_1, oI_m, oI_5, oI_L, vi_ws_nil, vi_ws_I, vi_ws_J, vi_ws_R, wi_k, wi_n, wi_r, wi_l, wr_k, wr_n, wr_i, wr_l, wl_k, wl_n, wl_i, wl_r, Nat.reduceSub, Nat.reduceMul, cL_20b_1493, cL_20b_1524, cL_20b_1541, aL_20b_1493, aL_20b_1524, aL_20b_1541, mc_169, ms_169, mr_169, mh_169, ml_169, mc_98, ms_98, mc_154, ms_154, o1, o2]
    refine ⟨fun _ => fin, fun e0 => ⟨vp_nI (i := 0) (by decide) (by decide), ?_⟩⟩
    intro v1 f1 v2 f2
    have e1 : w = 0 := Decidable.not_not.mp e0
    have f3 : v2 = 0 := by rw [f2, f1, hr e1, show h2.2.2.2.1 (b + 80) (Int32.toNatClampNeg 0) = v from o3 e1]; exact lcmp_self v
    exact ⟨fun _ => fin, fun e => absurd f3 e⟩
  refine vr_callSH (N := MT 156) (as := [.inr (.inr (some b)), .inl p1, .inl p2, .inr (.inr (some (b + 80)))]) (st := []) (n := 4) (vg_inW 822 rfl rfl) mh_156 (vg_inW 824 rfl rfl) (vg_inW 49 rfl rfl) (by decide +kernel) (by decide +kernel) (vg_inW 823 rfl rfl) rfl (by decide +kernel) (by simp) ⟨by rw [mc_156, mc_169]; omega, by rw [ms_156, ms_169]; omega⟩ hc (fun v h1 q => ?_) (fun j h1 q => ?_)
  · obtain ⟨w, v', S', q1, q2, q3⟩ := q
    injection q1 with q1
    subst q1
    exact after w v' S' h1 q2 q3
  · obtain ⟨w, v', S', q1, _⟩ := q
    cases q1
theorem hh_20 {p1 p2 κ : Int32} {T : Int64 → SS → Prop} (hL : LI G b n k S h) (hC : vg_C G (MT 9) [.inr (.inr (some b)), .inl p1, .inl p2] h (CO1 0 G b S h κ T cI)) : vg_C G (MT 156) [.inr (.inr (some b)), .inl p1, .inl p2, .inr (.inr (some (b + 80)))] h (fun o h1 => ∃ w v S', o = .inl (some (.inl w)) ∧ RR κ S T w v S' ∧ OV G b S' h w v h1) := by
  have x1 : h.1 b = 10 := by obtain ⟨⟨A, x1, _⟩, _⟩ := hL; exact x1.1.1
  refine c_156 x1 hC (fun v h' q => ?_) (fun j h' q => ?_)
  · rcases q with ⟨r, S', q1, q2, q3, q4⟩ | ⟨q1, _⟩
    · injection q1 with q1
      obtain ⟨_, o1, o2, _⟩ := hL.cl q4
      exact ⟨r, q1, o1, o2, 0, _, S', rfl, Or.inr ⟨q2, rfl, q3⟩, h', q4, Or.inr rfl, fun _ => rfl⟩
    · cases q1
  · rcases q with ⟨r, S', q1, _⟩ | ⟨q1, q2, q3⟩
    · cases q1
    · injection q1 with q1
      exact ⟨q1, 1, 0, S, rfl, Or.inl ⟨by rw [q2]; decide, q2.symm, rfl⟩, h', q3, Or.inl rfl, fun e => absurd e (by decide)⟩
set_option maxRecDepth 100000 in
theorem wk_21 {uc us : Nat} {p1 : Int32} {R : Int32 → Int64 → SS → Prop} (hL : LI G b n k S h) (hk : 5 * k + 5 ≤ n) (hn : n ≤ 2560) (hu : uc ≤ 100 + 10 * k) (hs : us ≤ 400000 + 100 * k) (y1 : h.2.2.1 (G.2.2.2.2 4) (5 * k + 1) = p1) (hQ : ∀ S' h' uc' us' (u v : Option vg_V), LI G b n (k + 1) S' h' → uc' ≤ 100 + 10 * (k + 1) → us' ≤ 400000 + 100 * (k + 1) → vg_A G (MT 169) uc' us' 1964 [some (.inr (.inr (some (G.2.2.2.2 4)))), some (.inr (.inr (some b))), some (.inr (.inr (some (b + 37)))), some (.inr (.inr (some (b + 80)))), some (.inl (nI (5 * k))), u, v] [] h' Q) (hc : vg_C G (MT 173) [.inr (.inr (some b)), .inl p1, .inr (.inr (some (b + 80)))] h (fun o h1 => ∃ w v S', o = .inl (some (.inl w)) ∧ R w v S' ∧ OV G b S' h w v h1)) (hm : ∀ w v S' h1, R w v S' → MX b S h1 → vg_C G (MT 140) [.inr (.inr (some (b + 37))), .inl p1] h1 (PM b k cI w v S' h1)) : vg_A G (MT 169) uc us 1544 [some (.inr (.inr (some (G.2.2.2.2 4)))), some (.inr (.inr (some b))), some (.inr (.inr (some (b + 37)))), some (.inr (.inr (some (b + 80)))), some (.inl (nI (5 * k))), none, none] [] h Q := by
  have s1 := hL.2.2.2.2.2.1
  have s2 := hL.2.2.2.2.2.2
  have c1 := nI_clamp (show 5 * k + 1 < 2 ^ 31 by omega)
  have i1 : vp_in (nI (5 * k + 1)) n := vp_nI (by omega) (by omega)
  refine vi_run oL_21a [1552] 60 ?_
  rw [aL_21a_1544]
  simp only [↓reduceIte, vi_go_c, ↓v1_iadd, ↓v1_isub, ↓v1_imul, ↓v1_iand, ↓v1_idiv, ↓v1_irem, ↓v1_ineg, ↓v1_ladd, ↓v1_lsub, ↓v1_land, ↓v1_lcmp, ↓v1_lshl, ↓v1_lshr, ↓v1_i2l, ↓v1_l2i, ↓v1_iconst_0, ↓v1_iconst_m, ↓v1_bipush, ↓v1_sipush, ↓v1_ldc, ↓v1_ldc_w, ↓v1_lconst, ↓v1_ldc2_w, ↓v1_aconst_null, ↓v1_iload, ↓v1_iload_n, ↓v1_lload, ↓v1_lload_n, ↓v1_aload, ↓v1_aload_n, ↓v1_istore, ↓v1_istore_n, ↓v1_lstore, ↓v1_lstore_n, ↓v1_astore, ↓v1_astore_n, ↓v1_iinc, ↓v1_dup, ↓v1_dup2, ↓v1_ifCond_eq, ↓v1_ifCond_ne, ↓v1_ifCond_lt, ↓v1_ifCond_ge, ↓v1_ifCond_gt, ↓v1_ifCond_le, ↓v1_if_icmp_eq, ↓v1_if_icmp_ne, ↓v1_if_icmp_lt, ↓v1_if_icmp_ge, ↓v1_if_icmp_gt, ↓v1_if_icmp_le, ↓v1_if_acmp_ne, ↓v1_ifnull, ↓v1_ifnonnull, ↓v1_goto, ↓v1_tableswitch_0, ↓v1_return_, ↓v1_ireturn, ↓v1_lreturn, ↓v1_areturn, ↓v1_getfield_0, ↓v1_putfield_0, ↓v1_getstatic, ↓v1_iaload, ↓v1_laload, ↓v1_baload, ↓v1_aaload, ↓v1_iastore, ↓v1_lastore, ↓v1_bastore, ↓v1_aastore_0, ↓v1_arraylength, ↓v1_new_0, ↓v1_newarray, ↓v1_anewarray, ↓v1_invokestatic_0, ↓v1_invokestatic_1, ↓v1_invokestatic_2a, ↓v1_invokevirtual_0, ↓v1_invokespecial_0, ↓v1_invokespecial_1a, ↓v1_invokespecial_1b, ↓vi_ii_e, ↓vi_i_e, ↓vi_jj_e, ↓vi_j_e, ↓vi_ij_e, ↓vi_r_e, ↓vi_rr_e, ↓vi_o_e, ↓vi_ir_e, ↓vi_iir_e, ↓vi_jir_e, ↓vi_rir_e, ↓vi_pop_z, ↓vi_pop_s, ↓vi_sw_n, ↓vi_sw_c, ↓vi_li_z, ↓vi_li_s, ↓vi_ll_z, ↓vi_ll_s, ↓vi_lr_z, ↓vi_lr_s, ↓vi_ret_l, ↓vi_ret_r, vi_sv, vg_set1, vg_set2, vg_lo, List.headD, List.contains_nil, List.contains_cons, Bool.or_false, Bool.false_eq_true, if_false, if_true, Nat.reduceAdd, Nat.reduceBEq, List.nil_append, List.cons_append, List.append_nil, Option.toList, Int32.reduceOfNat, Int64.reduceOfNat, reduceCtorEq, Nat.reduceLeDiff, Nat.le_refl, Nat.zero_le, true_and, and_true, false_or, or_false, or_true, true_or, and_self, not_true_eq_false, not_false_eq_true, forall_const, false_implies, true_implies, Sum.inl.injEq, Sum.inr.injEq, Option.some.injEq, eq_self, oI_1, oI_m, oI_5, oI_L, vi_ws_nil, vi_ws_I, vi_ws_J, vi_ws_R, wi_k, wi_n, wi_r, wi_l, wr_k, wr_n, wr_i, wr_l, wl_k, wl_n, wl_i, wl_r, Nat.reduceSub, Nat.reduceMul, cL_21a_1544, aL_21a_1544, mc_169, ms_169, mr_169, mh_169, ml_169, s1, s2]
  intro v1 e1
  rw [show (1 : Int32) = nI 1 from rfl, nI_add] at e1
  subst e1
  refine ⟨i1, ?_⟩
  rw [c1, y1]
  have after : ∀ w v S' h1, R w v S' → OV G b S' h w v h1 → vg_A G (MT 169) (uc + 1) (us + 6) 1555 [some (.inr (.inr (some (G.2.2.2.2 4)))), some (.inr (.inr (some b))), some (.inr (.inr (some (b + 37)))), some (.inr (.inr (some (b + 80)))), some (.inl (nI (5 * k))), none, none] [.inl w] h1 Q := by
    intro w v S' h1 hR ce
    have X := hL.clO ce
    obtain ⟨m1, m2, m3, m4, m5, m6⟩ := X
    have row := hL.rowO ce
    have z1 := (row (5 * k + 1)).trans y1
    refine vi_run oL_21b [1964] 80 ?_
    rw [aL_21b_1555]
    simp only [↓reduceIte, vi_go_c, ↓v1_iadd, ↓v1_isub, ↓v1_imul, ↓v1_iand, ↓v1_idiv, ↓v1_irem, ↓v1_ineg, ↓v1_ladd, ↓v1_lsub, ↓v1_land, ↓v1_lcmp, ↓v1_lshl, ↓v1_lshr, ↓v1_i2l, ↓v1_l2i, ↓v1_iconst_0, ↓v1_iconst_m, ↓v1_bipush, ↓v1_sipush, ↓v1_ldc, ↓v1_ldc_w, ↓v1_lconst, ↓v1_ldc2_w, ↓v1_aconst_null, ↓v1_iload, ↓v1_iload_n, ↓v1_lload, ↓v1_lload_n, ↓v1_aload, ↓v1_aload_n, ↓v1_istore, ↓v1_istore_n, ↓v1_lstore, ↓v1_lstore_n, ↓v1_astore, ↓v1_astore_n, ↓v1_iinc, ↓v1_dup, ↓v1_dup2, ↓v1_ifCond_eq, ↓v1_ifCond_ne, ↓v1_ifCond_lt, ↓v1_ifCond_ge, ↓v1_ifCond_gt, ↓v1_ifCond_le, ↓v1_if_icmp_eq, ↓v1_if_icmp_ne, ↓v1_if_icmp_lt, ↓v1_if_icmp_ge, ↓v1_if_icmp_gt, ↓v1_if_icmp_le, ↓v1_if_acmp_ne, ↓v1_ifnull, ↓v1_ifnonnull, ↓v1_goto, ↓v1_tableswitch_0, ↓v1_return_, ↓v1_ireturn, ↓v1_lreturn, ↓v1_areturn, ↓v1_getfield_0, ↓v1_putfield_0, ↓v1_getstatic, ↓v1_iaload, ↓v1_laload, ↓v1_baload, ↓v1_aaload, ↓v1_iastore, ↓v1_lastore, ↓v1_bastore, ↓v1_aastore_0, ↓v1_arraylength, ↓v1_new_0, ↓v1_newarray, ↓v1_anewarray, ↓v1_invokestatic_0, ↓v1_invokestatic_1, ↓v1_invokestatic_2a, ↓v1_invokevirtual_0, ↓v1_invokespecial_0, ↓v1_invokespecial_1a, ↓v1_invokespecial_1b, ↓vi_ii_e, ↓vi_i_e, ↓vi_jj_e, ↓vi_j_e, ↓vi_ij_e, ↓vi_r_e, ↓vi_rr_e, ↓vi_o_e, ↓vi_ir_e, ↓vi_iir_e, ↓vi_jir_e, ↓vi_rir_e, ↓vi_pop_z, ↓vi_pop_s, ↓vi_sw_n, ↓vi_sw_c, ↓vi_li_z, ↓vi_li_s, ↓vi_ll_z, ↓vi_ll_s, ↓vi_lr_z, ↓vi_lr_s, ↓vi_ret_l, ↓vi_ret_r, vi_sv, vg_set1, vg_set2, vg_lo, List.headD, List.contains_nil, List.contains_cons, Bool.or_false, Bool.false_eq_true, if_false, if_true, Nat.reduceAdd, Nat.reduceBEq, List.nil_append, List.cons_append, List.append_nil, Option.toList, Int32.reduceOfNat, Int64.reduceOfNat, reduceCtorEq, Nat.reduceLeDiff, Nat.le_refl, Nat.zero_le, true_and, and_true, false_or, or_false, or_true, true_or, and_self, not_true_eq_false, not_false_eq_true, forall_const, false_implies, true_implies, Sum.inl.injEq, Sum.inr.injEq, Option.some.injEq, eq_self, oI_1, oI_m, oI_5, oI_L, vi_ws_nil, vi_ws_I, vi_ws_J, vi_ws_R, wi_k, wi_n, wi_r, wi_l, wr_k, wr_n, wr_i, wr_l, wl_k, wl_n, wl_i, wl_r, Nat.reduceSub, Nat.reduceMul, cL_21b_1555, cL_21b_1580, cL_21b_1597, aL_21b_1555, aL_21b_1580, aL_21b_1597, mc_169, ms_169, mr_169, mh_169, ml_169, mc_140, ms_140, mc_154, ms_154, m4, m5, m6]
    intro v1 e1
    rw [show (1 : Int32) = nI 1 from rfl, nI_add] at e1
    subst e1
    refine ⟨i1, ⟨by omega, by omega⟩, ?_⟩
    rw [c1, z1]
    refine (hm w v S' h1 hR m1).mono (fun o h2 q => ?_)
    obtain ⟨r, S2, rfl, mp, hr, of, iv⟩ := q
    unfold cI at hr
    have k1 := mp.mx.1
    simp only [↓reduceIte, vi_go_c, ↓v1_iadd, ↓v1_isub, ↓v1_imul, ↓v1_iand, ↓v1_idiv, ↓v1_irem, ↓v1_ineg, ↓v1_ladd, ↓v1_lsub, ↓v1_land, ↓v1_lcmp, ↓v1_lshl, ↓v1_lshr, ↓v1_i2l, ↓v1_l2i, ↓v1_iconst_0, ↓v1_iconst_m, ↓v1_bipush, ↓v1_sipush, ↓v1_ldc, ↓v1_ldc_w, ↓v1_lconst, ↓v1_ldc2_w, ↓v1_aconst_null, ↓v1_iload, ↓v1_iload_n, ↓v1_lload, ↓v1_lload_n, ↓v1_aload, ↓v1_aload_n, ↓v1_istore, ↓v1_istore_n, ↓v1_lstore, ↓v1_lstore_n, ↓v1_astore, ↓v1_astore_n, ↓v1_iinc, ↓v1_dup, ↓v1_dup2, ↓v1_ifCond_eq, ↓v1_ifCond_ne, ↓v1_ifCond_lt, ↓v1_ifCond_ge, ↓v1_ifCond_gt, ↓v1_ifCond_le, ↓v1_if_icmp_eq, ↓v1_if_icmp_ne, ↓v1_if_icmp_lt, ↓v1_if_icmp_ge, ↓v1_if_icmp_gt, ↓v1_if_icmp_le, ↓v1_if_acmp_ne, ↓v1_ifnull, ↓v1_ifnonnull, ↓v1_goto, ↓v1_tableswitch_0, ↓v1_return_, ↓v1_ireturn, ↓v1_lreturn, ↓v1_areturn, ↓v1_getfield_0, ↓v1_putfield_0, ↓v1_getstatic, ↓v1_iaload, ↓v1_laload, ↓v1_baload, ↓v1_aaload, ↓v1_iastore, ↓v1_lastore, ↓v1_bastore, ↓v1_aastore_0, ↓v1_arraylength, ↓v1_new_0, ↓v1_newarray, ↓v1_anewarray, ↓v1_invokestatic_0, ↓v1_invokestatic_1, ↓v1_invokestatic_2a, ↓v1_invokevirtual_0, ↓v1_invokespecial_0, ↓v1_invokespecial_1a, ↓v1_invokespecial_1b, ↓vi_ii_e, ↓vi_i_e, ↓vi_jj_e, ↓vi_j_e, ↓vi_ij_e, ↓vi_r_e, ↓vi_rr_e, ↓vi_o_e, ↓vi_ir_e, ↓vi_iir_e, ↓vi_jir_e, ↓vi_rir_e, ↓vi_pop_z, ↓vi_pop_s, ↓vi_sw_n, ↓vi_sw_c, ↓vi_li_z, ↓vi_li_s, ↓vi_ll_z, ↓vi_ll_s, ↓vi_lr_z, ↓vi_lr_s, ↓vi_ret_l, ↓vi_ret_r, vi_sv, vg_set1, vg_set2, vg_lo, List.headD, List.contains_nil, List.contains_cons, Bool.or_false, Bool.false_eq_true, if_false, if_true, Nat.reduceAdd, Nat.reduceBEq, List.nil_append, List.cons_append, List.append_nil, Option.toList, Int32.reduceOfNat, Int64.reduceOfNat, reduceCtorEq, Nat.reduceLeDiff, Nat.le_refl, Nat.zero_le, true_and, and_true, false_or, or_false, or_true, true_or, and_self, not_true_eq_false, not_false_eq_true, forall_const, false_implies, true_implies, Sum.inl.injEq, Sum.inr.injEq, Option.some.injEq, eq_self, oI_1, oI_m, oI_5, oI_L, vi_ws_nil, vi_ws_I, vi_ws_J, vi_ws_R, wi_k, wi_n, wi_r, wi_l, wr_k, wr_n, wr_i, wr_l, wl_k, wl_n, wl_i, wl_r, Nat.reduceSub, Nat.reduceMul, cL_21b_1555, cL_21b_1580, cL_21b_1597, aL_21b_1555, aL_21b_1580, aL_21b_1597, mc_169, ms_169, mr_169, mh_169, ml_169, mc_140, ms_140, mc_154, ms_154, k1]
    refine ⟨⟨by omega, by omega⟩, c_154 k1 ?_⟩
    rw [mp.2]
    have o1 : h2.1 (b + 80) = 101 := by rw [mp.1.2.2.1]; exact m2
    have o2 : h2.2.1 (b + 80) = 1 := by rw [mp.1.2.2.2.1]; exact m3
    have o3 : w = 0 → h2.2.2.2.1 (b + 80) 0 = v := fun e => by rw [mp.1.2.2.2.2.2.1]; exact hL.outO ce e
    have fin := hQ S2 h2 (uc + 1) (us + 6) (some (.inl w)) (some (.inl r)) (hL.bothO ce mp of iv) (by omega) (by omega)
    simp only [↓reduceIte, vi_go_c, ↓v1_iadd, ↓v1_isub, ↓v1_imul, ↓v1_iand, ↓v1_idiv, ↓v1_irem, ↓v1_ineg, ↓v1_ladd, ↓v1_lsub, ↓v1_land, ↓v1_lcmp, ↓v1_lshl, ↓v1_lshr, ↓v1_i2l, ↓v1_l2i, ↓v1_iconst_0, ↓v1_iconst_m, ↓v1_bipush, ↓v1_sipush, ↓v1_ldc, ↓v1_ldc_w, ↓v1_lconst, ↓v1_ldc2_w, ↓v1_aconst_null, ↓v1_iload, ↓v1_iload_n, ↓v1_lload, ↓v1_lload_n, ↓v1_aload, ↓v1_aload_n, ↓v1_istore, ↓v1_istore_n, ↓v1_lstore, ↓v1_lstore_n, ↓v1_astore, ↓v1_astore_n, ↓v1_iinc, ↓v1_dup, ↓v1_dup2, ↓v1_ifCond_eq, ↓v1_ifCond_ne, ↓v1_ifCond_lt, ↓v1_ifCond_ge, ↓v1_ifCond_gt, ↓v1_ifCond_le, ↓v1_if_icmp_eq, ↓v1_if_icmp_ne, ↓v1_if_icmp_lt, ↓v1_if_icmp_ge, ↓v1_if_icmp_gt, ↓v1_if_icmp_le, ↓v1_if_acmp_ne, ↓v1_ifnull, ↓v1_ifnonnull, ↓v1_goto, ↓v1_tableswitch_0, ↓v1_return_, ↓v1_ireturn, ↓v1_lreturn, ↓v1_areturn, ↓v1_getfield_0, ↓v1_putfield_0, ↓v1_getstatic, ↓v1_iaload, ↓v1_laload, ↓v1_baload, ↓v1_aaload, ↓v1_iastore, ↓v1_lastore, ↓v1_bastore, ↓v1_aastore_0, ↓v1_arraylength, ↓v1_new_0, ↓v1_newarray, ↓v1_anewarray, ↓v1_invokestatic_0, ↓v1_invokestatic_1, ↓v1_invokestatic_2a, ↓v1_invokevirtual_0, ↓v1_invokespecial_0, ↓v1_invokespecial_1a, ↓v1_invokespecial_1b, ↓vi_ii_e, ↓vi_i_e, ↓vi_jj_e, ↓vi_j_e, ↓vi_ij_e, ↓vi_r_e, ↓vi_rr_e, ↓vi_o_e, ↓vi_ir_e, ↓vi_iir_e, ↓vi_jir_e, ↓vi_rir_e, ↓vi_pop_z, ↓vi_pop_s, ↓vi_sw_n, ↓vi_sw_c, ↓vi_li_z, ↓vi_li_s, ↓vi_ll_z, ↓vi_ll_s, ↓vi_lr_z, ↓vi_lr_s, ↓vi_ret_l, ↓vi_ret_r, vi_sv, vg_set1, vg_set2, vg_lo, List.headD, List.contains_nil, List.contains_cons, Bool.or_false, Bool.false_eq_true, if_false, if_true, Nat.reduceAdd, Nat.reduceBEq, List.nil_append, List.cons_append, List.append_nil, Option.toList, Int32.reduceOfNat, Int64.reduceOfNat, reduceCtorEq, Nat.reduceLeDiff, Nat.le_refl, Nat.zero_le, true_and, and_true, false_or, or_false, or_true, true_or, and_self, not_true_eq_false, not_false_eq_true, forall_const, false_implies, true_implies, Sum.inl.injEq, Sum.inr.injEq, Option.some.injEq, eq_self, oI_1, oI_m, oI_5, oI_L, vi_ws_nil, vi_ws_I, vi_ws_J, vi_ws_R, wi_k, wi_n, wi_r, wi_l, wr_k, wr_n, wr_i, wr_l, wl_k, wl_n, wl_i, wl_r, Nat.reduceSub, Nat.reduceMul, cL_21b_1555, cL_21b_1580, cL_21b_1597, aL_21b_1555, aL_21b_1580, aL_21b_1597, mc_169, ms_169, mr_169, mh_169, ml_169, mc_140, ms_140, mc_154, ms_154, o1, o2]
    refine ⟨fun _ => fin, fun e0 => ⟨vp_nI (i := 0) (by decide) (by decide), ?_⟩⟩
    intro v1 f1 v2 f2
    have e1 : w = 0 := Decidable.not_not.mp e0
    have f3 : v2 = 0 := by rw [f2, f1, hr e1, show h2.2.2.2.1 (b + 80) (Int32.toNatClampNeg 0) = v from o3 e1]; exact lcmp_self v
    exact ⟨fun _ => fin, fun e => absurd f3 e⟩
  refine vr_callSH (N := MT 173) (as := [.inr (.inr (some b)), .inl p1, .inr (.inr (some (b + 80)))]) (st := []) (n := 3) (vg_inW 829 rfl rfl) mh_173 (vg_inW 831 rfl rfl) (vg_inW 49 rfl rfl) (by decide +kernel) (by decide +kernel) (vg_inW 830 rfl rfl) rfl (by decide +kernel) (by simp) ⟨by rw [mc_173, mc_169]; omega, by rw [ms_173, ms_169]; omega⟩ hc (fun v h1 q => ?_) (fun j h1 q => ?_)
  · obtain ⟨w, v', S', q1, q2, q3⟩ := q
    injection q1 with q1
    subst q1
    exact after w v' S' h1 q2 q3
  · obtain ⟨w, v', S', q1, _⟩ := q
    cases q1
theorem hh_21 {p1 κ : Int32} {T : Int64 → SS → Prop} (hL : LI G b n k S h) (hC : vg_C G (MT 47) [.inr (.inr (some b)), .inl p1] h (CO1 0 G b S h κ T cI)) : vg_C G (MT 173) [.inr (.inr (some b)), .inl p1, .inr (.inr (some (b + 80)))] h (fun o h1 => ∃ w v S', o = .inl (some (.inl w)) ∧ RR κ S T w v S' ∧ OV G b S' h w v h1) := by
  have x1 : h.1 b = 10 := by obtain ⟨⟨A, x1, _⟩, _⟩ := hL; exact x1.1.1
  refine c_173 x1 hC (fun v h' q => ?_) (fun j h' q => ?_)
  · rcases q with ⟨r, S', q1, q2, q3, q4⟩ | ⟨q1, _⟩
    · injection q1 with q1
      obtain ⟨_, o1, o2, _⟩ := hL.cl q4
      exact ⟨r, q1, o1, o2, 0, _, S', rfl, Or.inr ⟨q2, rfl, q3⟩, h', q4, Or.inr rfl, fun _ => rfl⟩
    · cases q1
  · rcases q with ⟨r, S', q1, _⟩ | ⟨q1, q2, q3⟩
    · cases q1
    · injection q1 with q1
      exact ⟨q1, 1, 0, S, rfl, Or.inl ⟨by rw [q2]; decide, q2.symm, rfl⟩, h', q3, Or.inl rfl, fun e => absurd e (by decide)⟩
end LW
