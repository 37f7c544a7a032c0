/-! ===== the walks of the law's cases ===== -/
section LW
variable {G : vg_G} {b n k : Nat} {S : SS} {h : vg_H} {Q : vg_O → vg_H → Prop}
set_option maxRecDepth 100000 in
theorem wk_0 {uc us : Nat} {p1 p2 : Int32} {R : Int32 → SS → Prop} (hL : LI G b n k S h) (hk : 5 * k + 5 ≤ n) (hn : n ≤ 2560) (hu : uc ≤ 100 + 10 * k) (hs : us ≤ 400000 + 100 * k) (y1 : h.2.2.1 (G.2.2.2.2 4) (5 * k + 1) = p1) (y2 : h.2.2.1 (G.2.2.2.2 4) (5 * k + 2) = p2) (hQ : ∀ S' h' uc' us' (u v : Option vg_V), LI G b n (k + 1) S' h' → uc' ≤ 100 + 10 * (k + 1) → us' ≤ 400000 + 100 * (k + 1) → vg_A G (MT 169) uc' us' 1964 [some (.inr (.inr (some (G.2.2.2.2 4)))), some (.inr (.inr (some b))), some (.inr (.inr (some (b + 37)))), some (.inr (.inr (some (b + 80)))), some (.inl (nI (5 * k))), u, v] [] h' Q) (hc : vg_C G (MT 178) [.inr (.inr (some b)), .inl p1, .inl p2] h (fun o h1 => ∃ w S', o = .inl (some (.inl w)) ∧ R w S' ∧ CE G b S' h h1)) (hm : ∀ w S' h1, R w S' → MX b S h1 → vg_C G (MT 146) [.inr (.inr (some (b + 37))), .inl p1, .inl p2] h1 (PW b k w S' h1)) : vg_A G (MT 169) uc us 160 [some (.inr (.inr (some (G.2.2.2.2 4)))), some (.inr (.inr (some b))), some (.inr (.inr (some (b + 37)))), some (.inr (.inr (some (b + 80)))), some (.inl (nI (5 * k))), none, none] [] h Q := by
  have s1 := hL.2.2.2.2.2.1
  have s2 := hL.2.2.2.2.2.2
  have c1 := nI_clamp (show 5 * k + 1 < 2 ^ 31 by omega)
  have i1 : vp_in (nI (5 * k + 1)) n := vp_nI (by omega) (by omega)
  have c2 := nI_clamp (show 5 * k + 2 < 2 ^ 31 by omega)
  have i2 : vp_in (nI (5 * k + 2)) n := vp_nI (by omega) (by omega)
  refine vi_run oL_0a [173] 60 ?_
  rw [aL_0a_160]
  simp only [↓reduceIte, vi_go_c, ↓v1_iadd, ↓v1_isub, ↓v1_imul, ↓v1_iand, ↓v1_idiv, ↓v1_irem, ↓v1_ineg, ↓v1_ladd, ↓v1_lsub, ↓v1_land, ↓v1_lcmp, ↓v1_lshl, ↓v1_lshr, ↓v1_i2l, ↓v1_l2i, ↓v1_iconst_0, ↓v1_iconst_m, ↓v1_bipush, ↓v1_sipush, ↓v1_ldc, ↓v1_ldc_w, ↓v1_lconst, ↓v1_ldc2_w, ↓v1_aconst_null, ↓v1_iload, ↓v1_iload_n, ↓v1_lload, ↓v1_lload_n, ↓v1_aload, ↓v1_aload_n, ↓v1_istore, ↓v1_istore_n, ↓v1_lstore, ↓v1_lstore_n, ↓v1_astore, ↓v1_astore_n, ↓v1_iinc, ↓v1_dup, ↓v1_dup2, ↓v1_ifCond_eq, ↓v1_ifCond_ne, ↓v1_ifCond_lt, ↓v1_ifCond_ge, ↓v1_ifCond_gt, ↓v1_ifCond_le, ↓v1_if_icmp_eq, ↓v1_if_icmp_ne, ↓v1_if_icmp_lt, ↓v1_if_icmp_ge, ↓v1_if_icmp_gt, ↓v1_if_icmp_le, ↓v1_if_acmp_ne, ↓v1_ifnull, ↓v1_ifnonnull, ↓v1_goto, ↓v1_tableswitch_0, ↓v1_return_, ↓v1_ireturn, ↓v1_lreturn, ↓v1_areturn, ↓v1_getfield_0, ↓v1_putfield_0, ↓v1_getstatic, ↓v1_iaload, ↓v1_laload, ↓v1_baload, ↓v1_aaload, ↓v1_iastore, ↓v1_lastore, ↓v1_bastore, ↓v1_aastore_0, ↓v1_arraylength, ↓v1_new_0, ↓v1_newarray, ↓v1_anewarray, ↓v1_invokestatic_0, ↓v1_invokestatic_1, ↓v1_invokestatic_2a, ↓v1_invokevirtual_0, ↓v1_invokespecial_0, ↓v1_invokespecial_1a, ↓v1_invokespecial_1b, ↓vi_ii_e, ↓vi_i_e, ↓vi_jj_e, ↓vi_j_e, ↓vi_ij_e, ↓vi_r_e, ↓vi_rr_e, ↓vi_o_e, ↓vi_ir_e, ↓vi_iir_e, ↓vi_jir_e, ↓vi_rir_e, ↓vi_pop_z, ↓vi_pop_s, ↓vi_sw_n, ↓vi_sw_c, ↓vi_li_z, ↓vi_li_s, ↓vi_ll_z, ↓vi_ll_s, ↓vi_lr_z, ↓vi_lr_s, ↓vi_ret_l, ↓vi_ret_r, vi_sv, vg_set1, vg_set2, vg_lo, List.headD, List.contains_nil, List.contains_cons, Bool.or_false, Bool.false_eq_true, if_false, if_true, Nat.reduceAdd, Nat.reduceBEq, List.nil_append, List.cons_append, List.append_nil, Option.toList, Int32.reduceOfNat, Int64.reduceOfNat, reduceCtorEq, Nat.reduceLeDiff, Nat.le_refl, Nat.zero_le, true_and, and_true, false_or, or_false, or_true, true_or, and_self, not_true_eq_false, not_false_eq_true, forall_const, false_implies, true_implies, Sum.inl.injEq, Sum.inr.injEq, Option.some.injEq, eq_self, oI_1, oI_m, oI_5, oI_L, vi_ws_nil, vi_ws_I, vi_ws_J, vi_ws_R, wi_k, wi_n, wi_r, wi_l, wr_k, wr_n, wr_i, wr_l, wl_k, wl_n, wl_i, wl_r, Nat.reduceSub, Nat.reduceMul, cL_0a_160, aL_0a_160, mc_169, ms_169, mr_169, mh_169, ml_169, s1, s2]
  intro v1 e1
  rw [show (1 : Int32) = nI 1 from rfl, nI_add] at e1
  subst e1
  refine ⟨i1, fun v2 e2 => ?_⟩
  rw [show (2 : Int32) = nI 2 from rfl, nI_add] at e2
  subst e2
  refine ⟨i2, ?_⟩
  rw [c1, y1, c2, y2]
  have after : ∀ w S' h1, R w S' → CE G b S' h h1 → vg_A G (MT 169) (uc + 2) (us + 12) 176 [some (.inr (.inr (some (G.2.2.2.2 4)))), some (.inr (.inr (some b))), some (.inr (.inr (some (b + 37)))), some (.inr (.inr (some (b + 80)))), some (.inl (nI (5 * k))), none, none] [.inl w] h1 Q := by
    intro w S' h1 hR ce
    have X := hL.cl ce
    obtain ⟨m1, m2, m3, m4, m5, m6⟩ := X
    have row := hL.row ce
    have z1 := (row (5 * k + 1)).trans y1
    have z2 := (row (5 * k + 2)).trans y2
    refine vi_run oL_0b [1964] 80 ?_
    rw [aL_0b_176]
    simp only [↓reduceIte, vi_go_c, ↓v1_iadd, ↓v1_isub, ↓v1_imul, ↓v1_iand, ↓v1_idiv, ↓v1_irem, ↓v1_ineg, ↓v1_ladd, ↓v1_lsub, ↓v1_land, ↓v1_lcmp, ↓v1_lshl, ↓v1_lshr, ↓v1_i2l, ↓v1_l2i, ↓v1_iconst_0, ↓v1_iconst_m, ↓v1_bipush, ↓v1_sipush, ↓v1_ldc, ↓v1_ldc_w, ↓v1_lconst, ↓v1_ldc2_w, ↓v1_aconst_null, ↓v1_iload, ↓v1_iload_n, ↓v1_lload, ↓v1_lload_n, ↓v1_aload, ↓v1_aload_n, ↓v1_istore, ↓v1_istore_n, ↓v1_lstore, ↓v1_lstore_n, ↓v1_astore, ↓v1_astore_n, ↓v1_iinc, ↓v1_dup, ↓v1_dup2, ↓v1_ifCond_eq, ↓v1_ifCond_ne, ↓v1_ifCond_lt, ↓v1_ifCond_ge, ↓v1_ifCond_gt, ↓v1_ifCond_le, ↓v1_if_icmp_eq, ↓v1_if_icmp_ne, ↓v1_if_icmp_lt, ↓v1_if_icmp_ge, ↓v1_if_icmp_gt, ↓v1_if_icmp_le, ↓v1_if_acmp_ne, ↓v1_ifnull, ↓v1_ifnonnull, ↓v1_goto, ↓v1_tableswitch_0, ↓v1_return_, ↓v1_ireturn, ↓v1_lreturn, ↓v1_areturn, ↓v1_getfield_0, ↓v1_putfield_0, ↓v1_getstatic, ↓v1_iaload, ↓v1_laload, ↓v1_baload, ↓v1_aaload, ↓v1_iastore, ↓v1_lastore, ↓v1_bastore, ↓v1_aastore_0, ↓v1_arraylength, ↓v1_new_0, ↓v1_newarray, ↓v1_anewarray, ↓v1_invokestatic_0, ↓v1_invokestatic_1, ↓v1_invokestatic_2a, ↓v1_invokevirtual_0, ↓v1_invokespecial_0, ↓v1_invokespecial_1a, ↓v1_invokespecial_1b, ↓vi_ii_e, ↓vi_i_e, ↓vi_jj_e, ↓vi_j_e, ↓vi_ij_e, ↓vi_r_e, ↓vi_rr_e, ↓vi_o_e, ↓vi_ir_e, ↓vi_iir_e, ↓vi_jir_e, ↓vi_rir_e, ↓vi_pop_z, ↓vi_pop_s, ↓vi_sw_n, ↓vi_sw_c, ↓vi_li_z, ↓vi_li_s, ↓vi_ll_z, ↓vi_ll_s, ↓vi_lr_z, ↓vi_lr_s, ↓vi_ret_l, ↓vi_ret_r, vi_sv, vg_set1, vg_set2, vg_lo, List.headD, List.contains_nil, List.contains_cons, Bool.or_false, Bool.false_eq_true, if_false, if_true, Nat.reduceAdd, Nat.reduceBEq, List.nil_append, List.cons_append, List.append_nil, Option.toList, Int32.reduceOfNat, Int64.reduceOfNat, reduceCtorEq, Nat.reduceLeDiff, Nat.le_refl, Nat.zero_le, true_and, and_true, false_or, or_false, or_true, true_or, and_self, not_true_eq_false, not_false_eq_true, forall_const, false_implies, true_implies, Sum.inl.injEq, Sum.inr.injEq, Option.some.injEq, eq_self, oI_1, oI_m, oI_5, oI_L, vi_ws_nil, vi_ws_I, vi_ws_J, vi_ws_R, wi_k, wi_n, wi_r, wi_l, wr_k, wr_n, wr_i, wr_l, wl_k, wl_n, wl_i, wl_r, Nat.reduceSub, Nat.reduceMul, cL_0b_176, cL_0b_205, aL_0b_176, aL_0b_205, mc_169, ms_169, mr_169, mh_169, ml_169, mc_146, ms_146, mc_154, ms_154, m4, m5, m6]
    intro v1 e1
    rw [show (1 : Int32) = nI 1 from rfl, nI_add] at e1
    subst e1
    refine ⟨i1, fun v2 e2 => ?_⟩
    rw [show (2 : Int32) = nI 2 from rfl, nI_add] at e2
    subst e2
    refine ⟨i2, ⟨by omega, by omega⟩, ?_⟩
    rw [c1, z1, c2, z2]
    refine (hm w S' h1 hR m1).mono (fun o h2 q => ?_)
    obtain ⟨S2, rfl, mp, of, iv⟩ := q
    have k1 := mp.mx.1
    simp only [↓reduceIte, vi_go_c, ↓v1_iadd, ↓v1_isub, ↓v1_imul, ↓v1_iand, ↓v1_idiv, ↓v1_irem, ↓v1_ineg, ↓v1_ladd, ↓v1_lsub, ↓v1_land, ↓v1_lcmp, ↓v1_lshl, ↓v1_lshr, ↓v1_i2l, ↓v1_l2i, ↓v1_iconst_0, ↓v1_iconst_m, ↓v1_bipush, ↓v1_sipush, ↓v1_ldc, ↓v1_ldc_w, ↓v1_lconst, ↓v1_ldc2_w, ↓v1_aconst_null, ↓v1_iload, ↓v1_iload_n, ↓v1_lload, ↓v1_lload_n, ↓v1_aload, ↓v1_aload_n, ↓v1_istore, ↓v1_istore_n, ↓v1_lstore, ↓v1_lstore_n, ↓v1_astore, ↓v1_astore_n, ↓v1_iinc, ↓v1_dup, ↓v1_dup2, ↓v1_ifCond_eq, ↓v1_ifCond_ne, ↓v1_ifCond_lt, ↓v1_ifCond_ge, ↓v1_ifCond_gt, ↓v1_ifCond_le, ↓v1_if_icmp_eq, ↓v1_if_icmp_ne, ↓v1_if_icmp_lt, ↓v1_if_icmp_ge, ↓v1_if_icmp_gt, ↓v1_if_icmp_le, ↓v1_if_acmp_ne, ↓v1_ifnull, ↓v1_ifnonnull, ↓v1_goto, ↓v1_tableswitch_0, ↓v1_return_, ↓v1_ireturn, ↓v1_lreturn, ↓v1_areturn, ↓v1_getfield_0, ↓v1_putfield_0, ↓v1_getstatic, ↓v1_iaload, ↓v1_laload, ↓v1_baload, ↓v1_aaload, ↓v1_iastore, ↓v1_lastore, ↓v1_bastore, ↓v1_aastore_0, ↓v1_arraylength, ↓v1_new_0, ↓v1_newarray, ↓v1_anewarray, ↓v1_invokestatic_0, ↓v1_invokestatic_1, ↓v1_invokestatic_2a, ↓v1_invokevirtual_0, ↓v1_invokespecial_0, ↓v1_invokespecial_1a, ↓v1_invokespecial_1b, ↓vi_ii_e, ↓vi_i_e, ↓vi_jj_e, ↓vi_j_e, ↓vi_ij_e, ↓vi_r_e, ↓vi_rr_e, ↓vi_o_e, ↓vi_ir_e, ↓vi_iir_e, ↓vi_jir_e, ↓vi_rir_e, ↓vi_pop_z, ↓vi_pop_s, ↓vi_sw_n, ↓vi_sw_c, ↓vi_li_z, ↓vi_li_s, ↓vi_ll_z, ↓vi_ll_s, ↓vi_lr_z, ↓vi_lr_s, ↓vi_ret_l, ↓vi_ret_r, vi_sv, vg_set1, vg_set2, vg_lo, List.headD, List.contains_nil, List.contains_cons, Bool.or_false, Bool.false_eq_true, if_false, if_true, Nat.reduceAdd, Nat.reduceBEq, List.nil_append, List.cons_append, List.append_nil, Option.toList, Int32.reduceOfNat, Int64.reduceOfNat, reduceCtorEq, Nat.reduceLeDiff, Nat.le_refl, Nat.zero_le, true_and, and_true, false_or, or_false, or_true, true_or, and_self, not_true_eq_false, not_false_eq_true, forall_const, false_implies, true_implies, Sum.inl.injEq, Sum.inr.injEq, Option.some.injEq, eq_self, oI_1, oI_m, oI_5, oI_L, vi_ws_nil, vi_ws_I, vi_ws_J, vi_ws_R, wi_k, wi_n, wi_r, wi_l, wr_k, wr_n, wr_i, wr_l, wl_k, wl_n, wl_i, wl_r, Nat.reduceSub, Nat.reduceMul, cL_0b_176, cL_0b_205, aL_0b_176, aL_0b_205, mc_169, ms_169, mr_169, mh_169, ml_169, mc_146, ms_146, mc_154, ms_154, k1]
    refine ⟨⟨by omega, by omega⟩, c_154 k1 ?_⟩
    rw [mp.2]
    simp only [↓reduceIte, vi_go_c, ↓v1_iadd, ↓v1_isub, ↓v1_imul, ↓v1_iand, ↓v1_idiv, ↓v1_irem, ↓v1_ineg, ↓v1_ladd, ↓v1_lsub, ↓v1_land, ↓v1_lcmp, ↓v1_lshl, ↓v1_lshr, ↓v1_i2l, ↓v1_l2i, ↓v1_iconst_0, ↓v1_iconst_m, ↓v1_bipush, ↓v1_sipush, ↓v1_ldc, ↓v1_ldc_w, ↓v1_lconst, ↓v1_ldc2_w, ↓v1_aconst_null, ↓v1_iload, ↓v1_iload_n, ↓v1_lload, ↓v1_lload_n, ↓v1_aload, ↓v1_aload_n, ↓v1_istore, ↓v1_istore_n, ↓v1_lstore, ↓v1_lstore_n, ↓v1_astore, ↓v1_astore_n, ↓v1_iinc, ↓v1_dup, ↓v1_dup2, ↓v1_ifCond_eq, ↓v1_ifCond_ne, ↓v1_ifCond_lt, ↓v1_ifCond_ge, ↓v1_ifCond_gt, ↓v1_ifCond_le, ↓v1_if_icmp_eq, ↓v1_if_icmp_ne, ↓v1_if_icmp_lt, ↓v1_if_icmp_ge, ↓v1_if_icmp_gt, ↓v1_if_icmp_le, ↓v1_if_acmp_ne, ↓v1_ifnull, ↓v1_ifnonnull, ↓v1_goto, ↓v1_tableswitch_0, ↓v1_return_, ↓v1_ireturn, ↓v1_lreturn, ↓v1_areturn, ↓v1_getfield_0, ↓v1_putfield_0, ↓v1_getstatic, ↓v1_iaload, ↓v1_laload, ↓v1_baload, ↓v1_aaload, ↓v1_iastore, ↓v1_lastore, ↓v1_bastore, ↓v1_aastore_0, ↓v1_arraylength, ↓v1_new_0, ↓v1_newarray, ↓v1_anewarray, ↓v1_invokestatic_0, ↓v1_invokestatic_1, ↓v1_invokestatic_2a, ↓v1_invokevirtual_0, ↓v1_invokespecial_0, ↓v1_invokespecial_1a, ↓v1_invokespecial_1b, ↓vi_ii_e, ↓vi_i_e, ↓vi_jj_e, ↓vi_j_e, ↓vi_ij_e, ↓vi_r_e, ↓vi_rr_e, ↓vi_o_e, ↓vi_ir_e, ↓vi_iir_e, ↓vi_jir_e, ↓vi_rir_e, ↓vi_pop_z, ↓vi_pop_s, ↓vi_sw_n, ↓vi_sw_c, ↓vi_li_z, ↓vi_li_s, ↓vi_ll_z, ↓vi_ll_s, ↓vi_lr_z, ↓vi_lr_s, ↓vi_ret_l, ↓vi_ret_r, vi_sv, vg_set1, vg_set2, vg_lo, List.headD, List.contains_nil, List.contains_cons, Bool.or_false, Bool.false_eq_true, if_false, if_true, Nat.reduceAdd, Nat.reduceBEq, List.nil_append, List.cons_append, List.append_nil, Option.toList, Int32.reduceOfNat, Int64.reduceOfNat, reduceCtorEq, Nat.reduceLeDiff, Nat.le_refl, Nat.zero_le, true_and, and_true, false_or, or_false, or_true, true_or, and_self, not_true_eq_false, not_false_eq_true, forall_const, false_implies, true_implies, Sum.inl.injEq, Sum.inr.injEq, Option.some.injEq, eq_self, oI_1, oI_m, oI_5, oI_L, vi_ws_nil, vi_ws_I, vi_ws_J, vi_ws_R, wi_k, wi_n, wi_r, wi_l, wr_k, wr_n, wr_i, wr_l, wl_k, wl_n, wl_i, wl_r, Nat.reduceSub, Nat.reduceMul, cL_0b_176, cL_0b_205, aL_0b_176, aL_0b_205, mc_169, ms_169, mr_169, mh_169, ml_169, mc_146, ms_146, mc_154, ms_154]
    exact hQ S2 h2 _ _ _ _ (hL.both ce mp of iv) (by omega) (by omega)
  refine vr_callSH (N := MT 178) (as := [.inr (.inr (some b)), .inl p1, .inl p2]) (st := []) (n := 3) (vg_inW 258 rfl rfl) mh_178 (vg_inW 260 rfl rfl) (vg_inW 49 rfl rfl) (by decide +kernel) (by decide +kernel) (vg_inW 259 rfl rfl) rfl (by decide +kernel) (by simp) ⟨by rw [mc_178, mc_169]; omega, by rw [ms_178, ms_169]; omega⟩ hc (fun v h1 q => ?_) (fun j h1 q => ?_)
  · obtain ⟨w, S', q1, q2, q3⟩ := q
    injection q1 with q1
    subst q1
    exact after w S' h1 q2 q3
  · obtain ⟨w, S', q1, _⟩ := q
    cases q1
theorem hh_0 {p1 p2 κ : Int32} {X : SS} (hL : LI G b n k S h) (hC : vg_C G (MT 52) [.inr (.inr (some b)), .inl p1, .inl p2] h (CW G b S h κ X)) : vg_C G (MT 178) [.inr (.inr (some b)), .inl p1, .inl p2] h (fun o h1 => ∃ w S', o = .inl (some (.inl w)) ∧ RW κ S X w S' ∧ CE G b S' h h1) := by
  have x1 : h.1 b = 10 := by obtain ⟨⟨A, x1, _⟩, _⟩ := hL; exact x1.1.1
  refine c_178 x1 hC (fun v h' q => ?_) (fun j h' q => ?_)
  · rcases q with ⟨q1, q2, q3⟩ | ⟨q1, _⟩ | ⟨q1, _⟩
    · injection q1 with q1
      exact ⟨q1, 0, X, rfl, Or.inr ⟨q2, rfl, rfl⟩, q3⟩
    · cases q1
    · cases q1
  · rcases q with ⟨q1, _⟩ | ⟨q1, q2, q3⟩ | ⟨q1, q2, q3⟩
    · cases q1
    · injection q1 with q1
      exact Or.inl ⟨q1, 1, S, rfl, Or.inl ⟨by rw [q2]; decide, q2.symm, rfl⟩, q3⟩
    · injection q1 with q1
      exact Or.inr ⟨q1, 2, S, rfl, Or.inl ⟨by rw [q2]; decide, q2.symm, rfl⟩, q3⟩
set_option maxRecDepth 100000 in
theorem wk_1 {uc us : Nat} {p1 p2 p3 p4 : Int32} {R : Int32 → SS → Prop} (hL : LI G b n k S h) (hk : 5 * k + 5 ≤ n) (hn : n ≤ 2560) (hu : uc ≤ 100 + 10 * k) (hs : us ≤ 400000 + 100 * k) (y1 : h.2.2.1 (G.2.2.2.2 4) (5 * k + 1) = p1) (y2 : h.2.2.1 (G.2.2.2.2 4) (5 * k + 2) = p2) (y3 : h.2.2.1 (G.2.2.2.2 4) (5 * k + 3) = p3) (y4 : h.2.2.1 (G.2.2.2.2 4) (5 * k + 4) = p4) (hQ : ∀ S' h' uc' us' (u v : Option vg_V), LI G b n (k + 1) S' h' → uc' ≤ 100 + 10 * (k + 1) → us' ≤ 400000 + 100 * (k + 1) → vg_A G (MT 169) uc' us' 1964 [some (.inr (.inr (some (G.2.2.2.2 4)))), some (.inr (.inr (some b))), some (.inr (.inr (some (b + 37)))), some (.inr (.inr (some (b + 80)))), some (.inl (nI (5 * k))), u, v] [] h' Q) (hc : vg_C G (MT 180) [.inr (.inr (some b)), .inl p1, .inl p2, .inl p3, .inl p4] h (fun o h1 => ∃ w S', o = .inl (some (.inl w)) ∧ R w S' ∧ CE G b S' h h1)) (hm : ∀ w S' h1, R w S' → MX b S h1 → vg_C G (MT 148) [.inr (.inr (some (b + 37))), .inl p1, .inl p2, .inl p3, .inl p4] h1 (PW b k w S' h1)) : vg_A G (MT 169) uc us 208 [some (.inr (.inr (some (G.2.2.2.2 4)))), some (.inr (.inr (some b))), some (.inr (.inr (some (b + 37)))), some (.inr (.inr (some (b + 80)))), some (.inl (nI (5 * k))), none, none] [] h Q := by
  have s1 := hL.2.2.2.2.2.1
  have s2 := hL.2.2.2.2.2.2
  have c1 := nI_clamp (show 5 * k + 1 < 2 ^ 31 by omega)
  have i1 : vp_in (nI (5 * k + 1)) n := vp_nI (by omega) (by omega)
  have c2 := nI_clamp (show 5 * k + 2 < 2 ^ 31 by omega)
  have i2 : vp_in (nI (5 * k + 2)) n := vp_nI (by omega) (by omega)
  have c3 := nI_clamp (show 5 * k + 3 < 2 ^ 31 by omega)
  have i3 : vp_in (nI (5 * k + 3)) n := vp_nI (by omega) (by omega)
  have c4 := nI_clamp (show 5 * k + 4 < 2 ^ 31 by omega)
  have i4 : vp_in (nI (5 * k + 4)) n := vp_nI (by omega) (by omega)
  refine vi_run oL_1a [233] 60 ?_
  rw [aL_1a_208]
  simp only [↓reduceIte, vi_go_c, ↓v1_iadd, ↓v1_isub, ↓v1_imul, ↓v1_iand, ↓v1_idiv, ↓v1_irem, ↓v1_ineg, ↓v1_ladd, ↓v1_lsub, ↓v1_land, ↓v1_lcmp, ↓v1_lshl, ↓v1_lshr, ↓v1_i2l, ↓v1_l2i, ↓v1_iconst_0, ↓v1_iconst_m, ↓v1_bipush, ↓v1_sipush, ↓v1_ldc, ↓v1_ldc_w, ↓v1_lconst, ↓v1_ldc2_w, ↓v1_aconst_null, ↓v1_iload, ↓v1_iload_n, ↓v1_lload, ↓v1_lload_n, ↓v1_aload, ↓v1_aload_n, ↓v1_istore, ↓v1_istore_n, ↓v1_lstore, ↓v1_lstore_n, ↓v1_astore, ↓v1_astore_n, ↓v1_iinc, ↓v1_dup, ↓v1_dup2, ↓v1_ifCond_eq, ↓v1_ifCond_ne, ↓v1_ifCond_lt, ↓v1_ifCond_ge, ↓v1_ifCond_gt, ↓v1_ifCond_le, ↓v1_if_icmp_eq, ↓v1_if_icmp_ne, ↓v1_if_icmp_lt, ↓v1_if_icmp_ge, ↓v1_if_icmp_gt, ↓v1_if_icmp_le, ↓v1_if_acmp_ne, ↓v1_ifnull, ↓v1_ifnonnull, ↓v1_goto, ↓v1_tableswitch_0, ↓v1_return_, ↓v1_ireturn, ↓v1_lreturn, ↓v1_areturn, ↓v1_getfield_0, ↓v1_putfield_0, ↓v1_getstatic, ↓v1_iaload, ↓v1_laload, ↓v1_baload, ↓v1_aaload, ↓v1_iastore, ↓v1_lastore, ↓v1_bastore, ↓v1_aastore_0, ↓v1_arraylength, ↓v1_new_0, ↓v1_newarray, ↓v1_anewarray, ↓v1_invokestatic_0, ↓v1_invokestatic_1, ↓v1_invokestatic_2a, ↓v1_invokevirtual_0, ↓v1_invokespecial_0, ↓v1_invokespecial_1a, ↓v1_invokespecial_1b, ↓vi_ii_e, ↓vi_i_e, ↓vi_jj_e, ↓vi_j_e, ↓vi_ij_e, ↓vi_r_e, ↓vi_rr_e, ↓vi_o_e, ↓vi_ir_e, ↓vi_iir_e, ↓vi_jir_e, ↓vi_rir_e, ↓vi_pop_z, ↓vi_pop_s, ↓vi_sw_n, ↓vi_sw_c, ↓vi_li_z, ↓vi_li_s, ↓vi_ll_z, ↓vi_ll_s, ↓vi_lr_z, ↓vi_lr_s, ↓vi_ret_l, ↓vi_ret_r, vi_sv, vg_set1, vg_set2, vg_lo, List.headD, List.contains_nil, List.contains_cons, Bool.or_false, Bool.false_eq_true, if_false, if_true, Nat.reduceAdd, Nat.reduceBEq, List.nil_append, List.cons_append, List.append_nil, Option.toList, Int32.reduceOfNat, Int64.reduceOfNat, reduceCtorEq, Nat.reduceLeDiff, Nat.le_refl, Nat.zero_le, true_and, and_true, false_or, or_false, or_true, true_or, and_self, not_true_eq_false, not_false_eq_true, forall_const, false_implies, true_implies, Sum.inl.injEq, Sum.inr.injEq, Option.some.injEq, eq_self, oI_1, oI_m, oI_5, oI_L, vi_ws_nil, vi_ws_I, vi_ws_J, vi_ws_R, wi_k, wi_n, wi_r, wi_l, wr_k, wr_n, wr_i, wr_l, wl_k, wl_n, wl_i, wl_r, Nat.reduceSub, Nat.reduceMul, cL_1a_208, aL_1a_208, mc_169, ms_169, mr_169, mh_169, ml_169, s1, s2]
  intro v1 e1
  rw [show (1 : Int32) = nI 1 from rfl, nI_add] at e1
  subst e1
  refine ⟨i1, fun v2 e2 => ?_⟩
  rw [show (2 : Int32) = nI 2 from rfl, nI_add] at e2
  subst e2
  refine ⟨i2, fun v3 e3 => ?_⟩
  rw [show (3 : Int32) = nI 3 from rfl, nI_add] at e3
  subst e3
  refine ⟨i3, fun v4 e4 => ?_⟩
  rw [show (4 : Int32) = nI 4 from rfl, nI_add] at e4
  subst e4
  refine ⟨i4, ?_⟩
  rw [c1, y1, c2, y2, c3, y3, c4, y4]
  have after : ∀ w S' h1, R w S' → CE G b S' h h1 → vg_A G (MT 169) (uc + 3) (us + 18) 236 [some (.inr (.inr (some (G.2.2.2.2 4)))), some (.inr (.inr (some b))), some (.inr (.inr (some (b + 37)))), some (.inr (.inr (some (b + 80)))), some (.inl (nI (5 * k))), none, none] [.inl w] h1 Q := by
    intro w S' h1 hR ce
    have X := hL.cl ce
    obtain ⟨m1, m2, m3, m4, m5, m6⟩ := X
    have row := hL.row ce
    have z1 := (row (5 * k + 1)).trans y1
    have z2 := (row (5 * k + 2)).trans y2
    have z3 := (row (5 * k + 3)).trans y3
    have z4 := (row (5 * k + 4)).trans y4
    refine vi_run oL_1b [1964] 80 ?_
    rw [aL_1b_236]
    simp only [↓reduceIte, vi_go_c, ↓v1_iadd, ↓v1_isub, ↓v1_imul, ↓v1_iand, ↓v1_idiv, ↓v1_irem, ↓v1_ineg, ↓v1_ladd, ↓v1_lsub, ↓v1_land, ↓v1_lcmp, ↓v1_lshl, ↓v1_lshr, ↓v1_i2l, ↓v1_l2i, ↓v1_iconst_0, ↓v1_iconst_m, ↓v1_bipush, ↓v1_sipush, ↓v1_ldc, ↓v1_ldc_w, ↓v1_lconst, ↓v1_ldc2_w, ↓v1_aconst_null, ↓v1_iload, ↓v1_iload_n, ↓v1_lload, ↓v1_lload_n, ↓v1_aload, ↓v1_aload_n, ↓v1_istore, ↓v1_istore_n, ↓v1_lstore, ↓v1_lstore_n, ↓v1_astore, ↓v1_astore_n, ↓v1_iinc, ↓v1_dup, ↓v1_dup2, ↓v1_ifCond_eq, ↓v1_ifCond_ne, ↓v1_ifCond_lt, ↓v1_ifCond_ge, ↓v1_ifCond_gt, ↓v1_ifCond_le, ↓v1_if_icmp_eq, ↓v1_if_icmp_ne, ↓v1_if_icmp_lt, ↓v1_if_icmp_ge, ↓v1_if_icmp_gt, ↓v1_if_icmp_le, ↓v1_if_acmp_ne, ↓v1_ifnull, ↓v1_ifnonnull, ↓v1_goto, ↓v1_tableswitch_0, ↓v1_return_, ↓v1_ireturn, ↓v1_lreturn, ↓v1_areturn, ↓v1_getfield_0, ↓v1_putfield_0, ↓v1_getstatic, ↓v1_iaload, ↓v1_laload, ↓v1_baload, ↓v1_aaload, ↓v1_iastore, ↓v1_lastore, ↓v1_bastore, ↓v1_aastore_0, ↓v1_arraylength, ↓v1_new_0, ↓v1_newarray, ↓v1_anewarray, ↓v1_invokestatic_0, ↓v1_invokestatic_1, ↓v1_invokestatic_2a, ↓v1_invokevirtual_0, ↓v1_invokespecial_0, ↓v1_invokespecial_1a, ↓v1_invokespecial_1b, ↓vi_ii_e, ↓vi_i_e, ↓vi_jj_e, ↓vi_j_e, ↓vi_ij_e, ↓vi_r_e, ↓vi_rr_e, ↓vi_o_e, ↓vi_ir_e, ↓vi_iir_e, ↓vi_jir_e, ↓vi_rir_e, ↓vi_pop_z, ↓vi_pop_s, ↓vi_sw_n, ↓vi_sw_c, ↓vi_li_z, ↓vi_li_s, ↓vi_ll_z, ↓vi_ll_s, ↓vi_lr_z, ↓vi_lr_s, ↓vi_ret_l, ↓vi_ret_r, vi_sv, vg_set1, vg_set2, vg_lo, List.headD, List.contains_nil, List.contains_cons, Bool.or_false, Bool.false_eq_true, if_false, if_true, Nat.reduceAdd, Nat.reduceBEq, List.nil_append, List.cons_append, List.append_nil, Option.toList, Int32.reduceOfNat, Int64.reduceOfNat, reduceCtorEq, Nat.reduceLeDiff, Nat.le_refl, Nat.zero_le, true_and, and_true, false_or, or_false, or_true, true_or, and_self, not_true_eq_false, not_false_eq_true, forall_const, false_implies, true_implies, Sum.inl.injEq, Sum.inr.injEq, Option.some.injEq, eq_self, oI_1, oI_m, oI_5, oI_L, vi_ws_nil, vi_ws_I, vi_ws_J, vi_ws_R, wi_k, wi_n, wi_r, wi_l, wr_k, wr_n, wr_i, wr_l, wl_k, wl_n, wl_i, wl_r, Nat.reduceSub, Nat.reduceMul, cL_1b_236, cL_1b_277, aL_1b_236, aL_1b_277, mc_169, ms_169, mr_169, mh_169, ml_169, mc_148, ms_148, mc_154, ms_154, m4, m5, m6]
    intro v1 e1
    rw [show (1 : Int32) = nI 1 from rfl, nI_add] at e1
    subst e1
    refine ⟨i1, fun v2 e2 => ?_⟩
    rw [show (2 : Int32) = nI 2 from rfl, nI_add] at e2
    subst e2
    refine ⟨i2, fun v3 e3 => ?_⟩
    rw [show (3 : Int32) = nI 3 from rfl, nI_add] at e3
    subst e3
    refine ⟨i3, fun v4 e4 => ?_⟩
    rw [show (4 : Int32) = nI 4 from rfl, nI_add] at e4
    subst e4
    refine ⟨i4, ⟨by omega, by omega⟩, ?_⟩
    rw [c1, z1, c2, z2, c3, z3, c4, z4]
    refine (hm w S' h1 hR m1).mono (fun o h2 q => ?_)
    obtain ⟨S2, rfl, mp, of, iv⟩ := q
    have k1 := mp.mx.1
    simp only [↓reduceIte, vi_go_c, ↓v1_iadd, ↓v1_isub, ↓v1_imul, ↓v1_iand, ↓v1_idiv, ↓v1_irem, ↓v1_ineg, ↓v1_ladd, ↓v1_lsub, ↓v1_land, ↓v1_lcmp, ↓v1_lshl, ↓v1_lshr, ↓v1_i2l, ↓v1_l2i, ↓v1_iconst_0, ↓v1_iconst_m, ↓v1_bipush, ↓v1_sipush, ↓v1_ldc, ↓v1_ldc_w, ↓v1_lconst, ↓v1_ldc2_w, ↓v1_aconst_null, ↓v1_iload, ↓v1_iload_n, ↓v1_lload, ↓v1_lload_n, ↓v1_aload, ↓v1_aload_n, ↓v1_istore, ↓v1_istore_n, ↓v1_lstore, ↓v1_lstore_n, ↓v1_astore, ↓v1_astore_n, ↓v1_iinc, ↓v1_dup, ↓v1_dup2, ↓v1_ifCond_eq, ↓v1_ifCond_ne, ↓v1_ifCond_lt, ↓v1_ifCond_ge, ↓v1_ifCond_gt, ↓v1_ifCond_le, ↓v1_if_icmp_eq, ↓v1_if_icmp_ne, ↓v1_if_icmp_lt, ↓v1_if_icmp_ge, ↓v1_if_icmp_gt, ↓v1_if_icmp_le, ↓v1_if_acmp_ne, ↓v1_ifnull, ↓v1_ifnonnull, ↓v1_goto, ↓v1_tableswitch_0, ↓v1_return_, ↓v1_ireturn, ↓v1_lreturn, ↓v1_areturn, ↓v1_getfield_0, ↓v1_putfield_0, ↓v1_getstatic, ↓v1_iaload, ↓v1_laload, ↓v1_baload, ↓v1_aaload, ↓v1_iastore, ↓v1_lastore, ↓v1_bastore, ↓v1_aastore_0, ↓v1_arraylength, ↓v1_new_0, ↓v1_newarray, ↓v1_anewarray, ↓v1_invokestatic_0, ↓v1_invokestatic_1, ↓v1_invokestatic_2a, ↓v1_invokevirtual_0, ↓v1_invokespecial_0, ↓v1_invokespecial_1a, ↓v1_invokespecial_1b, ↓vi_ii_e, ↓vi_i_e, ↓vi_jj_e, ↓vi_j_e, ↓vi_ij_e, ↓vi_r_e, ↓vi_rr_e, ↓vi_o_e, ↓vi_ir_e, ↓vi_iir_e, ↓vi_jir_e, ↓vi_rir_e, ↓vi_pop_z, ↓vi_pop_s, ↓vi_sw_n, ↓vi_sw_c, ↓vi_li_z, ↓vi_li_s, ↓vi_ll_z, ↓vi_ll_s, ↓vi_lr_z, ↓vi_lr_s, ↓vi_ret_l, ↓vi_ret_r, vi_sv, vg_set1, vg_set2, vg_lo, List.headD, List.contains_nil, List.contains_cons, Bool.or_false, Bool.false_eq_true, if_false, if_true, Nat.reduceAdd, Nat.reduceBEq, List.nil_append, List.cons_append, List.append_nil, Option.toList, Int32.reduceOfNat, Int64.reduceOfNat, reduceCtorEq, Nat.reduceLeDiff, Nat.le_refl, Nat.zero_le, true_and, and_true, false_or, or_false, or_true, true_or, and_self, not_true_eq_false, not_false_eq_true, forall_const, false_implies, true_implies, Sum.inl.injEq, Sum.inr.injEq, Option.some.injEq, eq_self, oI_1, oI_m, oI_5, oI_L, vi_ws_nil, vi_ws_I, vi_ws_J, vi_ws_R, wi_k, wi_n, wi_r, wi_l, wr_k, wr_n, wr_i, wr_l, wl_k, wl_n, wl_i, wl_r, Nat.reduceSub, Nat.reduceMul, cL_1b_236, cL_1b_277, aL_1b_236, aL_1b_277, mc_169, ms_169, mr_169, mh_169, ml_169, mc_148, ms_148, mc_154, ms_154, k1]
    refine ⟨⟨by omega, by omega⟩, c_154 k1 ?_⟩
    rw [mp.2]
    simp only [↓reduceIte, vi_go_c, ↓v1_iadd, ↓v1_isub, ↓v1_imul, ↓v1_iand, ↓v1_idiv, ↓v1_irem, ↓v1_ineg, ↓v1_ladd, ↓v1_lsub, ↓v1_land, ↓v1_lcmp, ↓v1_lshl, ↓v1_lshr, ↓v1_i2l, ↓v1_l2i, ↓v1_iconst_0, ↓v1_iconst_m, ↓v1_bipush, ↓v1_sipush, ↓v1_ldc, ↓v1_ldc_w, ↓v1_lconst, ↓v1_ldc2_w, ↓v1_aconst_null, ↓v1_iload, ↓v1_iload_n, ↓v1_lload, ↓v1_lload_n, ↓v1_aload, ↓v1_aload_n, ↓v1_istore, ↓v1_istore_n, ↓v1_lstore, ↓v1_lstore_n, ↓v1_astore, ↓v1_astore_n, ↓v1_iinc, ↓v1_dup, ↓v1_dup2, ↓v1_ifCond_eq, ↓v1_ifCond_ne, ↓v1_ifCond_lt, ↓v1_ifCond_ge, ↓v1_ifCond_gt, ↓v1_ifCond_le, ↓v1_if_icmp_eq, ↓v1_if_icmp_ne, ↓v1_if_icmp_lt, ↓v1_if_icmp_ge, ↓v1_if_icmp_gt, ↓v1_if_icmp_le, ↓v1_if_acmp_ne, ↓v1_ifnull, ↓v1_ifnonnull, ↓v1_goto, ↓v1_tableswitch_0, ↓v1_return_, ↓v1_ireturn, ↓v1_lreturn, ↓v1_areturn, ↓v1_getfield_0, ↓v1_putfield_0, ↓v1_getstatic, ↓v1_iaload, ↓v1_laload, ↓v1_baload, ↓v1_aaload, ↓v1_iastore, ↓v1_lastore, ↓v1_bastore, ↓v1_aastore_0, ↓v1_arraylength, ↓v1_new_0, ↓v1_newarray, ↓v1_anewarray, ↓v1_invokestatic_0, ↓v1_invokestatic_1, ↓v1_invokestatic_2a, ↓v1_invokevirtual_0, ↓v1_invokespecial_0, ↓v1_invokespecial_1a, ↓v1_invokespecial_1b, ↓vi_ii_e, ↓vi_i_e, ↓vi_jj_e, ↓vi_j_e, ↓vi_ij_e, ↓vi_r_e, ↓vi_rr_e, ↓vi_o_e, ↓vi_ir_e, ↓vi_iir_e, ↓vi_jir_e, ↓vi_rir_e, ↓vi_pop_z, ↓vi_pop_s, ↓vi_sw_n, ↓vi_sw_c, ↓vi_li_z, ↓vi_li_s, ↓vi_ll_z, ↓vi_ll_s, ↓vi_lr_z, ↓vi_lr_s, ↓vi_ret_l, ↓vi_ret_r, vi_sv, vg_set1, vg_set2, vg_lo, List.headD, List.contains_nil, List.contains_cons, Bool.or_false, Bool.false_eq_true, if_false, if_true, Nat.reduceAdd, Nat.reduceBEq, List.nil_append, List.cons_append, List.append_nil, Option.toList, Int32.reduceOfNat, Int64.reduceOfNat, reduceCtorEq, Nat.reduceLeDiff, Nat.le_refl, Nat.zero_le, true_and, and_true, false_or, or_false, or_true, true_or, and_self, not_true_eq_false, not_false_eq_true, forall_const, false_implies, true_implies, Sum.inl.injEq, Sum.inr.injEq, Option.some.injEq, eq_self, oI_1, oI_m, oI_5, oI_L, vi_ws_nil, vi_ws_I, vi_ws_J, vi_ws_R, wi_k, wi_n, wi_r, wi_l, wr_k, wr_n, wr_i, wr_l, wl_k, wl_n, wl_i, wl_r, Nat.reduceSub, Nat.reduceMul, cL_1b_236, cL_1b_277, aL_1b_236, aL_1b_277, mc_169, ms_169, mr_169, mh_169, ml_169, mc_148, ms_148, mc_154, ms_154]
    exact hQ S2 h2 _ _ _ _ (hL.both ce mp of iv) (by omega) (by omega)
  refine vr_callSH (N := MT 180) (as := [.inr (.inr (some b)), .inl p1, .inl p2, .inl p3, .inl p4]) (st := []) (n := 5) (vg_inW 356 rfl rfl) mh_180 (vg_inW 358 rfl rfl) (vg_inW 49 rfl rfl) (by decide +kernel) (by decide +kernel) (vg_inW 357 rfl rfl) rfl (by decide +kernel) (by simp) ⟨by rw [mc_180, mc_169]; omega, by rw [ms_180, ms_169]; omega⟩ hc (fun v h1 q => ?_) (fun j h1 q => ?_)
  · obtain ⟨w, S', q1, q2, q3⟩ := q
    injection q1 with q1
    subst q1
    exact after w S' h1 q2 q3
  · obtain ⟨w, S', q1, _⟩ := q
    cases q1
theorem hh_1 {p1 p2 p3 p4 κ : Int32} {X : SS} (hL : LI G b n k S h) (hC : vg_C G (MT 55) [.inr (.inr (some b)), .inl p1, .inl p2, .inl p3, .inl p4] h (CW G b S h κ X)) : vg_C G (MT 180) [.inr (.inr (some b)), .inl p1, .inl p2, .inl p3, .inl p4] h (fun o h1 => ∃ w S', o = .inl (some (.inl w)) ∧ RW κ S X w S' ∧ CE G b S' h h1) := by
  have x1 : h.1 b = 10 := by obtain ⟨⟨A, x1, _⟩, _⟩ := hL; exact x1.1.1
  refine c_180 x1 hC (fun v h' q => ?_) (fun j h' q => ?_)
  · rcases q with ⟨q1, q2, q3⟩ | ⟨q1, _⟩ | ⟨q1, _⟩
    · injection q1 with q1
      exact ⟨q1, 0, X, rfl, Or.inr ⟨q2, rfl, rfl⟩, q3⟩
    · cases q1
    · cases q1
  · rcases q with ⟨q1, _⟩ | ⟨q1, q2, q3⟩ | ⟨q1, q2, q3⟩
    · cases q1
    · injection q1 with q1
      exact Or.inl ⟨q1, 1, S, rfl, Or.inl ⟨by rw [q2]; decide, q2.symm, rfl⟩, q3⟩
    · injection q1 with q1
      exact Or.inr ⟨q1, 2, S, rfl, Or.inl ⟨by rw [q2]; decide, q2.symm, rfl⟩, q3⟩
set_option maxRecDepth 100000 in
theorem wk_2 {uc us : Nat} {p1 p2 p3 : Int32} {R : Int32 → SS → Prop} (hL : LI G b n k S h) (hk : 5 * k + 5 ≤ n) (hn : n ≤ 2560) (hu : uc ≤ 100 + 10 * k) (hs : us ≤ 400000 + 100 * k) (y1 : h.2.2.1 (G.2.2.2.2 4) (5 * k + 1) = p1) (y2 : h.2.2.1 (G.2.2.2.2 4) (5 * k + 2) = p2) (y3 : h.2.2.1 (G.2.2.2.2 4) (5 * k + 3) = p3) (hQ : ∀ S' h' uc' us' (u v : Option vg_V), LI G b n (k + 1) S' h' → uc' ≤ 100 + 10 * (k + 1) → us' ≤ 400000 + 100 * (k + 1) → vg_A G (MT 169) uc' us' 1964 [some (.inr (.inr (some (G.2.2.2.2 4)))), some (.inr (.inr (some b))), some (.inr (.inr (some (b + 37)))), some (.inr (.inr (some (b + 80)))), some (.inl (nI (5 * k))), u, v] [] h' Q) (hc : vg_C G (MT 166) [.inr (.inr (some b)), .inl p1, .inl p2, .inl p3] h (fun o h1 => ∃ w S', o = .inl (some (.inl w)) ∧ R w S' ∧ CE G b S' h h1)) (hm : ∀ w S' h1, R w S' → MX b S h1 → vg_C G (MT 119) [.inr (.inr (some (b + 37))), .inl p1, .inl p2, .inl p3] h1 (PW b k w S' h1)) : vg_A G (MT 169) uc us 280 [some (.inr (.inr (some (G.2.2.2.2 4)))), some (.inr (.inr (some b))), some (.inr (.inr (some (b + 37)))), some (.inr (.inr (some (b + 80)))), some (.inl (nI (5 * k))), none, none] [] h Q := by
  have s1 := hL.2.2.2.2.2.1
  have s2 := hL.2.2.2.2.2.2
  have c1 := nI_clamp (show 5 * k + 1 < 2 ^ 31 by omega)
  have i1 : vp_in (nI (5 * k + 1)) n := vp_nI (by omega) (by omega)
  have c2 := nI_clamp (show 5 * k + 2 < 2 ^ 31 by omega)
  have i2 : vp_in (nI (5 * k + 2)) n := vp_nI (by omega) (by omega)
  have c3 := nI_clamp (show 5 * k + 3 < 2 ^ 31 by omega)
  have i3 : vp_in (nI (5 * k + 3)) n := vp_nI (by omega) (by omega)
  refine vi_run oL_2a [299] 60 ?_
  rw [aL_2a_280]
  simp only [↓reduceIte, vi_go_c, ↓v1_iadd, ↓v1_isub, ↓v1_imul, ↓v1_iand, ↓v1_idiv, ↓v1_irem, ↓v1_ineg, ↓v1_ladd, ↓v1_lsub, ↓v1_land, ↓v1_lcmp, ↓v1_lshl, ↓v1_lshr, ↓v1_i2l, ↓v1_l2i, ↓v1_iconst_0, ↓v1_iconst_m, ↓v1_bipush, ↓v1_sipush, ↓v1_ldc, ↓v1_ldc_w, ↓v1_lconst, ↓v1_ldc2_w, ↓v1_aconst_null, ↓v1_iload, ↓v1_iload_n, ↓v1_lload, ↓v1_lload_n, ↓v1_aload, ↓v1_aload_n, ↓v1_istore, ↓v1_istore_n, ↓v1_lstore, ↓v1_lstore_n, ↓v1_astore, ↓v1_astore_n, ↓v1_iinc, ↓v1_dup, ↓v1_dup2, ↓v1_ifCond_eq, ↓v1_ifCond_ne, ↓v1_ifCond_lt, ↓v1_ifCond_ge, ↓v1_ifCond_gt, ↓v1_ifCond_le, ↓v1_if_icmp_eq, ↓v1_if_icmp_ne, ↓v1_if_icmp_lt, ↓v1_if_icmp_ge, ↓v1_if_icmp_gt, ↓v1_if_icmp_le, ↓v1_if_acmp_ne, ↓v1_ifnull, ↓v1_ifnonnull, ↓v1_goto, ↓v1_tableswitch_0, ↓v1_return_, ↓v1_ireturn, ↓v1_lreturn, ↓v1_areturn, ↓v1_getfield_0, ↓v1_putfield_0, ↓v1_getstatic, ↓v1_iaload, ↓v1_laload, ↓v1_baload, ↓v1_aaload, ↓v1_iastore, ↓v1_lastore, ↓v1_bastore, ↓v1_aastore_0, ↓v1_arraylength, ↓v1_new_0, ↓v1_newarray, ↓v1_anewarray, ↓v1_invokestatic_0, ↓v1_invokestatic_1, ↓v1_invokestatic_2a, ↓v1_invokevirtual_0, ↓v1_invokespecial_0, ↓v1_invokespecial_1a, ↓v1_invokespecial_1b, ↓vi_ii_e, ↓vi_i_e, ↓vi_jj_e, ↓vi_j_e, ↓vi_ij_e, ↓vi_r_e, ↓vi_rr_e, ↓vi_o_e, ↓vi_ir_e, ↓vi_iir_e, ↓vi_jir_e, ↓vi_rir_e, ↓vi_pop_z, ↓vi_pop_s, ↓vi_sw_n, ↓vi_sw_c, ↓vi_li_z, ↓vi_li_s, ↓vi_ll_z, ↓vi_ll_s, ↓vi_lr_z, ↓vi_lr_s, ↓vi_ret_l, ↓vi_ret_r, vi_sv, vg_set1, vg_set2, vg_lo, List.headD, List.contains_nil, List.contains_cons, Bool.or_false, Bool.false_eq_true, if_false, if_true, Nat.reduceAdd, Nat.reduceBEq, List.nil_append, List.cons_append, List.append_nil, Option.toList, Int32.reduceOfNat, Int64.reduceOfNat, reduceCtorEq, Nat.reduceLeDiff, Nat.le_refl, Nat.zero_le, true_and, and_true, false_or, or_false, or_true, true_or, and_self, not_true_eq_false, not_false_eq_true, forall_const, false_implies, true_implies, Sum.inl.injEq, Sum.inr.injEq, Option.some.injEq, eq_self, oI_1, oI_m, oI_5, oI_L, vi_ws_nil, vi_ws_I, vi_ws_J, vi_ws_R, wi_k, wi_n, wi_r, wi_l, wr_k, wr_n, wr_i, wr_l, wl_k, wl_n, wl_i, wl_r, Nat.reduceSub, Nat.reduceMul, cL_2a_280, aL_2a_280, mc_169, ms_169, mr_169, mh_169, ml_169, s1, s2]
  intro v1 e1
  rw [show (1 : Int32) = nI 1 from rfl, nI_add] at e1
  subst e1
  refine ⟨i1, fun v2 e2 => ?_⟩
  rw [show (2 : Int32) = nI 2 from rfl, nI_add] at e2
  subst e2
  refine ⟨i2, fun v3 e3 => ?_⟩
  rw [show (3 : Int32) = nI 3 from rfl, nI_add] at e3
  subst e3
  refine ⟨i3, ?_⟩
  rw [c1, y1, c2, y2, c3, y3]
  have after : ∀ w S' h1, R w S' → CE G b S' h h1 → vg_A G (MT 169) (uc + 2) (us + 12) 302 [some (.inr (.inr (some (G.2.2.2.2 4)))), some (.inr (.inr (some b))), some (.inr (.inr (some (b + 37)))), some (.inr (.inr (some (b + 80)))), some (.inl (nI (5 * k))), none, none] [.inl w] h1 Q := by
    intro w S' h1 hR ce
    have X := hL.cl ce
    obtain ⟨m1, m2, m3, m4, m5, m6⟩ := X
    have row := hL.row ce
    have z1 := (row (5 * k + 1)).trans y1
    have z2 := (row (5 * k + 2)).trans y2
    have z3 := (row (5 * k + 3)).trans y3
    refine vi_run oL_2b [1964] 80 ?_
    rw [aL_2b_302]
    simp only [↓reduceIte, vi_go_c, ↓v1_iadd, ↓v1_isub, ↓v1_imul, ↓v1_iand, ↓v1_idiv, ↓v1_irem, ↓v1_ineg, ↓v1_ladd, ↓v1_lsub, ↓v1_land, ↓v1_lcmp, ↓v1_lshl, ↓v1_lshr, ↓v1_i2l, ↓v1_l2i, ↓v1_iconst_0, ↓v1_iconst_m, ↓v1_bipush, ↓v1_sipush, ↓v1_ldc, ↓v1_ldc_w, ↓v1_lconst, ↓v1_ldc2_w, ↓v1_aconst_null, ↓v1_iload, ↓v1_iload_n, ↓v1_lload, ↓v1_lload_n, ↓v1_aload, ↓v1_aload_n, ↓v1_istore, ↓v1_istore_n, ↓v1_lstore, ↓v1_lstore_n, ↓v1_astore, ↓v1_astore_n, ↓v1_iinc, ↓v1_dup, ↓v1_dup2, ↓v1_ifCond_eq, ↓v1_ifCond_ne, ↓v1_ifCond_lt, ↓v1_ifCond_ge, ↓v1_ifCond_gt, ↓v1_ifCond_le, ↓v1_if_icmp_eq, ↓v1_if_icmp_ne, ↓v1_if_icmp_lt, ↓v1_if_icmp_ge, ↓v1_if_icmp_gt, ↓v1_if_icmp_le, ↓v1_if_acmp_ne, ↓v1_ifnull, ↓v1_ifnonnull, ↓v1_goto, ↓v1_tableswitch_0, ↓v1_return_, ↓v1_ireturn, ↓v1_lreturn, ↓v1_areturn, ↓v1_getfield_0, ↓v1_putfield_0, ↓v1_getstatic, ↓v1_iaload, ↓v1_laload, ↓v1_baload, ↓v1_aaload, ↓v1_iastore, ↓v1_lastore, ↓v1_bastore, ↓v1_aastore_0, ↓v1_arraylength, ↓v1_new_0, ↓v1_newarray, ↓v1_anewarray, ↓v1_invokestatic_0, ↓v1_invokestatic_1, ↓v1_invokestatic_2a, ↓v1_invokevirtual_0, ↓v1_invokespecial_0, ↓v1_invokespecial_1a, ↓v1_invokespecial_1b, ↓vi_ii_e, ↓vi_i_e, ↓vi_jj_e, ↓vi_j_e, ↓vi_ij_e, ↓vi_r_e, ↓vi_rr_e, ↓vi_o_e, ↓vi_ir_e, ↓vi_iir_e, ↓vi_jir_e, ↓vi_rir_e, ↓vi_pop_z, ↓vi_pop_s, ↓vi_sw_n, ↓vi_sw_c, ↓vi_li_z, ↓vi_li_s, ↓vi_ll_z, ↓vi_ll_s, ↓vi_lr_z, ↓vi_lr_s, ↓vi_ret_l, ↓vi_ret_r, vi_sv, vg_set1, vg_set2, vg_lo, List.headD, List.contains_nil, List.contains_cons, Bool.or_false, Bool.false_eq_true, if_false, if_true, Nat.reduceAdd, Nat.reduceBEq, List.nil_append, List.cons_append, List.append_nil, Option.toList, Int32.reduceOfNat, Int64.reduceOfNat, reduceCtorEq, Nat.reduceLeDiff, Nat.le_refl, Nat.zero_le, true_and, and_true, false_or, or_false, or_true, true_or, and_self, not_true_eq_false, not_false_eq_true, forall_const, false_implies, true_implies, Sum.inl.injEq, Sum.inr.injEq, Option.some.injEq, eq_self, oI_1, oI_m, oI_5, oI_L, vi_ws_nil, vi_ws_I, vi_ws_J, vi_ws_R, wi_k, wi_n, wi_r, wi_l, wr_k, wr_n, wr_i, wr_l, wl_k, wl_n, wl_i, wl_r, Nat.reduceSub, Nat.reduceMul, cL_2b_302, cL_2b_337, aL_2b_302, aL_2b_337, mc_169, ms_169, mr_169, mh_169, ml_169, mc_119, ms_119, mc_154, ms_154, m4, m5, m6]
    intro v1 e1
    rw [show (1 : Int32) = nI 1 from rfl, nI_add] at e1
    subst e1
    refine ⟨i1, fun v2 e2 => ?_⟩
    rw [show (2 : Int32) = nI 2 from rfl, nI_add] at e2
    subst e2
    refine ⟨i2, fun v3 e3 => ?_⟩
    rw [show (3 : Int32) = nI 3 from rfl, nI_add] at e3
    subst e3
    refine ⟨i3, ⟨by omega, by omega⟩, ?_⟩
    rw [c1, z1, c2, z2, c3, z3]
    refine (hm w S' h1 hR m1).mono (fun o h2 q => ?_)
    obtain ⟨S2, rfl, mp, of, iv⟩ := q
    have k1 := mp.mx.1
    simp only [↓reduceIte, vi_go_c, ↓v1_iadd, ↓v1_isub, ↓v1_imul, ↓v1_iand, ↓v1_idiv, ↓v1_irem, ↓v1_ineg, ↓v1_ladd, ↓v1_lsub, ↓v1_land, ↓v1_lcmp, ↓v1_lshl, ↓v1_lshr, ↓v1_i2l, ↓v1_l2i, ↓v1_iconst_0, ↓v1_iconst_m, ↓v1_bipush, ↓v1_sipush, ↓v1_ldc, ↓v1_ldc_w, ↓v1_lconst, ↓v1_ldc2_w, ↓v1_aconst_null, ↓v1_iload, ↓v1_iload_n, ↓v1_lload, ↓v1_lload_n, ↓v1_aload, ↓v1_aload_n, ↓v1_istore, ↓v1_istore_n, ↓v1_lstore, ↓v1_lstore_n, ↓v1_astore, ↓v1_astore_n, ↓v1_iinc, ↓v1_dup, ↓v1_dup2, ↓v1_ifCond_eq, ↓v1_ifCond_ne, ↓v1_ifCond_lt, ↓v1_ifCond_ge, ↓v1_ifCond_gt, ↓v1_ifCond_le, ↓v1_if_icmp_eq, ↓v1_if_icmp_ne, ↓v1_if_icmp_lt, ↓v1_if_icmp_ge, ↓v1_if_icmp_gt, ↓v1_if_icmp_le, ↓v1_if_acmp_ne, ↓v1_ifnull, ↓v1_ifnonnull, ↓v1_goto, ↓v1_tableswitch_0, ↓v1_return_, ↓v1_ireturn, ↓v1_lreturn, ↓v1_areturn, ↓v1_getfield_0, ↓v1_putfield_0, ↓v1_getstatic, ↓v1_iaload, ↓v1_laload, ↓v1_baload, ↓v1_aaload, ↓v1_iastore, ↓v1_lastore, ↓v1_bastore, ↓v1_aastore_0, ↓v1_arraylength, ↓v1_new_0, ↓v1_newarray, ↓v1_anewarray, ↓v1_invokestatic_0, ↓v1_invokestatic_1, ↓v1_invokestatic_2a, ↓v1_invokevirtual_0, ↓v1_invokespecial_0, ↓v1_invokespecial_1a, ↓v1_invokespecial_1b, ↓vi_ii_e, ↓vi_i_e, ↓vi_jj_e, ↓vi_j_e, ↓vi_ij_e, ↓vi_r_e, ↓vi_rr_e, ↓vi_o_e, ↓vi_ir_e, ↓vi_iir_e, ↓vi_jir_e, ↓vi_rir_e, ↓vi_pop_z, ↓vi_pop_s, ↓vi_sw_n, ↓vi_sw_c, ↓vi_li_z, ↓vi_li_s, ↓vi_ll_z, ↓vi_ll_s, ↓vi_lr_z, ↓vi_lr_s, ↓vi_ret_l, ↓vi_ret_r, vi_sv, vg_set1, vg_set2, vg_lo, List.headD, List.contains_nil, List.contains_cons, Bool.or_false, Bool.false_eq_true, if_false, if_true, Nat.reduceAdd, Nat.reduceBEq, List.nil_append, List.cons_append, List.append_nil, Option.toList, Int32.reduceOfNat, Int64.reduceOfNat, reduceCtorEq, Nat.reduceLeDiff, Nat.le_refl, Nat.zero_le, true_and, and_true, false_or, or_false, or_true, true_or, and_self, not_true_eq_false, not_false_eq_true, forall_const, false_implies, true_implies, Sum.inl.injEq, Sum.inr.injEq, Option.some.injEq, eq_self, oI_1, oI_m, oI_5, oI_L, vi_ws_nil, vi_ws_I, vi_ws_J, vi_ws_R, wi_k, wi_n, wi_r, wi_l, wr_k, wr_n, wr_i, wr_l, wl_k, wl_n, wl_i, wl_r, Nat.reduceSub, Nat.reduceMul, cL_2b_302, cL_2b_337, aL_2b_302, aL_2b_337, mc_169, ms_169, mr_169, mh_169, ml_169, mc_119, ms_119, mc_154, ms_154, k1]
    refine ⟨⟨by omega, by omega⟩, c_154 k1 ?_⟩
    rw [mp.2]
    simp only [↓reduceIte, vi_go_c, ↓v1_iadd, ↓v1_isub, ↓v1_imul, ↓v1_iand, ↓v1_idiv, ↓v1_irem, ↓v1_ineg, ↓v1_ladd, ↓v1_lsub, ↓v1_land, ↓v1_lcmp, ↓v1_lshl, ↓v1_lshr, ↓v1_i2l, ↓v1_l2i, ↓v1_iconst_0, ↓v1_iconst_m, ↓v1_bipush, ↓v1_sipush, ↓v1_ldc, ↓v1_ldc_w, ↓v1_lconst, ↓v1_ldc2_w, ↓v1_aconst_null, ↓v1_iload, ↓v1_iload_n, ↓v1_lload, ↓v1_lload_n, ↓v1_aload, ↓v1_aload_n, ↓v1_istore, ↓v1_istore_n, ↓v1_lstore, ↓v1_lstore_n, ↓v1_astore, ↓v1_astore_n, ↓v1_iinc, ↓v1_dup, ↓v1_dup2, ↓v1_ifCond_eq, ↓v1_ifCond_ne, ↓v1_ifCond_lt, ↓v1_ifCond_ge, ↓v1_ifCond_gt, ↓v1_ifCond_le, ↓v1_if_icmp_eq, ↓v1_if_icmp_ne, ↓v1_if_icmp_lt, ↓v1_if_icmp_ge, ↓v1_if_icmp_gt, ↓v1_if_icmp_le, ↓v1_if_acmp_ne, ↓v1_ifnull, ↓v1_ifnonnull, ↓v1_goto, ↓v1_tableswitch_0, ↓v1_return_, ↓v1_ireturn, ↓v1_lreturn, ↓v1_areturn, ↓v1_getfield_0, ↓v1_putfield_0, ↓v1_getstatic, ↓v1_iaload, ↓v1_laload, ↓v1_baload, ↓v1_aaload, ↓v1_iastore, ↓v1_lastore, ↓v1_bastore, ↓v1_aastore_0, ↓v1_arraylength, ↓v1_new_0, ↓v1_newarray, ↓v1_anewarray, ↓v1_invokestatic_0, ↓v1_invokestatic_1, ↓v1_invokestatic_2a, ↓v1_invokevirtual_0, ↓v1_invokespecial_0, ↓v1_invokespecial_1a, ↓v1_invokespecial_1b, ↓vi_ii_e, ↓vi_i_e, ↓vi_jj_e, ↓vi_j_e, ↓vi_ij_e, ↓vi_r_e, ↓vi_rr_e, ↓vi_o_e, ↓vi_ir_e, ↓vi_iir_e, ↓vi_jir_e, ↓vi_rir_e, ↓vi_pop_z, ↓vi_pop_s, ↓vi_sw_n, ↓vi_sw_c, ↓vi_li_z, ↓vi_li_s, ↓vi_ll_z, ↓vi_ll_s, ↓vi_lr_z, ↓vi_lr_s, ↓vi_ret_l, ↓vi_ret_r, vi_sv, vg_set1, vg_set2, vg_lo, List.headD, List.contains_nil, List.contains_cons, Bool.or_false, Bool.false_eq_true, if_false, if_true, Nat.reduceAdd, Nat.reduceBEq, List.nil_append, List.cons_append, List.append_nil, Option.toList, Int32.reduceOfNat, Int64.reduceOfNat, reduceCtorEq, Nat.reduceLeDiff, Nat.le_refl, Nat.zero_le, true_and, and_true, false_or, or_false, or_true, true_or, and_self, not_true_eq_false, not_false_eq_true, forall_const, false_implies, true_implies, Sum.inl.injEq, Sum.inr.injEq, Option.some.injEq, eq_self, oI_1, oI_m, oI_5, oI_L, vi_ws_nil, vi_ws_I, vi_ws_J, vi_ws_R, wi_k, wi_n, wi_r, wi_l, wr_k, wr_n, wr_i, wr_l, wl_k, wl_n, wl_i, wl_r, Nat.reduceSub, Nat.reduceMul, cL_2b_302, cL_2b_337, aL_2b_302, aL_2b_337, mc_169, ms_169, mr_169, mh_169, ml_169, mc_119, ms_119, mc_154, ms_154]
    exact hQ S2 h2 _ _ _ _ (hL.both ce mp of iv) (by omega) (by omega)
  refine vr_callSH (N := MT 166) (as := [.inr (.inr (some b)), .inl p1, .inl p2, .inl p3]) (st := []) (n := 4) (vg_inW 399 rfl rfl) mh_166 (vg_inW 401 rfl rfl) (vg_inW 49 rfl rfl) (by decide +kernel) (by decide +kernel) (vg_inW 400 rfl rfl) rfl (by decide +kernel) (by simp) ⟨by rw [mc_166, mc_169]; omega, by rw [ms_166, ms_169]; omega⟩ hc (fun v h1 q => ?_) (fun j h1 q => ?_)
  · obtain ⟨w, S', q1, q2, q3⟩ := q
    injection q1 with q1
    subst q1
    exact after w S' h1 q2 q3
  · obtain ⟨w, S', q1, _⟩ := q
    cases q1
theorem hh_2 {p1 p2 p3 κ : Int32} {X : SS} (hL : LI G b n k S h) (hC : vg_C G (MT 23) [.inr (.inr (some b)), .inl p1, .inl p2, .inl p3] h (CW G b S h κ X)) : vg_C G (MT 166) [.inr (.inr (some b)), .inl p1, .inl p2, .inl p3] h (fun o h1 => ∃ w S', o = .inl (some (.inl w)) ∧ RW κ S X w S' ∧ CE G b S' h h1) := by
  have x1 : h.1 b = 10 := by obtain ⟨⟨A, x1, _⟩, _⟩ := hL; exact x1.1.1
  refine c_166 x1 hC (fun v h' q => ?_) (fun j h' q => ?_)
  · rcases q with ⟨q1, q2, q3⟩ | ⟨q1, _⟩ | ⟨q1, _⟩
    · injection q1 with q1
      exact ⟨q1, 0, X, rfl, Or.inr ⟨q2, rfl, rfl⟩, q3⟩
    · cases q1
    · cases q1
  · rcases q with ⟨q1, _⟩ | ⟨q1, q2, q3⟩ | ⟨q1, q2, q3⟩
    · cases q1
    · injection q1 with q1
      exact Or.inl ⟨q1, 1, S, rfl, Or.inl ⟨by rw [q2]; decide, q2.symm, rfl⟩, q3⟩
    · injection q1 with q1
      exact Or.inr ⟨q1, 2, S, rfl, Or.inl ⟨by rw [q2]; decide, q2.symm, rfl⟩, q3⟩
set_option maxRecDepth 100000 in
theorem wk_3 {uc us : Nat} {p1 p2 : Int32} {R : Int32 → SS → Prop} (hL : LI G b n k S h) (hk : 5 * k + 5 ≤ n) (hn : n ≤ 2560) (hu : uc ≤ 100 + 10 * k) (hs : us ≤ 400000 + 100 * k) (y1 : h.2.2.1 (G.2.2.2.2 4) (5 * k + 1) = p1) (y2 : h.2.2.1 (G.2.2.2.2 4) (5 * k + 2) = p2) (hQ : ∀ S' h' uc' us' (u v : Option vg_V), LI G b n (k + 1) S' h' → uc' ≤ 100 + 10 * (k + 1) → us' ≤ 400000 + 100 * (k + 1) → vg_A G (MT 169) uc' us' 1964 [some (.inr (.inr (some (G.2.2.2.2 4)))), some (.inr (.inr (some b))), some (.inr (.inr (some (b + 37)))), some (.inr (.inr (some (b + 80)))), some (.inl (nI (5 * k))), u, v] [] h' Q) (hc : vg_C G (MT 165) [.inr (.inr (some b)), .inl p1, .inl p2] h (fun o h1 => ∃ w S', o = .inl (some (.inl w)) ∧ R w S' ∧ CE G b S' h h1)) (hm : ∀ w S' h1, R w S' → MX b S h1 → vg_C G (MT 115) [.inr (.inr (some (b + 37))), .inl p1, .inl p2] h1 (PW b k w S' h1)) : vg_A G (MT 169) uc us 340 [some (.inr (.inr (some (G.2.2.2.2 4)))), some (.inr (.inr (some b))), some (.inr (.inr (some (b + 37)))), some (.inr (.inr (some (b + 80)))), some (.inl (nI (5 * k))), none, none] [] h Q := by
  have s1 := hL.2.2.2.2.2.1
  have s2 := hL.2.2.2.2.2.2
  have c1 := nI_clamp (show 5 * k + 1 < 2 ^ 31 by omega)
  have i1 : vp_in (nI (5 * k + 1)) n := vp_nI (by omega) (by omega)
  have c2 := nI_clamp (show 5 * k + 2 < 2 ^ 31 by omega)
  have i2 : vp_in (nI (5 * k + 2)) n := vp_nI (by omega) (by omega)
  refine vi_run oL_3a [353] 60 ?_
  rw [aL_3a_340]
  simp only [↓reduceIte, vi_go_c, ↓v1_iadd, ↓v1_isub, ↓v1_imul, ↓v1_iand, ↓v1_idiv, ↓v1_irem, ↓v1_ineg, ↓v1_ladd, ↓v1_lsub, ↓v1_land, ↓v1_lcmp, ↓v1_lshl, ↓v1_lshr, ↓v1_i2l, ↓v1_l2i, ↓v1_iconst_0, ↓v1_iconst_m, ↓v1_bipush, ↓v1_sipush, ↓v1_ldc, ↓v1_ldc_w, ↓v1_lconst, ↓v1_ldc2_w, ↓v1_aconst_null, ↓v1_iload, ↓v1_iload_n, ↓v1_lload, ↓v1_lload_n, ↓v1_aload, ↓v1_aload_n, ↓v1_istore, ↓v1_istore_n, ↓v1_lstore, ↓v1_lstore_n, ↓v1_astore, ↓v1_astore_n, ↓v1_iinc, ↓v1_dup, ↓v1_dup2, ↓v1_ifCond_eq, ↓v1_ifCond_ne, ↓v1_ifCond_lt, ↓v1_ifCond_ge, ↓v1_ifCond_gt, ↓v1_ifCond_le, ↓v1_if_icmp_eq, ↓v1_if_icmp_ne, ↓v1_if_icmp_lt, ↓v1_if_icmp_ge, ↓v1_if_icmp_gt, ↓v1_if_icmp_le, ↓v1_if_acmp_ne, ↓v1_ifnull, ↓v1_ifnonnull, ↓v1_goto, ↓v1_tableswitch_0, ↓v1_return_, ↓v1_ireturn, ↓v1_lreturn, ↓v1_areturn, ↓v1_getfield_0, ↓v1_putfield_0, ↓v1_getstatic, ↓v1_iaload, ↓v1_laload, ↓v1_baload, ↓v1_aaload, ↓v1_iastore, ↓v1_lastore, ↓v1_bastore, ↓v1_aastore_0, ↓v1_arraylength, ↓v1_new_0, ↓v1_newarray, ↓v1_anewarray, ↓v1_invokestatic_0, ↓v1_invokestatic_1, ↓v1_invokestatic_2a, ↓v1_invokevirtual_0, ↓v1_invokespecial_0, ↓v1_invokespecial_1a, ↓v1_invokespecial_1b, ↓vi_ii_e, ↓vi_i_e, ↓vi_jj_e, ↓vi_j_e, ↓vi_ij_e, ↓vi_r_e, ↓vi_rr_e, ↓vi_o_e, ↓vi_ir_e, ↓vi_iir_e, ↓vi_jir_e, ↓vi_rir_e, ↓vi_pop_z, ↓vi_pop_s, ↓vi_sw_n, ↓vi_sw_c, ↓vi_li_z, ↓vi_li_s, ↓vi_ll_z, ↓vi_ll_s, ↓vi_lr_z, ↓vi_lr_s, ↓vi_ret_l, ↓vi_ret_r, vi_sv, vg_set1, vg_set2, vg_lo, List.headD, List.contains_nil, List.contains_cons, Bool.or_false, Bool.false_eq_true, if_false, if_true, Nat.reduceAdd, Nat.reduceBEq, List.nil_append, List.cons_append, List.append_nil, Option.toList, Int32.reduceOfNat, Int64.reduceOfNat, reduceCtorEq, Nat.reduceLeDiff, Nat.le_refl, Nat.zero_le, true_and, and_true, false_or, or_false, or_true, true_or, and_self, not_true_eq_false, not_false_eq_true, forall_const, false_implies, true_implies, Sum.inl.injEq, Sum.inr.injEq, Option.some.injEq, eq_self, oI_1, oI_m, oI_5, oI_L, vi_ws_nil, vi_ws_I, vi_ws_J, vi_ws_R, wi_k, wi_n, wi_r, wi_l, wr_k, wr_n, wr_i, wr_l, wl_k, wl_n, wl_i, wl_r, Nat.reduceSub, Nat.reduceMul, cL_3a_340, aL_3a_340, mc_169, ms_169, mr_169, mh_169, ml_169, s1, s2]
  intro v1 e1
  rw [show (1 : Int32) = nI 1 from rfl, nI_add] at e1
  subst e1
  refine ⟨i1, fun v2 e2 => ?_⟩
  rw [show (2 : Int32) = nI 2 from rfl, nI_add] at e2
  subst e2
  refine ⟨i2, ?_⟩
  rw [c1, y1, c2, y2]
  have after : ∀ w S' h1, R w S' → CE G b S' h h1 → vg_A G (MT 169) (uc + 2) (us + 12) 356 [some (.inr (.inr (some (G.2.2.2.2 4)))), some (.inr (.inr (some b))), some (.inr (.inr (some (b + 37)))), some (.inr (.inr (some (b + 80)))), some (.inl (nI (5 * k))), none, none] [.inl w] h1 Q := by
    intro w S' h1 hR ce
    have X := hL.cl ce
    obtain ⟨m1, m2, m3, m4, m5, m6⟩ := X
    have row := hL.row ce
    have z1 := (row (5 * k + 1)).trans y1
    have z2 := (row (5 * k + 2)).trans y2
    refine vi_run oL_3b [1964] 80 ?_
    rw [aL_3b_356]
    simp only [↓reduceIte, vi_go_c, ↓v1_iadd, ↓v1_isub, ↓v1_imul, ↓v1_iand, ↓v1_idiv, ↓v1_irem, ↓v1_ineg, ↓v1_ladd, ↓v1_lsub, ↓v1_land, ↓v1_lcmp, ↓v1_lshl, ↓v1_lshr, ↓v1_i2l, ↓v1_l2i, ↓v1_iconst_0, ↓v1_iconst_m, ↓v1_bipush, ↓v1_sipush, ↓v1_ldc, ↓v1_ldc_w, ↓v1_lconst, ↓v1_ldc2_w, ↓v1_aconst_null, ↓v1_iload, ↓v1_iload_n, ↓v1_lload, ↓v1_lload_n, ↓v1_aload, ↓v1_aload_n, ↓v1_istore, ↓v1_istore_n, ↓v1_lstore, ↓v1_lstore_n, ↓v1_astore, ↓v1_astore_n, ↓v1_iinc, ↓v1_dup, ↓v1_dup2, ↓v1_ifCond_eq, ↓v1_ifCond_ne, ↓v1_ifCond_lt, ↓v1_ifCond_ge, ↓v1_ifCond_gt, ↓v1_ifCond_le, ↓v1_if_icmp_eq, ↓v1_if_icmp_ne, ↓v1_if_icmp_lt, ↓v1_if_icmp_ge, ↓v1_if_icmp_gt, ↓v1_if_icmp_le, ↓v1_if_acmp_ne, ↓v1_ifnull, ↓v1_ifnonnull, ↓v1_goto, ↓v1_tableswitch_0, ↓v1_return_, ↓v1_ireturn, ↓v1_lreturn, ↓v1_areturn, ↓v1_getfield_0, ↓v1_putfield_0, ↓v1_getstatic, ↓v1_iaload, ↓v1_laload, ↓v1_baload, ↓v1_aaload, ↓v1_iastore, ↓v1_lastore, ↓v1_bastore, ↓v1_aastore_0, ↓v1_arraylength, ↓v1_new_0, ↓v1_newarray, ↓v1_anewarray, ↓v1_invokestatic_0, ↓v1_invokestatic_1, ↓v1_invokestatic_2a, ↓v1_invokevirtual_0, ↓v1_invokespecial_0, ↓v1_invokespecial_1a, ↓v1_invokespecial_1b, ↓vi_ii_e, ↓vi_i_e, ↓vi_jj_e, ↓vi_j_e, ↓vi_ij_e, ↓vi_r_e, ↓vi_rr_e, ↓vi_o_e, ↓vi_ir_e, ↓vi_iir_e, ↓vi_jir_e, ↓vi_rir_e, ↓vi_pop_z, ↓vi_pop_s, ↓vi_sw_n, ↓vi_sw_c, ↓vi_li_z, ↓vi_li_s, ↓vi_ll_z, ↓vi_ll_s, ↓vi_lr_z, ↓vi_lr_s, ↓vi_ret_l, ↓vi_ret_r, vi_sv, vg_set1, vg_set2, vg_lo, List.headD, List.contains_nil, List.contains_cons, Bool.or_false, Bool.false_eq_true, if_false, if_true, Nat.reduceAdd, Nat.reduceBEq, List.nil_append, List.cons_append, List.append_nil, Option.toList, Int32.reduceOfNat, Int64.reduceOfNat, reduceCtorEq, Nat.reduceLeDiff, Nat.le_refl, Nat.zero_le, true_and, and_true, false_or, or_false, or_true, true_or, and_self, not_true_eq_false, not_false_eq_true, forall_const, false_implies, true_implies, Sum.inl.injEq, Sum.inr.injEq, Option.some.injEq, eq_self, oI_1, oI_m, oI_5, oI_L, vi_ws_nil, vi_ws_I, vi_ws_J, vi_ws_R, wi_k, wi_n, wi_r, wi_l, wr_k, wr_n, wr_i, wr_l, wl_k, wl_n, wl_i, wl_r, Nat.reduceSub, Nat.reduceMul, cL_3b_356, cL_3b_385, aL_3b_356, aL_3b_385, mc_169, ms_169, mr_169, mh_169, ml_169, mc_115, ms_115, mc_154, ms_154, m4, m5, m6]
    intro v1 e1
    rw [show (1 : Int32) = nI 1 from rfl, nI_add] at e1
    subst e1
    refine ⟨i1, fun v2 e2 => ?_⟩
    rw [show (2 : Int32) = nI 2 from rfl, nI_add] at e2
    subst e2
    refine ⟨i2, ⟨by omega, by omega⟩, ?_⟩
    rw [c1, z1, c2, z2]
    refine (hm w S' h1 hR m1).mono (fun o h2 q => ?_)
    obtain ⟨S2, rfl, mp, of, iv⟩ := q
    have k1 := mp.mx.1
    simp only [↓reduceIte, vi_go_c, ↓v1_iadd, ↓v1_isub, ↓v1_imul, ↓v1_iand, ↓v1_idiv, ↓v1_irem, ↓v1_ineg, ↓v1_ladd, ↓v1_lsub, ↓v1_land, ↓v1_lcmp, ↓v1_lshl, ↓v1_lshr, ↓v1_i2l, ↓v1_l2i, ↓v1_iconst_0, ↓v1_iconst_m, ↓v1_bipush, ↓v1_sipush, ↓v1_ldc, ↓v1_ldc_w, ↓v1_lconst, ↓v1_ldc2_w, ↓v1_aconst_null, ↓v1_iload, ↓v1_iload_n, ↓v1_lload, ↓v1_lload_n, ↓v1_aload, ↓v1_aload_n, ↓v1_istore, ↓v1_istore_n, ↓v1_lstore, ↓v1_lstore_n, ↓v1_astore, ↓v1_astore_n, ↓v1_iinc, ↓v1_dup, ↓v1_dup2, ↓v1_ifCond_eq, ↓v1_ifCond_ne, ↓v1_ifCond_lt, ↓v1_ifCond_ge, ↓v1_ifCond_gt, ↓v1_ifCond_le, ↓v1_if_icmp_eq, ↓v1_if_icmp_ne, ↓v1_if_icmp_lt, ↓v1_if_icmp_ge, ↓v1_if_icmp_gt, ↓v1_if_icmp_le, ↓v1_if_acmp_ne, ↓v1_ifnull, ↓v1_ifnonnull, ↓v1_goto, ↓v1_tableswitch_0, ↓v1_return_, ↓v1_ireturn, ↓v1_lreturn, ↓v1_areturn, ↓v1_getfield_0, ↓v1_putfield_0, ↓v1_getstatic, ↓v1_iaload, ↓v1_laload, ↓v1_baload, ↓v1_aaload, ↓v1_iastore, ↓v1_lastore, ↓v1_bastore, ↓v1_aastore_0, ↓v1_arraylength, ↓v1_new_0, ↓v1_newarray, ↓v1_anewarray, ↓v1_invokestatic_0, ↓v1_invokestatic_1, ↓v1_invokestatic_2a, ↓v1_invokevirtual_0, ↓v1_invokespecial_0, ↓v1_invokespecial_1a, ↓v1_invokespecial_1b, ↓vi_ii_e, ↓vi_i_e, ↓vi_jj_e, ↓vi_j_e, ↓vi_ij_e, ↓vi_r_e, ↓vi_rr_e, ↓vi_o_e, ↓vi_ir_e, ↓vi_iir_e, ↓vi_jir_e, ↓vi_rir_e, ↓vi_pop_z, ↓vi_pop_s, ↓vi_sw_n, ↓vi_sw_c, ↓vi_li_z, ↓vi_li_s, ↓vi_ll_z, ↓vi_ll_s, ↓vi_lr_z, ↓vi_lr_s, ↓vi_ret_l, ↓vi_ret_r, vi_sv, vg_set1, vg_set2, vg_lo, List.headD, List.contains_nil, List.contains_cons, Bool.or_false, Bool.false_eq_true, if_false, if_true, Nat.reduceAdd, Nat.reduceBEq, List.nil_append, List.cons_append, List.append_nil, Option.toList, Int32.reduceOfNat, Int64.reduceOfNat, reduceCtorEq, Nat.reduceLeDiff, Nat.le_refl, Nat.zero_le, true_and, and_true, false_or, or_false, or_true, true_or, and_self, not_true_eq_false, not_false_eq_true, forall_const, false_implies, true_implies, Sum.inl.injEq, Sum.inr.injEq, Option.some.injEq, eq_self, oI_1, oI_m, oI_5, oI_L, vi_ws_nil, vi_ws_I, vi_ws_J, vi_ws_R, wi_k, wi_n, wi_r, wi_l, wr_k, wr_n, wr_i, wr_l, wl_k, wl_n, wl_i, wl_r, Nat.reduceSub, Nat.reduceMul, cL_3b_356, cL_3b_385, aL_3b_356, aL_3b_385, mc_169, ms_169, mr_169, mh_169, ml_169, mc_115, ms_115, mc_154, ms_154, k1]
    refine ⟨⟨by omega, by omega⟩, c_154 k1 ?_⟩
    rw [mp.2]
    simp only [↓reduceIte, vi_go_c, ↓v1_iadd, ↓v1_isub, ↓v1_imul, ↓v1_iand, ↓v1_idiv, ↓v1_irem, ↓v1_ineg, ↓v1_ladd, ↓v1_lsub, ↓v1_land, ↓v1_lcmp, ↓v1_lshl, ↓v1_lshr, ↓v1_i2l, ↓v1_l2i, ↓v1_iconst_0, ↓v1_iconst_m, ↓v1_bipush, ↓v1_sipush, ↓v1_ldc, ↓v1_ldc_w, ↓v1_lconst, ↓v1_ldc2_w, ↓v1_aconst_null, ↓v1_iload, ↓v1_iload_n, ↓v1_lload, ↓v1_lload_n, ↓v1_aload, ↓v1_aload_n, ↓v1_istore, ↓v1_istore_n, ↓v1_lstore, ↓v1_lstore_n, ↓v1_astore, ↓v1_astore_n, ↓v1_iinc, ↓v1_dup, ↓v1_dup2, ↓v1_ifCond_eq, ↓v1_ifCond_ne, ↓v1_ifCond_lt, ↓v1_ifCond_ge, ↓v1_ifCond_gt, ↓v1_ifCond_le, ↓v1_if_icmp_eq, ↓v1_if_icmp_ne, ↓v1_if_icmp_lt, ↓v1_if_icmp_ge, ↓v1_if_icmp_gt, ↓v1_if_icmp_le, ↓v1_if_acmp_ne, ↓v1_ifnull, ↓v1_ifnonnull, ↓v1_goto, ↓v1_tableswitch_0, ↓v1_return_, ↓v1_ireturn, ↓v1_lreturn, ↓v1_areturn, ↓v1_getfield_0, ↓v1_putfield_0, ↓v1_getstatic, ↓v1_iaload, ↓v1_laload, ↓v1_baload, ↓v1_aaload, ↓v1_iastore, ↓v1_lastore, ↓v1_bastore, ↓v1_aastore_0, ↓v1_arraylength, ↓v1_new_0, ↓v1_newarray, ↓v1_anewarray, ↓v1_invokestatic_0, ↓v1_invokestatic_1, ↓v1_invokestatic_2a, ↓v1_invokevirtual_0, ↓v1_invokespecial_0, ↓v1_invokespecial_1a, ↓v1_invokespecial_1b, ↓vi_ii_e, ↓vi_i_e, ↓vi_jj_e, ↓vi_j_e, ↓vi_ij_e, ↓vi_r_e, ↓vi_rr_e, ↓vi_o_e, ↓vi_ir_e, ↓vi_iir_e, ↓vi_jir_e, ↓vi_rir_e, ↓vi_pop_z, ↓vi_pop_s, ↓vi_sw_n, ↓vi_sw_c, ↓vi_li_z, ↓vi_li_s, ↓vi_ll_z, ↓vi_ll_s, ↓vi_lr_z, ↓vi_lr_s, ↓vi_ret_l, ↓vi_ret_r, vi_sv, vg_set1, vg_set2, vg_lo, List.headD, List.contains_nil, List.contains_cons, Bool.or_false, Bool.false_eq_true, if_false, if_true, Nat.reduceAdd, Nat.reduceBEq, List.nil_append, List.cons_append, List.append_nil, Option.toList, Int32.reduceOfNat, Int64.reduceOfNat, reduceCtorEq, Nat.reduceLeDiff, Nat.le_refl, Nat.zero_le, true_and, and_true, false_or, or_false, or_true, true_or, and_self, not_true_eq_false, not_false_eq_true, forall_const, false_implies, true_implies, Sum.inl.injEq, Sum.inr.injEq, Option.some.injEq, eq_self, oI_1, oI_m, oI_5, oI_L, vi_ws_nil, vi_ws_I, vi_ws_J, vi_ws_R, wi_k, wi_n, wi_r, wi_l, wr_k, wr_n, wr_i, wr_l, wl_k, wl_n, wl_i, wl_r, Nat.reduceSub, Nat.reduceMul, cL_3b_356, cL_3b_385, aL_3b_356, aL_3b_385, mc_169, ms_169, mr_169, mh_169, ml_169, mc_115, ms_115, mc_154, ms_154]
    exact hQ S2 h2 _ _ _ _ (hL.both ce mp of iv) (by omega) (by omega)
  refine vr_callSH (N := MT 165) (as := [.inr (.inr (some b)), .inl p1, .inl p2]) (st := []) (n := 3) (vg_inW 406 rfl rfl) mh_165 (vg_inW 408 rfl rfl) (vg_inW 49 rfl rfl) (by decide +kernel) (by decide +kernel) (vg_inW 407 rfl rfl) rfl (by decide +kernel) (by simp) ⟨by rw [mc_165, mc_169]; omega, by rw [ms_165, ms_169]; omega⟩ hc (fun v h1 q => ?_) (fun j h1 q => ?_)
  · obtain ⟨w, S', q1, q2, q3⟩ := q
    injection q1 with q1
    subst q1
    exact after w S' h1 q2 q3
  · obtain ⟨w, S', q1, _⟩ := q
    cases q1
theorem hh_3 {p1 p2 κ : Int32} {X : SS} (hL : LI G b n k S h) (hC : vg_C G (MT 22) [.inr (.inr (some b)), .inl p1, .inl p2] h (CW G b S h κ X)) : vg_C G (MT 165) [.inr (.inr (some b)), .inl p1, .inl p2] h (fun o h1 => ∃ w S', o = .inl (some (.inl w)) ∧ RW κ S X w S' ∧ CE G b S' h h1) := by
  have x1 : h.1 b = 10 := by obtain ⟨⟨A, x1, _⟩, _⟩ := hL; exact x1.1.1
  refine c_165 x1 hC (fun v h' q => ?_) (fun j h' q => ?_)
  · rcases q with ⟨q1, q2, q3⟩ | ⟨q1, _⟩ | ⟨q1, _⟩
    · injection q1 with q1
      exact ⟨q1, 0, X, rfl, Or.inr ⟨q2, rfl, rfl⟩, q3⟩
    · cases q1
    · cases q1
  · rcases q with ⟨q1, _⟩ | ⟨q1, q2, q3⟩ | ⟨q1, q2, q3⟩
    · cases q1
    · injection q1 with q1
      exact Or.inl ⟨q1, 1, S, rfl, Or.inl ⟨by rw [q2]; decide, q2.symm, rfl⟩, q3⟩
    · injection q1 with q1
      exact Or.inr ⟨q1, 2, S, rfl, Or.inl ⟨by rw [q2]; decide, q2.symm, rfl⟩, q3⟩
set_option maxRecDepth 100000 in
theorem wk_4 {uc us : Nat} {R : Int32 → Int64 → SS → Prop} (hL : LI G b n k S h) (hk : 5 * k + 5 ≤ n) (hn : n ≤ 2560) (hu : uc ≤ 100 + 10 * k) (hs : us ≤ 400000 + 100 * k)  (hQ : ∀ S' h' uc' us' (u v : Option vg_V), LI G b n (k + 1) S' h' → uc' ≤ 100 + 10 * (k + 1) → us' ≤ 400000 + 100 * (k + 1) → vg_A G (MT 169) uc' us' 1964 [some (.inr (.inr (some (G.2.2.2.2 4)))), some (.inr (.inr (some b))), some (.inr (.inr (some (b + 37)))), some (.inr (.inr (some (b + 80)))), some (.inl (nI (5 * k))), u, v] [] h' Q) (hc : vg_C G (MT 174) [.inr (.inr (some b)), .inr (.inr (some (b + 80)))] h (fun o h1 => ∃ w v S', o = .inl (some (.inl w)) ∧ R w v S' ∧ OV G b S' h w v h1)) (hm : ∀ w v S' h1, R w v S' → MX b S h1 → vg_C G (MT 142) [.inr (.inr (some (b + 37)))] h1 (PM b k cI w v S' h1)) : vg_A G (MT 169) uc us 388 [some (.inr (.inr (some (G.2.2.2.2 4)))), some (.inr (.inr (some b))), some (.inr (.inr (some (b + 37)))), some (.inr (.inr (some (b + 80)))), some (.inl (nI (5 * k))), none, none] [] h Q := by
  have s1 := hL.2.2.2.2.2.1
  have s2 := hL.2.2.2.2.2.2
  refine vi_run oL_4a [390] 60 ?_
  rw [aL_4a_388]
  simp only [↓reduceIte, vi_go_c, ↓v1_iadd, ↓v1_isub, ↓v1_imul, ↓v1_iand, ↓v1_idiv, ↓v1_irem, ↓v1_ineg, ↓v1_ladd, ↓v1_lsub, ↓v1_land, ↓v1_lcmp, ↓v1_lshl, ↓v1_lshr, ↓v1_i2l, ↓v1_l2i, ↓v1_iconst_0, ↓v1_iconst_m, ↓v1_bipush, ↓v1_sipush, ↓v1_ldc, ↓v1_ldc_w, ↓v1_lconst, ↓v1_ldc2_w, ↓v1_aconst_null, ↓v1_iload, ↓v1_iload_n, ↓v1_lload, ↓v1_lload_n, ↓v1_aload, ↓v1_aload_n, ↓v1_istore, ↓v1_istore_n, ↓v1_lstore, ↓v1_lstore_n, ↓v1_astore, ↓v1_astore_n, ↓v1_iinc, ↓v1_dup, ↓v1_dup2, ↓v1_ifCond_eq, ↓v1_ifCond_ne, ↓v1_ifCond_lt, ↓v1_ifCond_ge, ↓v1_ifCond_gt, ↓v1_ifCond_le, ↓v1_if_icmp_eq, ↓v1_if_icmp_ne, ↓v1_if_icmp_lt, ↓v1_if_icmp_ge, ↓v1_if_icmp_gt, ↓v1_if_icmp_le, ↓v1_if_acmp_ne, ↓v1_ifnull, ↓v1_ifnonnull, ↓v1_goto, ↓v1_tableswitch_0, ↓v1_return_, ↓v1_ireturn, ↓v1_lreturn, ↓v1_areturn, ↓v1_getfield_0, ↓v1_putfield_0, ↓v1_getstatic, ↓v1_iaload, ↓v1_laload, ↓v1_baload, ↓v1_aaload, ↓v1_iastore, ↓v1_lastore, ↓v1_bastore, ↓v1_aastore_0, ↓v1_arraylength, ↓v1_new_0, ↓v1_newarray, ↓v1_anewarray, ↓v1_invokestatic_0, ↓v1_invokestatic_1, ↓v1_invokestatic_2a, ↓v1_invokevirtual_0, ↓v1_invokespecial_0, ↓v1_invokespecial_1a, ↓v1_invokespecial_1b, ↓vi_ii_e, ↓vi_i_e, ↓vi_jj_e, ↓vi_j_e, ↓vi_ij_e, ↓vi_r_e, ↓vi_rr_e, ↓vi_o_e, ↓vi_ir_e, ↓vi_iir_e, ↓vi_jir_e, ↓vi_rir_e, ↓vi_pop_z, ↓vi_pop_s, ↓vi_sw_n, ↓vi_sw_c, ↓vi_li_z, ↓vi_li_s, ↓vi_ll_z, ↓vi_ll_s, ↓vi_lr_z, ↓vi_lr_s, ↓vi_ret_l, ↓vi_ret_r, vi_sv, vg_set1, vg_set2, vg_lo, List.headD, List.contains_nil, List.contains_cons, Bool.or_false, Bool.false_eq_true, if_false, if_true, Nat.reduceAdd, Nat.reduceBEq, List.nil_append, List.cons_append, List.append_nil, Option.toList, Int32.reduceOfNat, Int64.reduceOfNat, reduceCtorEq, Nat.reduceLeDiff, Nat.le_refl, Nat.zero_le, true_and, and_true, false_or, or_false, or_true, true_or, and_self, not_true_eq_false, not_false_eq_true, forall_const, false_implies, true_implies, Sum.inl.injEq, Sum.inr.injEq, Option.some.injEq, eq_self, oI_1, oI_m, oI_5, oI_L, vi_ws_nil, vi_ws_I, vi_ws_J, vi_ws_R, wi_k, wi_n, wi_r, wi_l, wr_k, wr_n, wr_i, wr_l, wl_k, wl_n, wl_i, wl_r, Nat.reduceSub, Nat.reduceMul, cL_4a_388, aL_4a_388, mc_169, ms_169, mr_169, mh_169, ml_169, s1, s2]
  have after : ∀ w v S' h1, R w v S' → OV G b S' h w v h1 → vg_A G (MT 169) (uc + 1) (us + 6) 393 [some (.inr (.inr (some (G.2.2.2.2 4)))), some (.inr (.inr (some b))), some (.inr (.inr (some (b + 37)))), some (.inr (.inr (some (b + 80)))), some (.inl (nI (5 * k))), none, none] [.inl w] h1 Q := by
    intro w v S' h1 hR ce
    have X := hL.clO ce
    obtain ⟨m1, m2, m3, m4, m5, m6⟩ := X
    have row := hL.rowO ce
    refine vi_run oL_4b [1964] 80 ?_
    rw [aL_4b_393]
    simp only [↓reduceIte, vi_go_c, ↓v1_iadd, ↓v1_isub, ↓v1_imul, ↓v1_iand, ↓v1_idiv, ↓v1_irem, ↓v1_ineg, ↓v1_ladd, ↓v1_lsub, ↓v1_land, ↓v1_lcmp, ↓v1_lshl, ↓v1_lshr, ↓v1_i2l, ↓v1_l2i, ↓v1_iconst_0, ↓v1_iconst_m, ↓v1_bipush, ↓v1_sipush, ↓v1_ldc, ↓v1_ldc_w, ↓v1_lconst, ↓v1_ldc2_w, ↓v1_aconst_null, ↓v1_iload, ↓v1_iload_n, ↓v1_lload, ↓v1_lload_n, ↓v1_aload, ↓v1_aload_n, ↓v1_istore, ↓v1_istore_n, ↓v1_lstore, ↓v1_lstore_n, ↓v1_astore, ↓v1_astore_n, ↓v1_iinc, ↓v1_dup, ↓v1_dup2, ↓v1_ifCond_eq, ↓v1_ifCond_ne, ↓v1_ifCond_lt, ↓v1_ifCond_ge, ↓v1_ifCond_gt, ↓v1_ifCond_le, ↓v1_if_icmp_eq, ↓v1_if_icmp_ne, ↓v1_if_icmp_lt, ↓v1_if_icmp_ge, ↓v1_if_icmp_gt, ↓v1_if_icmp_le, ↓v1_if_acmp_ne, ↓v1_ifnull, ↓v1_ifnonnull, ↓v1_goto, ↓v1_tableswitch_0, ↓v1_return_, ↓v1_ireturn, ↓v1_lreturn, ↓v1_areturn, ↓v1_getfield_0, ↓v1_putfield_0, ↓v1_getstatic, ↓v1_iaload, ↓v1_laload, ↓v1_baload, ↓v1_aaload, ↓v1_iastore, ↓v1_lastore, ↓v1_bastore, ↓v1_aastore_0, ↓v1_arraylength, ↓v1_new_0, ↓v1_newarray, ↓v1_anewarray, ↓v1_invokestatic_0, ↓v1_invokestatic_1, ↓v1_invokestatic_2a, ↓v1_invokevirtual_0, ↓v1_invokespecial_0, ↓v1_invokespecial_1a, ↓v1_invokespecial_1b, ↓vi_ii_e, ↓vi_i_e, ↓vi_jj_e, ↓vi_j_e, ↓vi_ij_e, ↓vi_r_e, ↓vi_rr_e, ↓vi_o_e, ↓vi_ir_e, ↓vi_iir_e, ↓vi_jir_e, ↓vi_rir_e, ↓vi_pop_z, ↓vi_pop_s, ↓vi_sw_n, ↓vi_sw_c, ↓vi_li_z, ↓vi_li_s, ↓vi_ll_z, ↓vi_ll_s, ↓vi_lr_z, ↓vi_lr_s, ↓vi_ret_l, ↓vi_ret_r, vi_sv, vg_set1, vg_set2, vg_lo, List.headD, List.contains_nil, List.contains_cons, Bool.or_false, Bool.false_eq_true, if_false, if_true, Nat.reduceAdd, Nat.reduceBEq, List.nil_append, List.cons_append, List.append_nil, Option.toList, Int32.reduceOfNat, Int64.reduceOfNat, reduceCtorEq, Nat.reduceLeDiff, Nat.le_refl, Nat.zero_le, true_and, and_true, false_or, or_false, or_true, true_or, and_self, not_true_eq_false, not_false_eq_true, forall_const, false_implies, true_implies, Sum.inl.injEq, Sum.inr.injEq, Option.some.injEq, eq_self, oI_1, oI_m, oI_5, oI_L, vi_ws_nil, vi_ws_I, vi_ws_J, vi_ws_R, wi_k, wi_n, wi_r, wi_l, wr_k, wr_n, wr_i, wr_l, wl_k, wl_n, wl_i, wl_r, Nat.reduceSub, Nat.reduceMul, cL_4b_393, cL_4b_412, cL_4b_429, aL_4b_393, aL_4b_412, aL_4b_429, mc_169, ms_169, mr_169, mh_169, ml_169, mc_142, ms_142, mc_154, ms_154, m4, m5, m6]
    refine ⟨⟨by omega, by omega⟩, ?_⟩
    refine (hm w v S' h1 hR m1).mono (fun o h2 q => ?_)
    obtain ⟨r, S2, rfl, mp, hr, of, iv⟩ := q
    unfold cI at hr
    have k1 := mp.mx.1
    simp only [↓reduceIte, vi_go_c, ↓v1_iadd, ↓v1_isub, ↓v1_imul, ↓v1_iand, ↓v1_idiv, ↓v1_irem, ↓v1_ineg, ↓v1_ladd, ↓v1_lsub, ↓v1_land, ↓v1_lcmp, ↓v1_lshl, ↓v1_lshr, ↓v1_i2l, ↓v1_l2i, ↓v1_iconst_0, ↓v1_iconst_m, ↓v1_bipush, ↓v1_sipush, ↓v1_ldc, ↓v1_ldc_w, ↓v1_lconst, ↓v1_ldc2_w, ↓v1_aconst_null, ↓v1_iload, ↓v1_iload_n, ↓v1_lload, ↓v1_lload_n, ↓v1_aload, ↓v1_aload_n, ↓v1_istore, ↓v1_istore_n, ↓v1_lstore, ↓v1_lstore_n, ↓v1_astore, ↓v1_astore_n, ↓v1_iinc, ↓v1_dup, ↓v1_dup2, ↓v1_ifCond_eq, ↓v1_ifCond_ne, ↓v1_ifCond_lt, ↓v1_ifCond_ge, ↓v1_ifCond_gt, ↓v1_ifCond_le, ↓v1_if_icmp_eq, ↓v1_if_icmp_ne, ↓v1_if_icmp_lt, ↓v1_if_icmp_ge, ↓v1_if_icmp_gt, ↓v1_if_icmp_le, ↓v1_if_acmp_ne, ↓v1_ifnull, ↓v1_ifnonnull, ↓v1_goto, ↓v1_tableswitch_0, ↓v1_return_, ↓v1_ireturn, ↓v1_lreturn, ↓v1_areturn, ↓v1_getfield_0, ↓v1_putfield_0, ↓v1_getstatic, ↓v1_iaload, ↓v1_laload, ↓v1_baload, ↓v1_aaload, ↓v1_iastore, ↓v1_lastore, ↓v1_bastore, ↓v1_aastore_0, ↓v1_arraylength, ↓v1_new_0, ↓v1_newarray, ↓v1_anewarray, ↓v1_invokestatic_0, ↓v1_invokestatic_1, ↓v1_invokestatic_2a, ↓v1_invokevirtual_0, ↓v1_invokespecial_0, ↓v1_invokespecial_1a, ↓v1_invokespecial_1b, ↓vi_ii_e, ↓vi_i_e, ↓vi_jj_e, ↓vi_j_e, ↓vi_ij_e, ↓vi_r_e, ↓vi_rr_e, ↓vi_o_e, ↓vi_ir_e, ↓vi_iir_e, ↓vi_jir_e, ↓vi_rir_e, ↓vi_pop_z, ↓vi_pop_s, ↓vi_sw_n, ↓vi_sw_c, ↓vi_li_z, ↓vi_li_s, ↓vi_ll_z, ↓vi_ll_s, ↓vi_lr_z, ↓vi_lr_s, ↓vi_ret_l, ↓vi_ret_r, vi_sv, vg_set1, vg_set2, vg_lo, List.headD, List.contains_nil, List.contains_cons, Bool.or_false, Bool.false_eq_true, if_false, if_true, Nat.reduceAdd, Nat.reduceBEq, List.nil_append, List.cons_append, List.append_nil, Option.toList, Int32.reduceOfNat, Int64.reduceOfNat, reduceCtorEq, Nat.reduceLeDiff, Nat.le_refl, Nat.zero_le, true_and, and_true, false_or, or_false, or_true, true_or, and_self, not_true_eq_false, not_false_eq_true, forall_const, false_implies, true_implies, Sum.inl.injEq, Sum.inr.injEq, Option.some.injEq, eq_self, oI_1, oI_m, oI_5, oI_L, vi_ws_nil, vi_ws_I, vi_ws_J, vi_ws_R, wi_k, wi_n, wi_r, wi_l, wr_k, wr_n, wr_i, wr_l, wl_k, wl_n, wl_i, wl_r, Nat.reduceSub, Nat.reduceMul, cL_4b_393, cL_4b_412, cL_4b_429, aL_4b_393, aL_4b_412, aL_4b_429, mc_169, ms_169, mr_169, mh_169, ml_169, mc_142, ms_142, mc_154, ms_154, k1]
    refine ⟨⟨by omega, by omega⟩, c_154 k1 ?_⟩
    rw [mp.2]
    have o1 : h2.1 (b + 80) = 101 := by rw [mp.1.2.2.1]; exact m2
    have o2 : h2.2.1 (b + 80) = 1 := by rw [mp.1.2.2.2.1]; exact m3
    have o3 : w = 0 → h2.2.2.2.1 (b + 80) 0 = v := fun e => by rw [mp.1.2.2.2.2.2.1]; exact hL.outO ce e
    have fin := hQ S2 h2 (uc + 1) (us + 6) (some (.inl w)) (some (.inl r)) (hL.bothO ce mp of iv) (by omega) (by omega)
    simp only [↓reduceIte, vi_go_c, ↓v1_iadd, ↓v1_isub, ↓v1_imul, ↓v1_iand, ↓v1_idiv, ↓v1_irem, ↓v1_ineg, ↓v1_ladd, ↓v1_lsub, ↓v1_land, ↓v1_lcmp, ↓v1_lshl, ↓v1_lshr, ↓v1_i2l, ↓v1_l2i, ↓v1_iconst_0, ↓v1_iconst_m, ↓v1_bipush, ↓v1_sipush, ↓v1_ldc, ↓v1_ldc_w, ↓v1_lconst, ↓v1_ldc2_w, ↓v1_aconst_null, ↓v1_iload, ↓v1_iload_n, ↓v1_lload, ↓v1_lload_n, ↓v1_aload, ↓v1_aload_n, ↓v1_istore, ↓v1_istore_n, ↓v1_lstore, ↓v1_lstore_n, ↓v1_astore, ↓v1_astore_n, ↓v1_iinc, ↓v1_dup, ↓v1_dup2, ↓v1_ifCond_eq, ↓v1_ifCond_ne, ↓v1_ifCond_lt, ↓v1_ifCond_ge, ↓v1_ifCond_gt, ↓v1_ifCond_le, ↓v1_if_icmp_eq, ↓v1_if_icmp_ne, ↓v1_if_icmp_lt, ↓v1_if_icmp_ge, ↓v1_if_icmp_gt, ↓v1_if_icmp_le, ↓v1_if_acmp_ne, ↓v1_ifnull, ↓v1_ifnonnull, ↓v1_goto, ↓v1_tableswitch_0, ↓v1_return_, ↓v1_ireturn, ↓v1_lreturn, ↓v1_areturn, ↓v1_getfield_0, ↓v1_putfield_0, ↓v1_getstatic, ↓v1_iaload, ↓v1_laload, ↓v1_baload, ↓v1_aaload, ↓v1_iastore, ↓v1_lastore, ↓v1_bastore, ↓v1_aastore_0, ↓v1_arraylength, ↓v1_new_0, ↓v1_newarray, ↓v1_anewarray, ↓v1_invokestatic_0, ↓v1_invokestatic_1, ↓v1_invokestatic_2a, ↓v1_invokevirtual_0, ↓v1_invokespecial_0, ↓v1_invokespecial_1a, ↓v1_invokespecial_1b, ↓vi_ii_e, ↓vi_i_e, ↓vi_jj_e, ↓vi_j_e, ↓vi_ij_e, ↓vi_r_e, ↓vi_rr_e, ↓vi_o_e, ↓vi_ir_e, ↓vi_iir_e, ↓vi_jir_e, ↓vi_rir_e, ↓vi_pop_z, ↓vi_pop_s, ↓vi_sw_n, ↓vi_sw_c, ↓vi_li_z, ↓vi_li_s, ↓vi_ll_z, ↓vi_ll_s, ↓vi_lr_z, ↓vi_lr_s, ↓vi_ret_l, ↓vi_ret_r, vi_sv, vg_set1, vg_set2, vg_lo, List.headD, List.contains_nil, List.contains_cons, Bool.or_false, Bool.false_eq_true, if_false, if_true, Nat.reduceAdd, Nat.reduceBEq, List.nil_append, List.cons_append, List.append_nil, Option.toList, Int32.reduceOfNat, Int64.reduceOfNat, reduceCtorEq, Nat.reduceLeDiff, Nat.le_refl, Nat.zero_le, true_and, and_true, false_or, or_false, or_true, true_or, and_self, not_true_eq_false, not_false_eq_true, forall_const, false_implies, true_implies, Sum.inl.injEq, Sum.inr.injEq, Option.some.injEq, eq_self, oI_1, oI_m, oI_5, oI_L, vi_ws_nil, vi_ws_I, vi_ws_J, vi_ws_R, wi_k, wi_n, wi_r, wi_l, wr_k, wr_n, wr_i, wr_l, wl_k, wl_n, wl_i, wl_r, Nat.reduceSub, Nat.reduceMul, cL_4b_393, cL_4b_412, cL_4b_429, aL_4b_393, aL_4b_412, aL_4b_429, mc_169, ms_169, mr_169, mh_169, ml_169, mc_142, ms_142, mc_154, ms_154, o1, o2]
    refine ⟨fun _ => fin, fun e0 => ⟨vp_nI (i := 0) (by decide) (by decide), ?_⟩⟩
    intro v1 f1 v2 f2
    have e1 : w = 0 := Decidable.not_not.mp e0
    have f3 : v2 = 0 := by rw [f2, f1, hr e1, show h2.2.2.2.1 (b + 80) (Int32.toNatClampNeg 0) = v from o3 e1]; exact lcmp_self v
    exact ⟨fun _ => fin, fun e => absurd f3 e⟩
  refine vr_callSH (N := MT 174) (as := [.inr (.inr (some b)), .inr (.inr (some (b + 80)))]) (st := []) (n := 2) (vg_inW 413 rfl rfl) mh_174 (vg_inW 415 rfl rfl) (vg_inW 49 rfl rfl) (by decide +kernel) (by decide +kernel) (vg_inW 414 rfl rfl) rfl (by decide +kernel) (by simp) ⟨by rw [mc_174, mc_169]; omega, by rw [ms_174, ms_169]; omega⟩ hc (fun v h1 q => ?_) (fun j h1 q => ?_)
  · obtain ⟨w, v', S', q1, q2, q3⟩ := q
    injection q1 with q1
    subst q1
    exact after w v' S' h1 q2 q3
  · obtain ⟨w, v', S', q1, _⟩ := q
    cases q1
theorem hh_4 {κ : Int32} {T : Int64 → SS → Prop} (hL : LI G b n k S h) (hC : vg_C G (MT 48) [.inr (.inr (some b))] h (CO1 1 G b S h κ T cI)) : vg_C G (MT 174) [.inr (.inr (some b)), .inr (.inr (some (b + 80)))] h (fun o h1 => ∃ w v S', o = .inl (some (.inl w)) ∧ RR κ S T w v S' ∧ OV G b S' h w v h1) := by
  have x1 : h.1 b = 10 := by obtain ⟨⟨A, x1, _⟩, _⟩ := hL; exact x1.1.1
  refine c_174 x1 hC (fun v h' q => ?_) (fun j h' q => ?_)
  · rcases q with ⟨r, S', q1, q2, q3, q4⟩ | ⟨q1, _⟩
    · injection q1 with q1
      obtain ⟨_, o1, o2, _⟩ := hL.cl q4
      exact ⟨r, q1, o1, o2, 0, _, S', rfl, Or.inr ⟨q2, rfl, q3⟩, h', q4, Or.inr rfl, fun _ => rfl⟩
    · cases q1
  · rcases q with ⟨r, S', q1, _⟩ | ⟨q1, q2, q3⟩
    · cases q1
    · injection q1 with q1
      exact ⟨q1, 1, 0, S, rfl, Or.inl ⟨by rw [q2]; decide, q2.symm, rfl⟩, h', q3, Or.inl rfl, fun e => absurd e (by decide)⟩
end LW
