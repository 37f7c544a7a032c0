/-! ===== the model's small questions ===== -/
section M0
variable {G : vg_G} {b : Nat} {S : SS} {h : vg_H} {Q : vg_O → vg_H → Prop}
set_option maxRecDepth 100000 in
theorem c_125 {v lo hi : Int32} (hQ : Q (.inl (some (.inl (bI (lo ≤ v ∧ v ≤ hi))))) h) : vg_C G (MT 125) [.inl v, .inl lo, .inl hi] h Q := by
  refine vg_C_of rfl (by decide +kernel) (Nat.le_of_ble_eq_true rfl) ?_
  refine vi_run ok_125 [] 40 ?_
  rw [at_125_0]
  simp only [vg_ent, vg_en, List.length_cons, List.length_nil, Nat.reduceAdd, Nat.reduceSub, List.replicate, List.append_nil, List.nil_append, List.cons_append, mn_125]
  simp only [vi_go, vi_1, vi_lk, vi_li, vi_ll, vi_lr, vi_ii, vi_i, vi_jj, vi_j, vi_ij, vi_r, vi_rr, vi_o, vi_ir, vi_iir, vi_jir, vi_rir, vi_pop, vi_sw, vi_sv, vg_set1, vg_set2, vg_lo, List.headD, List.contains_nil, List.contains_cons, Bool.or_false, Bool.false_eq_true, if_false, if_true, Nat.reduceAdd, Nat.reduceBEq, List.nil_append, List.cons_append, List.append_nil, Option.toList, Int32.reduceOfNat, Int64.reduceOfNat, reduceCtorEq, Nat.reduceLeDiff, Nat.le_refl, Nat.zero_le, true_and, and_true, false_or, or_false, or_true, true_or, and_self, not_true_eq_false, not_false_eq_true, forall_const, false_implies, true_implies, Sum.inl.injEq, Sum.inr.injEq, Option.some.injEq, vi_ret, eq_self, oI_1, oI_m, oI_5, oI_L, vi_ws_nil, vi_ws_I, vi_ws_J, vi_ws_R, wi_k, wi_n, wi_r, wi_l, wr_k, wr_n, wr_i, wr_l, wl_k, wl_n, wl_i, wl_r, Nat.reduceSub, Nat.reduceMul, cd_125_0, cd_125_14, cd_125_15, at_125_14, at_125_15, mc_125, ms_125, mr_125, mh_125, ml_125]
  grind [bI]
set_option maxRecDepth 100000 in
theorem c_132 {v : Int32} (hQ : Q (.inl (some (.inl (bI (0 ≤ v ∧ v ≤ 3))))) h) : vg_C G (MT 132) [.inl v] h Q := by
  refine vg_C_of rfl (by decide +kernel) (Nat.le_of_ble_eq_true rfl) ?_
  refine vi_run ok_132 [] 40 ?_
  rw [at_132_0]
  simp only [vg_ent, vg_en, List.length_cons, List.length_nil, Nat.reduceAdd, Nat.reduceSub, List.replicate, List.append_nil, List.nil_append, List.cons_append, mn_132]
  simp only [vi_go, vi_1, vi_lk, vi_li, vi_ll, vi_lr, vi_ii, vi_i, vi_jj, vi_j, vi_ij, vi_r, vi_rr, vi_o, vi_ir, vi_iir, vi_jir, vi_rir, vi_pop, vi_sw, vi_sv, vg_set1, vg_set2, vg_lo, List.headD, List.contains_nil, List.contains_cons, Bool.or_false, Bool.false_eq_true, if_false, if_true, Nat.reduceAdd, Nat.reduceBEq, List.nil_append, List.cons_append, List.append_nil, Option.toList, Int32.reduceOfNat, Int64.reduceOfNat, reduceCtorEq, Nat.reduceLeDiff, Nat.le_refl, Nat.zero_le, true_and, and_true, false_or, or_false, or_true, true_or, and_self, not_true_eq_false, not_false_eq_true, forall_const, false_implies, true_implies, Sum.inl.injEq, Sum.inr.injEq, Option.some.injEq, vi_ret, eq_self, oI_1, oI_m, oI_5, oI_L, vi_ws_nil, vi_ws_I, vi_ws_J, vi_ws_R, wi_k, wi_n, wi_r, wi_l, wr_k, wr_n, wr_i, wr_l, wl_k, wl_n, wl_i, wl_r, Nat.reduceSub, Nat.reduceMul, cd_132_0, mc_132, ms_132, mr_132, mh_132, ml_132, mc_125, ms_125]
  refine c_125 ?_
  simp only [vi_go, vi_1, vi_lk, vi_li, vi_ll, vi_lr, vi_ii, vi_i, vi_jj, vi_j, vi_ij, vi_r, vi_rr, vi_o, vi_ir, vi_iir, vi_jir, vi_rir, vi_pop, vi_sw, vi_sv, vg_set1, vg_set2, vg_lo, List.headD, List.contains_nil, List.contains_cons, Bool.or_false, Bool.false_eq_true, if_false, if_true, Nat.reduceAdd, Nat.reduceBEq, List.nil_append, List.cons_append, List.append_nil, Option.toList, Int32.reduceOfNat, Int64.reduceOfNat, reduceCtorEq, Nat.reduceLeDiff, Nat.le_refl, Nat.zero_le, true_and, and_true, false_or, or_false, or_true, true_or, and_self, not_true_eq_false, not_false_eq_true, forall_const, false_implies, true_implies, Sum.inl.injEq, Sum.inr.injEq, Option.some.injEq, vi_ret, eq_self, oI_1, oI_m, oI_5, oI_L, vi_ws_nil, vi_ws_I, vi_ws_J, vi_ws_R, wi_k, wi_n, wi_r, wi_l, wr_k, wr_n, wr_i, wr_l, wl_k, wl_n, wl_i, wl_r, Nat.reduceSub, Nat.reduceMul, cd_132_0, mc_132, ms_132, mr_132, mh_132, ml_132, mc_125, ms_125]
  exact ⟨bI_01 _, hQ⟩
set_option maxRecDepth 100000 in
theorem c_128 {v : Int32} (hQ : Q (.inl (some (.inl (bI (1 ≤ v ∧ v ≤ 1000000))))) h) : vg_C G (MT 128) [.inl v] h Q := by
  refine vg_C_of rfl (by decide +kernel) (Nat.le_of_ble_eq_true rfl) ?_
  refine vi_run ok_128 [] 40 ?_
  rw [at_128_0]
  simp only [vg_ent, vg_en, List.length_cons, List.length_nil, Nat.reduceAdd, Nat.reduceSub, List.replicate, List.append_nil, List.nil_append, List.cons_append, mn_128]
  simp only [vi_go, vi_1, vi_lk, vi_li, vi_ll, vi_lr, vi_ii, vi_i, vi_jj, vi_j, vi_ij, vi_r, vi_rr, vi_o, vi_ir, vi_iir, vi_jir, vi_rir, vi_pop, vi_sw, vi_sv, vg_set1, vg_set2, vg_lo, List.headD, List.contains_nil, List.contains_cons, Bool.or_false, Bool.false_eq_true, if_false, if_true, Nat.reduceAdd, Nat.reduceBEq, List.nil_append, List.cons_append, List.append_nil, Option.toList, Int32.reduceOfNat, Int64.reduceOfNat, reduceCtorEq, Nat.reduceLeDiff, Nat.le_refl, Nat.zero_le, true_and, and_true, false_or, or_false, or_true, true_or, and_self, not_true_eq_false, not_false_eq_true, forall_const, false_implies, true_implies, Sum.inl.injEq, Sum.inr.injEq, Option.some.injEq, vi_ret, eq_self, oI_1, oI_m, oI_5, oI_L, vi_ws_nil, vi_ws_I, vi_ws_J, vi_ws_R, wi_k, wi_n, wi_r, wi_l, wr_k, wr_n, wr_i, wr_l, wl_k, wl_n, wl_i, wl_r, Nat.reduceSub, Nat.reduceMul, cd_128_0, mc_128, ms_128, mr_128, mh_128, ml_128, mc_125, ms_125]
  refine c_125 ?_
  simp only [vi_go, vi_1, vi_lk, vi_li, vi_ll, vi_lr, vi_ii, vi_i, vi_jj, vi_j, vi_ij, vi_r, vi_rr, vi_o, vi_ir, vi_iir, vi_jir, vi_rir, vi_pop, vi_sw, vi_sv, vg_set1, vg_set2, vg_lo, List.headD, List.contains_nil, List.contains_cons, Bool.or_false, Bool.false_eq_true, if_false, if_true, Nat.reduceAdd, Nat.reduceBEq, List.nil_append, List.cons_append, List.append_nil, Option.toList, Int32.reduceOfNat, Int64.reduceOfNat, reduceCtorEq, Nat.reduceLeDiff, Nat.le_refl, Nat.zero_le, true_and, and_true, false_or, or_false, or_true, true_or, and_self, not_true_eq_false, not_false_eq_true, forall_const, false_implies, true_implies, Sum.inl.injEq, Sum.inr.injEq, Option.some.injEq, vi_ret, eq_self, oI_1, oI_m, oI_5, oI_L, vi_ws_nil, vi_ws_I, vi_ws_J, vi_ws_R, wi_k, wi_n, wi_r, wi_l, wr_k, wr_n, wr_i, wr_l, wl_k, wl_n, wl_i, wl_r, Nat.reduceSub, Nat.reduceMul, cd_128_0, mc_128, ms_128, mr_128, mh_128, ml_128, mc_125, ms_125]
  exact ⟨bI_01 _, hQ⟩
set_option maxRecDepth 100000 in
theorem c_124 {v : Int32} (hQ : Q (.inl (some (.inl (bI (0 ≤ v ∧ v ≤ 19))))) h) : vg_C G (MT 124) [.inl v] h Q := by
  refine vg_C_of rfl (by decide +kernel) (Nat.le_of_ble_eq_true rfl) ?_
  refine vi_run ok_124 [] 40 ?_
  rw [at_124_0]
  simp only [vg_ent, vg_en, List.length_cons, List.length_nil, Nat.reduceAdd, Nat.reduceSub, List.replicate, List.append_nil, List.nil_append, List.cons_append, mn_124]
  simp only [vi_go, vi_1, vi_lk, vi_li, vi_ll, vi_lr, vi_ii, vi_i, vi_jj, vi_j, vi_ij, vi_r, vi_rr, vi_o, vi_ir, vi_iir, vi_jir, vi_rir, vi_pop, vi_sw, vi_sv, vg_set1, vg_set2, vg_lo, List.headD, List.contains_nil, List.contains_cons, Bool.or_false, Bool.false_eq_true, if_false, if_true, Nat.reduceAdd, Nat.reduceBEq, List.nil_append, List.cons_append, List.append_nil, Option.toList, Int32.reduceOfNat, Int64.reduceOfNat, reduceCtorEq, Nat.reduceLeDiff, Nat.le_refl, Nat.zero_le, true_and, and_true, false_or, or_false, or_true, true_or, and_self, not_true_eq_false, not_false_eq_true, forall_const, false_implies, true_implies, Sum.inl.injEq, Sum.inr.injEq, Option.some.injEq, vi_ret, eq_self, oI_1, oI_m, oI_5, oI_L, vi_ws_nil, vi_ws_I, vi_ws_J, vi_ws_R, wi_k, wi_n, wi_r, wi_l, wr_k, wr_n, wr_i, wr_l, wl_k, wl_n, wl_i, wl_r, Nat.reduceSub, Nat.reduceMul, cd_124_0, mc_124, ms_124, mr_124, mh_124, ml_124, mc_125, ms_125]
  refine c_125 ?_
  simp only [vi_go, vi_1, vi_lk, vi_li, vi_ll, vi_lr, vi_ii, vi_i, vi_jj, vi_j, vi_ij, vi_r, vi_rr, vi_o, vi_ir, vi_iir, vi_jir, vi_rir, vi_pop, vi_sw, vi_sv, vg_set1, vg_set2, vg_lo, List.headD, List.contains_nil, List.contains_cons, Bool.or_false, Bool.false_eq_true, if_false, if_true, Nat.reduceAdd, Nat.reduceBEq, List.nil_append, List.cons_append, List.append_nil, Option.toList, Int32.reduceOfNat, Int64.reduceOfNat, reduceCtorEq, Nat.reduceLeDiff, Nat.le_refl, Nat.zero_le, true_and, and_true, false_or, or_false, or_true, true_or, and_self, not_true_eq_false, not_false_eq_true, forall_const, false_implies, true_implies, Sum.inl.injEq, Sum.inr.injEq, Option.some.injEq, vi_ret, eq_self, oI_1, oI_m, oI_5, oI_L, vi_ws_nil, vi_ws_I, vi_ws_J, vi_ws_R, wi_k, wi_n, wi_r, wi_l, wr_k, wr_n, wr_i, wr_l, wl_k, wl_n, wl_i, wl_r, Nat.reduceSub, Nat.reduceMul, cd_124_0, mc_124, ms_124, mr_124, mh_124, ml_124, mc_125, ms_125]
  exact ⟨bI_01 _, hQ⟩
set_option maxRecDepth 100000 in
theorem c_126 {v : Int32} (hQ : Q (.inl (some (.inl (bI (0 ≤ v ∧ v ≤ 2))))) h) : vg_C G (MT 126) [.inl v] h Q := by
  refine vg_C_of rfl (by decide +kernel) (Nat.le_of_ble_eq_true rfl) ?_
  refine vi_run ok_126 [] 40 ?_
  rw [at_126_0]
  simp only [vg_ent, vg_en, List.length_cons, List.length_nil, Nat.reduceAdd, Nat.reduceSub, List.replicate, List.append_nil, List.nil_append, List.cons_append, mn_126]
  simp only [vi_go, vi_1, vi_lk, vi_li, vi_ll, vi_lr, vi_ii, vi_i, vi_jj, vi_j, vi_ij, vi_r, vi_rr, vi_o, vi_ir, vi_iir, vi_jir, vi_rir, vi_pop, vi_sw, vi_sv, vg_set1, vg_set2, vg_lo, List.headD, List.contains_nil, List.contains_cons, Bool.or_false, Bool.false_eq_true, if_false, if_true, Nat.reduceAdd, Nat.reduceBEq, List.nil_append, List.cons_append, List.append_nil, Option.toList, Int32.reduceOfNat, Int64.reduceOfNat, reduceCtorEq, Nat.reduceLeDiff, Nat.le_refl, Nat.zero_le, true_and, and_true, false_or, or_false, or_true, true_or, and_self, not_true_eq_false, not_false_eq_true, forall_const, false_implies, true_implies, Sum.inl.injEq, Sum.inr.injEq, Option.some.injEq, vi_ret, eq_self, oI_1, oI_m, oI_5, oI_L, vi_ws_nil, vi_ws_I, vi_ws_J, vi_ws_R, wi_k, wi_n, wi_r, wi_l, wr_k, wr_n, wr_i, wr_l, wl_k, wl_n, wl_i, wl_r, Nat.reduceSub, Nat.reduceMul, cd_126_0, mc_126, ms_126, mr_126, mh_126, ml_126, mc_125, ms_125]
  refine c_125 ?_
  simp only [vi_go, vi_1, vi_lk, vi_li, vi_ll, vi_lr, vi_ii, vi_i, vi_jj, vi_j, vi_ij, vi_r, vi_rr, vi_o, vi_ir, vi_iir, vi_jir, vi_rir, vi_pop, vi_sw, vi_sv, vg_set1, vg_set2, vg_lo, List.headD, List.contains_nil, List.contains_cons, Bool.or_false, Bool.false_eq_true, if_false, if_true, Nat.reduceAdd, Nat.reduceBEq, List.nil_append, List.cons_append, List.append_nil, Option.toList, Int32.reduceOfNat, Int64.reduceOfNat, reduceCtorEq, Nat.reduceLeDiff, Nat.le_refl, Nat.zero_le, true_and, and_true, false_or, or_false, or_true, true_or, and_self, not_true_eq_false, not_false_eq_true, forall_const, false_implies, true_implies, Sum.inl.injEq, Sum.inr.injEq, Option.some.injEq, vi_ret, eq_self, oI_1, oI_m, oI_5, oI_L, vi_ws_nil, vi_ws_I, vi_ws_J, vi_ws_R, wi_k, wi_n, wi_r, wi_l, wr_k, wr_n, wr_i, wr_l, wl_k, wl_n, wl_i, wl_r, Nat.reduceSub, Nat.reduceMul, cd_126_0, mc_126, ms_126, mr_126, mh_126, ml_126, mc_125, ms_125]
  exact ⟨bI_01 _, hQ⟩
set_option maxRecDepth 100000 in
theorem c_127 {v : Int32} (hM : MX b S h) (hQ : Q (.inl (some (.inl (bI (S 2 0 ≤ v ∧ v ≤ 200000))))) h) : vg_C G (MT 127) [.inr (.inr (some (b + 37))), .inl v] h Q := by
  have k0 : (h).1 (b + 37) = 11 := hM.1
  have s2 : (h).2.2.1 (b + 37) 2 = S 2 0 := hM.2.2.2 2 rfl
  refine vg_C_of rfl (by decide +kernel) (Nat.le_of_ble_eq_true rfl) ?_
  refine vi_run ok_127 [] 40 ?_
  rw [at_127_0]
  simp only [vg_ent, vg_en, List.length_cons, List.length_nil, Nat.reduceAdd, Nat.reduceSub, List.replicate, List.append_nil, List.nil_append, List.cons_append, mn_127]
  simp only [vi_go, vi_1, vi_lk, vi_li, vi_ll, vi_lr, vi_ii, vi_i, vi_jj, vi_j, vi_ij, vi_r, vi_rr, vi_o, vi_ir, vi_iir, vi_jir, vi_rir, vi_pop, vi_sw, vi_sv, vg_set1, vg_set2, vg_lo, List.headD, List.contains_nil, List.contains_cons, Bool.or_false, Bool.false_eq_true, if_false, if_true, Nat.reduceAdd, Nat.reduceBEq, List.nil_append, List.cons_append, List.append_nil, Option.toList, Int32.reduceOfNat, Int64.reduceOfNat, reduceCtorEq, Nat.reduceLeDiff, Nat.le_refl, Nat.zero_le, true_and, and_true, false_or, or_false, or_true, true_or, and_self, not_true_eq_false, not_false_eq_true, forall_const, false_implies, true_implies, Sum.inl.injEq, Sum.inr.injEq, Option.some.injEq, vi_ret, eq_self, oI_1, oI_m, oI_5, oI_L, vi_ws_nil, vi_ws_I, vi_ws_J, vi_ws_R, wi_k, wi_n, wi_r, wi_l, wr_k, wr_n, wr_i, wr_l, wl_k, wl_n, wl_i, wl_r, Nat.reduceSub, Nat.reduceMul, cd_127_0, mc_127, ms_127, mr_127, mh_127, ml_127, mc_125, ms_125, k0, s2]
  refine c_125 ?_
  simp only [vi_go, vi_1, vi_lk, vi_li, vi_ll, vi_lr, vi_ii, vi_i, vi_jj, vi_j, vi_ij, vi_r, vi_rr, vi_o, vi_ir, vi_iir, vi_jir, vi_rir, vi_pop, vi_sw, vi_sv, vg_set1, vg_set2, vg_lo, List.headD, List.contains_nil, List.contains_cons, Bool.or_false, Bool.false_eq_true, if_false, if_true, Nat.reduceAdd, Nat.reduceBEq, List.nil_append, List.cons_append, List.append_nil, Option.toList, Int32.reduceOfNat, Int64.reduceOfNat, reduceCtorEq, Nat.reduceLeDiff, Nat.le_refl, Nat.zero_le, true_and, and_true, false_or, or_false, or_true, true_or, and_self, not_true_eq_false, not_false_eq_true, forall_const, false_implies, true_implies, Sum.inl.injEq, Sum.inr.injEq, Option.some.injEq, vi_ret, eq_self, oI_1, oI_m, oI_5, oI_L, vi_ws_nil, vi_ws_I, vi_ws_J, vi_ws_R, wi_k, wi_n, wi_r, wi_l, wr_k, wr_n, wr_i, wr_l, wl_k, wl_n, wl_i, wl_r, Nat.reduceSub, Nat.reduceMul, cd_127_0, mc_127, ms_127, mr_127, mh_127, ml_127, mc_125, ms_125]
  exact ⟨bI_01 _, hQ⟩
set_option maxRecDepth 100000 in
theorem c_130 {v : Int32} (hM : MX b S h) (hQ : Q (.inl (some (.inl (bI (1 ≤ v ∧ v ≤ S 13 0))))) h) : vg_C G (MT 130) [.inr (.inr (some (b + 37))), .inl v] h Q := by
  have k0 : (h).1 (b + 37) = 11 := hM.1
  have s13 : (h).2.2.1 (b + 37) 13 = S 13 0 := hM.2.2.2 13 rfl
  refine vg_C_of rfl (by decide +kernel) (Nat.le_of_ble_eq_true rfl) ?_
  refine vi_run ok_130 [] 40 ?_
  rw [at_130_0]
  simp only [vg_ent, vg_en, List.length_cons, List.length_nil, Nat.reduceAdd, Nat.reduceSub, List.replicate, List.append_nil, List.nil_append, List.cons_append, mn_130]
  simp only [vi_go, vi_1, vi_lk, vi_li, vi_ll, vi_lr, vi_ii, vi_i, vi_jj, vi_j, vi_ij, vi_r, vi_rr, vi_o, vi_ir, vi_iir, vi_jir, vi_rir, vi_pop, vi_sw, vi_sv, vg_set1, vg_set2, vg_lo, List.headD, List.contains_nil, List.contains_cons, Bool.or_false, Bool.false_eq_true, if_false, if_true, Nat.reduceAdd, Nat.reduceBEq, List.nil_append, List.cons_append, List.append_nil, Option.toList, Int32.reduceOfNat, Int64.reduceOfNat, reduceCtorEq, Nat.reduceLeDiff, Nat.le_refl, Nat.zero_le, true_and, and_true, false_or, or_false, or_true, true_or, and_self, not_true_eq_false, not_false_eq_true, forall_const, false_implies, true_implies, Sum.inl.injEq, Sum.inr.injEq, Option.some.injEq, vi_ret, eq_self, oI_1, oI_m, oI_5, oI_L, vi_ws_nil, vi_ws_I, vi_ws_J, vi_ws_R, wi_k, wi_n, wi_r, wi_l, wr_k, wr_n, wr_i, wr_l, wl_k, wl_n, wl_i, wl_r, Nat.reduceSub, Nat.reduceMul, cd_130_0, mc_130, ms_130, mr_130, mh_130, ml_130, mc_125, ms_125, k0, s13]
  refine c_125 ?_
  simp only [vi_go, vi_1, vi_lk, vi_li, vi_ll, vi_lr, vi_ii, vi_i, vi_jj, vi_j, vi_ij, vi_r, vi_rr, vi_o, vi_ir, vi_iir, vi_jir, vi_rir, vi_pop, vi_sw, vi_sv, vg_set1, vg_set2, vg_lo, List.headD, List.contains_nil, List.contains_cons, Bool.or_false, Bool.false_eq_true, if_false, if_true, Nat.reduceAdd, Nat.reduceBEq, List.nil_append, List.cons_append, List.append_nil, Option.toList, Int32.reduceOfNat, Int64.reduceOfNat, reduceCtorEq, Nat.reduceLeDiff, Nat.le_refl, Nat.zero_le, true_and, and_true, false_or, or_false, or_true, true_or, and_self, not_true_eq_false, not_false_eq_true, forall_const, false_implies, true_implies, Sum.inl.injEq, Sum.inr.injEq, Option.some.injEq, vi_ret, eq_self, oI_1, oI_m, oI_5, oI_L, vi_ws_nil, vi_ws_I, vi_ws_J, vi_ws_R, wi_k, wi_n, wi_r, wi_l, wr_k, wr_n, wr_i, wr_l, wl_k, wl_n, wl_i, wl_r, Nat.reduceSub, Nat.reduceMul, cd_130_0, mc_130, ms_130, mr_130, mh_130, ml_130, mc_125, ms_125]
  exact ⟨bI_01 _, hQ⟩
set_option maxRecDepth 100000 in
theorem c_129 {z x y : Int32} (hQ : Q (.inl (some (.inl (bI ((0 ≤ z ∧ z ≤ 3) ∧ (0 ≤ x ∧ x ≤ 200000) ∧ (x ≤ y ∧ y ≤ 200000) ∧ y - x ≤ 4320))))) h) : vg_C G (MT 129) [.inr (.inr (some (b + 37))), .inl z, .inl x, .inl y] h Q := by
  refine vg_C_of rfl (by decide +kernel) (Nat.le_of_ble_eq_true rfl) ?_
  refine vi_run ok_129 [] 60 ?_
  rw [at_129_0]
  simp only [vg_ent, vg_en, List.length_cons, List.length_nil, Nat.reduceAdd, Nat.reduceSub, List.replicate, List.append_nil, List.nil_append, List.cons_append, mn_129]
  simp only [vi_go, vi_1, vi_lk, vi_li, vi_ll, vi_lr, vi_ii, vi_i, vi_jj, vi_j, vi_ij, vi_r, vi_rr, vi_o, vi_ir, vi_iir, vi_jir, vi_rir, vi_pop, vi_sw, vi_sv, vg_set1, vg_set2, vg_lo, List.headD, List.contains_nil, List.contains_cons, Bool.or_false, Bool.false_eq_true, if_false, if_true, Nat.reduceAdd, Nat.reduceBEq, List.nil_append, List.cons_append, List.append_nil, Option.toList, Int32.reduceOfNat, Int64.reduceOfNat, reduceCtorEq, Nat.reduceLeDiff, Nat.le_refl, Nat.zero_le, true_and, and_true, false_or, or_false, or_true, true_or, and_self, not_true_eq_false, not_false_eq_true, forall_const, false_implies, true_implies, Sum.inl.injEq, Sum.inr.injEq, Option.some.injEq, vi_ret, eq_self, oI_1, oI_m, oI_5, oI_L, vi_ws_nil, vi_ws_I, vi_ws_J, vi_ws_R, wi_k, wi_n, wi_r, wi_l, wr_k, wr_n, wr_i, wr_l, wl_k, wl_n, wl_i, wl_r, Nat.reduceSub, Nat.reduceMul, cd_129_0, cd_129_40, cd_129_41, at_129_40, at_129_41, mc_129, ms_129, mr_129, mh_129, ml_129, mc_125, ms_125, mc_132, ms_132]
  refine c_132 ?_
  simp only [vi_go, vi_1, vi_lk, vi_li, vi_ll, vi_lr, vi_ii, vi_i, vi_jj, vi_j, vi_ij, vi_r, vi_rr, vi_o, vi_ir, vi_iir, vi_jir, vi_rir, vi_pop, vi_sw, vi_sv, vg_set1, vg_set2, vg_lo, List.headD, List.contains_nil, List.contains_cons, Bool.or_false, Bool.false_eq_true, if_false, if_true, Nat.reduceAdd, Nat.reduceBEq, List.nil_append, List.cons_append, List.append_nil, Option.toList, Int32.reduceOfNat, Int64.reduceOfNat, reduceCtorEq, Nat.reduceLeDiff, Nat.le_refl, Nat.zero_le, true_and, and_true, false_or, or_false, or_true, true_or, and_self, not_true_eq_false, not_false_eq_true, forall_const, false_implies, true_implies, Sum.inl.injEq, Sum.inr.injEq, Option.some.injEq, vi_ret, eq_self, oI_1, oI_m, oI_5, oI_L, vi_ws_nil, vi_ws_I, vi_ws_J, vi_ws_R, wi_k, wi_n, wi_r, wi_l, wr_k, wr_n, wr_i, wr_l, wl_k, wl_n, wl_i, wl_r, Nat.reduceSub, Nat.reduceMul, cd_129_0, cd_129_40, cd_129_41, at_129_40, at_129_41, mc_129, ms_129, mr_129, mh_129, ml_129, mc_125, ms_125, mc_132, ms_132]
  refine ⟨fun h1 => ?_, fun h1 => c_125 ?_⟩
  · grind [bI]
  simp only [vi_go, vi_1, vi_lk, vi_li, vi_ll, vi_lr, vi_ii, vi_i, vi_jj, vi_j, vi_ij, vi_r, vi_rr, vi_o, vi_ir, vi_iir, vi_jir, vi_rir, vi_pop, vi_sw, vi_sv, vg_set1, vg_set2, vg_lo, List.headD, List.contains_nil, List.contains_cons, Bool.or_false, Bool.false_eq_true, if_false, if_true, Nat.reduceAdd, Nat.reduceBEq, List.nil_append, List.cons_append, List.append_nil, Option.toList, Int32.reduceOfNat, Int64.reduceOfNat, reduceCtorEq, Nat.reduceLeDiff, Nat.le_refl, Nat.zero_le, true_and, and_true, false_or, or_false, or_true, true_or, and_self, not_true_eq_false, not_false_eq_true, forall_const, false_implies, true_implies, Sum.inl.injEq, Sum.inr.injEq, Option.some.injEq, vi_ret, eq_self, oI_1, oI_m, oI_5, oI_L, vi_ws_nil, vi_ws_I, vi_ws_J, vi_ws_R, wi_k, wi_n, wi_r, wi_l, wr_k, wr_n, wr_i, wr_l, wl_k, wl_n, wl_i, wl_r, Nat.reduceSub, Nat.reduceMul, cd_129_0, cd_129_40, cd_129_41, at_129_40, at_129_41, mc_129, ms_129, mr_129, mh_129, ml_129, mc_125, ms_125, mc_132, ms_132]
  refine ⟨fun h2 => ?_, fun h2 => c_125 ?_⟩
  · grind [bI]
  simp only [vi_go, vi_1, vi_lk, vi_li, vi_ll, vi_lr, vi_ii, vi_i, vi_jj, vi_j, vi_ij, vi_r, vi_rr, vi_o, vi_ir, vi_iir, vi_jir, vi_rir, vi_pop, vi_sw, vi_sv, vg_set1, vg_set2, vg_lo, List.headD, List.contains_nil, List.contains_cons, Bool.or_false, Bool.false_eq_true, if_false, if_true, Nat.reduceAdd, Nat.reduceBEq, List.nil_append, List.cons_append, List.append_nil, Option.toList, Int32.reduceOfNat, Int64.reduceOfNat, reduceCtorEq, Nat.reduceLeDiff, Nat.le_refl, Nat.zero_le, true_and, and_true, false_or, or_false, or_true, true_or, and_self, not_true_eq_false, not_false_eq_true, forall_const, false_implies, true_implies, Sum.inl.injEq, Sum.inr.injEq, Option.some.injEq, vi_ret, eq_self, oI_1, oI_m, oI_5, oI_L, vi_ws_nil, vi_ws_I, vi_ws_J, vi_ws_R, wi_k, wi_n, wi_r, wi_l, wr_k, wr_n, wr_i, wr_l, wl_k, wl_n, wl_i, wl_r, Nat.reduceSub, Nat.reduceMul, cd_129_0, cd_129_40, cd_129_41, at_129_40, at_129_41, mc_129, ms_129, mr_129, mh_129, ml_129, mc_125, ms_125, mc_132, ms_132]
  grind [bI]
set_option maxRecDepth 100000 in
theorem c_149 {w : Int32} (hk : h.1 (b + 37) = 11) (hQ : Q (.inl (some (.inl (bI (0 < w))))) (vg_wi h (b + 37) 0 w)) : vg_C G (MT 149) [.inr (.inr (some (b + 37))), .inl w] h Q := by
  refine vg_C_of rfl (by decide +kernel) (Nat.le_of_ble_eq_true rfl) ?_
  refine vi_run ok_149 [] 60 ?_
  rw [at_149_0]
  simp only [vg_ent, vg_en, List.length_cons, List.length_nil, Nat.reduceAdd, Nat.reduceSub, List.replicate, List.append_nil, List.nil_append, List.cons_append, mn_149]
  simp only [vi_go, vi_1, vi_lk, vi_li, vi_ll, vi_lr, vi_ii, vi_i, vi_jj, vi_j, vi_ij, vi_r, vi_rr, vi_o, vi_ir, vi_iir, vi_jir, vi_rir, vi_pop, vi_sw, vi_sv, vg_set1, vg_set2, vg_lo, List.headD, List.contains_nil, List.contains_cons, Bool.or_false, Bool.false_eq_true, if_false, if_true, Nat.reduceAdd, Nat.reduceBEq, List.nil_append, List.cons_append, List.append_nil, Option.toList, Int32.reduceOfNat, Int64.reduceOfNat, reduceCtorEq, Nat.reduceLeDiff, Nat.le_refl, Nat.zero_le, true_and, and_true, false_or, or_false, or_true, true_or, and_self, not_true_eq_false, not_false_eq_true, forall_const, false_implies, true_implies, Sum.inl.injEq, Sum.inr.injEq, Option.some.injEq, vi_ret, eq_self, oI_1, oI_m, oI_5, oI_L, vi_ws_nil, vi_ws_I, vi_ws_J, vi_ws_R, wi_k, wi_n, wi_r, wi_l, wr_k, wr_n, wr_i, wr_l, wl_k, wl_n, wl_i, wl_r, Nat.reduceSub, Nat.reduceMul, cd_149_0, cd_149_13, cd_149_14, at_149_13, at_149_14, mc_149, ms_149, mr_149, mh_149, ml_149, hk]
  grind [bI]
set_option maxRecDepth 100000 in
theorem c_154 (hk : h.1 (b + 37) = 11) (hQ : Q (.inl (some (.inl (h.2.2.1 (b + 37) 0)))) h) : vg_C G (MT 154) [.inr (.inr (some (b + 37)))] h Q := by
  refine vg_C_of rfl (by decide +kernel) (Nat.le_of_ble_eq_true rfl) ?_
  refine vi_run ok_154 [] 60 ?_
  rw [at_154_0]
  simp only [vg_ent, vg_en, List.length_cons, List.length_nil, Nat.reduceAdd, Nat.reduceSub, List.replicate, List.append_nil, List.nil_append, List.cons_append, mn_154]
  simp only [vi_go, vi_1, vi_lk, vi_li, vi_ll, vi_lr, vi_ii, vi_i, vi_jj, vi_j, vi_ij, vi_r, vi_rr, vi_o, vi_ir, vi_iir, vi_jir, vi_rir, vi_pop, vi_sw, vi_sv, vg_set1, vg_set2, vg_lo, List.headD, List.contains_nil, List.contains_cons, Bool.or_false, Bool.false_eq_true, if_false, if_true, Nat.reduceAdd, Nat.reduceBEq, List.nil_append, List.cons_append, List.append_nil, Option.toList, Int32.reduceOfNat, Int64.reduceOfNat, reduceCtorEq, Nat.reduceLeDiff, Nat.le_refl, Nat.zero_le, true_and, and_true, false_or, or_false, or_true, true_or, and_self, not_true_eq_false, not_false_eq_true, forall_const, false_implies, true_implies, Sum.inl.injEq, Sum.inr.injEq, Option.some.injEq, vi_ret, eq_self, oI_1, oI_m, oI_5, oI_L, vi_ws_nil, vi_ws_I, vi_ws_J, vi_ws_R, wi_k, wi_n, wi_r, wi_l, wr_k, wr_n, wr_i, wr_l, wl_k, wl_n, wl_i, wl_r, Nat.reduceSub, Nat.reduceMul, cd_154_0, mc_154, ms_154, mr_154, mh_154, ml_154, hk]
  exact hQ
set_option maxRecDepth 100000 in
theorem c_139 {i : Nat} {x : Int32} (hM : MX b S h) (hi : i < 24) (h0 : ¬ mayB (S 9 i) (S 10 i) x → Q (.inl (some (.inl 0))) h) (h1 : mayB (S 9 i) (S 10 i) x → Q (.inl (some (.inl 1))) h) : vg_C G (MT 139) [.inr (.inr (some (b + 37))), .inl (nI i), .inl x] h Q := by
  have k0 : (h).1 (b + 37) = 11 := hM.1
  have r9 : (h).2.2.2.2.1 (b + 37) 9 = some (ar b 9) := (hM.2.1 9 (by decide)).1
  have k9 : (h).1 (ar b 9) = 100 := (hM.2.1 9 (by decide)).2.1
  have n9 : (h).2.1 (ar b 9) = 24 := (hM.2.1 9 (by decide)).2.2
  have r10 : (h).2.2.2.2.1 (b + 37) 10 = some (ar b 10) := (hM.2.1 10 (by decide)).1
  have k10 : (h).1 (ar b 10) = 100 := (hM.2.1 10 (by decide)).2.1
  have n10 : (h).2.1 (ar b 10) = 24 := (hM.2.1 10 (by decide)).2.2
  have e1 := nI_clamp (show i < 2 ^ 31 by omega)
  have e2 : vp_in (nI i) 24 := vp_nI hi (by omega)
  have e3 := hM.2.2.1 9 i hi rfl
  have e4 := hM.2.2.1 10 i hi rfl
  refine vg_C_of rfl (by decide +kernel) (Nat.le_of_ble_eq_true rfl) ?_
  refine vi_run ok_139 [] 60 ?_
  rw [at_139_0]
  simp only [vg_ent, vg_en, List.length_cons, List.length_nil, Nat.reduceAdd, Nat.reduceSub, List.replicate, List.append_nil, List.nil_append, List.cons_append, mn_139]
  simp only [vi_go, vi_1, vi_lk, vi_li, vi_ll, vi_lr, vi_ii, vi_i, vi_jj, vi_j, vi_ij, vi_r, vi_rr, vi_o, vi_ir, vi_iir, vi_jir, vi_rir, vi_pop, vi_sw, vi_sv, vg_set1, vg_set2, vg_lo, List.headD, List.contains_nil, List.contains_cons, Bool.or_false, Bool.false_eq_true, if_false, if_true, Nat.reduceAdd, Nat.reduceBEq, List.nil_append, List.cons_append, List.append_nil, Option.toList, Int32.reduceOfNat, Int64.reduceOfNat, reduceCtorEq, Nat.reduceLeDiff, Nat.le_refl, Nat.zero_le, true_and, and_true, false_or, or_false, or_true, true_or, and_self, not_true_eq_false, not_false_eq_true, forall_const, false_implies, true_implies, Sum.inl.injEq, Sum.inr.injEq, Option.some.injEq, vi_ret, eq_self, oI_1, oI_m, oI_5, oI_L, vi_ws_nil, vi_ws_I, vi_ws_J, vi_ws_R, wi_k, wi_n, wi_r, wi_l, wr_k, wr_n, wr_i, wr_l, wl_k, wl_n, wl_i, wl_r, Nat.reduceSub, Nat.reduceMul, cd_139_0, cd_139_39, cd_139_43, cd_139_63, cd_139_67, cd_139_68, at_139_39, at_139_43, at_139_63, at_139_67, at_139_68, mc_139, ms_139, mr_139, mh_139, ml_139, k0, r9, k9, n9, r10, k10, n10, e1, e2, e3, e4]
  unfold mayB at h0 h1
  grind
/-- the coins, from the least on -/
def coM (k : Nat) : Int32 := match k with
  | 0 => 5 | 1 => 10 | 2 => 20 | 3 => 50 | 4 => 100 | _ => 200
set_option maxRecDepth 100000 in
theorem c_104 {k : Nat} (hk : k < 6) (hQ : Q (.inl (some (.inl (coM k)))) h) : vg_C G (MT 104) [.inl (nI k)] h Q := by
  match k, hk with
  | 0, _ | 1, _ | 2, _ | 3, _ | 4, _ | 5, _ =>
    refine vg_C_of rfl (by decide +kernel) (Nat.le_of_ble_eq_true rfl) ?_
    refine vi_run ok_104 [] 60 ?_
    rw [at_104_0]
    simp only [vg_ent, vg_en, List.length_cons, List.length_nil, Nat.reduceAdd, Nat.reduceSub, List.replicate, List.append_nil, List.nil_append, List.cons_append, mn_104]
    simp only [vi_go, vi_1, vi_lk, vi_li, vi_ll, vi_lr, vi_ii, vi_i, vi_jj, vi_j, vi_ij, vi_r, vi_rr, vi_o, vi_ir, vi_iir, vi_jir, vi_rir, vi_pop, vi_sw, vi_sv, vg_set1, vg_set2, vg_lo, List.headD, List.contains_nil, List.contains_cons, Bool.or_false, Bool.false_eq_true, if_false, if_true, Nat.reduceAdd, Nat.reduceBEq, List.nil_append, List.cons_append, List.append_nil, Option.toList, Int32.reduceOfNat, Int64.reduceOfNat, reduceCtorEq, Nat.reduceLeDiff, Nat.le_refl, Nat.zero_le, true_and, and_true, false_or, or_false, or_true, true_or, and_self, not_true_eq_false, not_false_eq_true, forall_const, false_implies, true_implies, Sum.inl.injEq, Sum.inr.injEq, Option.some.injEq, vi_ret, eq_self, oI_1, oI_m, oI_5, oI_L, vi_ws_nil, vi_ws_I, vi_ws_J, vi_ws_R, wi_k, wi_n, wi_r, wi_l, wr_k, wr_n, wr_i, wr_l, wl_k, wl_n, wl_i, wl_r, Nat.reduceSub, Nat.reduceMul, cd_104_0, cd_104_36, cd_104_38, cd_104_41, cd_104_44, cd_104_47, cd_104_50, at_104_36, at_104_38, at_104_41, at_104_44, at_104_47, at_104_50, mc_104, ms_104, mr_104, mh_104, ml_104]
    refine ⟨⟨fun e => ?_, fun e => ?_, fun e => ?_, fun e => ?_, fun e => ?_⟩, fun e => ?_⟩ <;> first | exact hQ | exact absurd e (by decide)
end M0
