/-! ===== the class's small questions ===== -/
section CP
variable {G : vg_G} {h : vg_H} {Q : vg_O → vg_H → Prop}
set_option maxRecDepth 100000 in
/-- within -/
theorem c_61 {a b c : Int32} (hQ : Q (.inl (some (.inl (bI (b ≤ a ∧ a ≤ c))))) h) : vg_C G (MT 61) [.inl a, .inl b, .inl c] h Q := by
  refine vg_C_of rfl (by decide +kernel) (Nat.le_of_ble_eq_true rfl) ?_
  refine vi_run ok_61 [] 40 ?_
  rw [at_61_0]
  simp only [vg_ent, vg_en, List.length_cons, List.length_nil, Nat.reduceAdd, Nat.reduceSub, List.replicate, List.append_nil, List.nil_append, List.cons_append, mn_61]
  simp only [vi_go, vi_1, vi_lk, vi_li, vi_ll, vi_lr, vi_ii, vi_i, vi_jj, vi_j, vi_ij, vi_r, vi_rr, vi_o, vi_ir, vi_iir, vi_jir, vi_rir, vi_pop, vi_sw, vi_sv, vg_set1, vg_set2, vg_lo, List.headD, List.contains_nil, List.contains_cons, Bool.or_false, Bool.false_eq_true, if_false, if_true, Nat.reduceAdd, Nat.reduceBEq, List.nil_append, List.cons_append, List.append_nil, Option.toList, Int32.reduceOfNat, Int64.reduceOfNat, reduceCtorEq, Nat.reduceLeDiff, Nat.le_refl, Nat.zero_le, true_and, and_true, false_or, or_false, or_true, true_or, and_self, not_true_eq_false, not_false_eq_true, forall_const, false_implies, true_implies, Sum.inl.injEq, Sum.inr.injEq, Option.some.injEq, vi_ret, eq_self, oI_1, oI_m, oI_5, oI_L, vi_ws_nil, vi_ws_I, vi_ws_J, vi_ws_R, wi_k, wi_n, wi_r, wi_l, wr_k, wr_n, wr_i, wr_l, wl_k, wl_n, wl_i, wl_r, Nat.reduceSub, Nat.reduceMul, cd_61_0, cd_61_14, cd_61_15, at_61_14, at_61_15, mc_61, ms_61, mr_61, mh_61, ml_61]
  refine ⟨fun h1 => ?_, fun h1 => ⟨fun h2 => ?_, fun h2 => ?_⟩⟩
  · rw [bI_f (fun z => Int32.not_le.mpr h1 z.1)] at hQ; exact hQ
  · rw [bI_f (fun z => Int32.not_le.mpr h2 z.2)] at hQ; exact hQ
  · rw [bI_t ⟨Int32.not_lt.mp h1, Int32.not_lt.mp h2⟩] at hQ; exact hQ
set_option maxRecDepth 100000 in
/-- isZone -/
theorem c_38 {a : Int32} (hQ : Q (.inl (some (.inl (bI (0 ≤ a ∧ a ≤ 3))))) h) : vg_C G (MT 38) [.inl a] h Q := by
  refine vg_C_of rfl (by decide +kernel) (Nat.le_of_ble_eq_true rfl) ?_
  refine vi_run ok_38 [] 40 ?_
  rw [at_38_0]
  simp only [vg_ent, vg_en, List.length_cons, List.length_nil, Nat.reduceAdd, Nat.reduceSub, List.replicate, List.append_nil, List.nil_append, List.cons_append, mn_38]
  simp only [vi_go, vi_1, vi_lk, vi_li, vi_ll, vi_lr, vi_ii, vi_i, vi_jj, vi_j, vi_ij, vi_r, vi_rr, vi_o, vi_ir, vi_iir, vi_jir, vi_rir, vi_pop, vi_sw, vi_sv, vg_set1, vg_set2, vg_lo, List.headD, List.contains_nil, List.contains_cons, Bool.or_false, Bool.false_eq_true, if_false, if_true, Nat.reduceAdd, Nat.reduceBEq, List.nil_append, List.cons_append, List.append_nil, Option.toList, Int32.reduceOfNat, Int64.reduceOfNat, reduceCtorEq, Nat.reduceLeDiff, Nat.le_refl, Nat.zero_le, true_and, and_true, false_or, or_false, or_true, true_or, and_self, not_true_eq_false, not_false_eq_true, forall_const, false_implies, true_implies, Sum.inl.injEq, Sum.inr.injEq, Option.some.injEq, vi_ret, eq_self, oI_1, oI_m, oI_5, oI_L, vi_ws_nil, vi_ws_I, vi_ws_J, vi_ws_R, wi_k, wi_n, wi_r, wi_l, wr_k, wr_n, wr_i, wr_l, wl_k, wl_n, wl_i, wl_r, Nat.reduceSub, Nat.reduceMul, cd_38_0, mc_38, ms_38, mr_38, mh_38, ml_38, mc_61, ms_61]
  refine c_61 ?_
  simp only [vi_go, vi_1, vi_lk, vi_li, vi_ll, vi_lr, vi_ii, vi_i, vi_jj, vi_j, vi_ij, vi_r, vi_rr, vi_o, vi_ir, vi_iir, vi_jir, vi_rir, vi_pop, vi_sw, vi_sv, vg_set1, vg_set2, vg_lo, List.headD, List.contains_nil, List.contains_cons, Bool.or_false, Bool.false_eq_true, if_false, if_true, Nat.reduceAdd, Nat.reduceBEq, List.nil_append, List.cons_append, List.append_nil, Option.toList, Int32.reduceOfNat, Int64.reduceOfNat, reduceCtorEq, Nat.reduceLeDiff, Nat.le_refl, Nat.zero_le, true_and, and_true, false_or, or_false, or_true, true_or, and_self, not_true_eq_false, not_false_eq_true, forall_const, false_implies, true_implies, Sum.inl.injEq, Sum.inr.injEq, Option.some.injEq, vi_ret, eq_self, oI_1, oI_m, oI_5, oI_L, vi_ws_nil, vi_ws_I, vi_ws_J, vi_ws_R, wi_k, wi_n, wi_r, wi_l, wr_k, wr_n, wr_i, wr_l, wl_k, wl_n, wl_i, wl_r, Nat.reduceSub, Nat.reduceMul, cd_38_0, mc_38, ms_38, mr_38, mh_38, ml_38, mc_61, ms_61]
  exact ⟨bI_01 _, hQ⟩
set_option maxRecDepth 100000 in
/-- isProduct -/
theorem c_33 {a : Int32} (hQ : Q (.inl (some (.inl (bI (0 ≤ a ∧ a ≤ 23))))) h) : vg_C G (MT 33) [.inl a] h Q := by
  refine vg_C_of rfl (by decide +kernel) (Nat.le_of_ble_eq_true rfl) ?_
  refine vi_run ok_33 [] 40 ?_
  rw [at_33_0]
  simp only [vg_ent, vg_en, List.length_cons, List.length_nil, Nat.reduceAdd, Nat.reduceSub, List.replicate, List.append_nil, List.nil_append, List.cons_append, mn_33]
  simp only [vi_go, vi_1, vi_lk, vi_li, vi_ll, vi_lr, vi_ii, vi_i, vi_jj, vi_j, vi_ij, vi_r, vi_rr, vi_o, vi_ir, vi_iir, vi_jir, vi_rir, vi_pop, vi_sw, vi_sv, vg_set1, vg_set2, vg_lo, List.headD, List.contains_nil, List.contains_cons, Bool.or_false, Bool.false_eq_true, if_false, if_true, Nat.reduceAdd, Nat.reduceBEq, List.nil_append, List.cons_append, List.append_nil, Option.toList, Int32.reduceOfNat, Int64.reduceOfNat, reduceCtorEq, Nat.reduceLeDiff, Nat.le_refl, Nat.zero_le, true_and, and_true, false_or, or_false, or_true, true_or, and_self, not_true_eq_false, not_false_eq_true, forall_const, false_implies, true_implies, Sum.inl.injEq, Sum.inr.injEq, Option.some.injEq, vi_ret, eq_self, oI_1, oI_m, oI_5, oI_L, vi_ws_nil, vi_ws_I, vi_ws_J, vi_ws_R, wi_k, wi_n, wi_r, wi_l, wr_k, wr_n, wr_i, wr_l, wl_k, wl_n, wl_i, wl_r, Nat.reduceSub, Nat.reduceMul, cd_33_0, mc_33, ms_33, mr_33, mh_33, ml_33, mc_61, ms_61]
  refine c_61 ?_
  simp only [vi_go, vi_1, vi_lk, vi_li, vi_ll, vi_lr, vi_ii, vi_i, vi_jj, vi_j, vi_ij, vi_r, vi_rr, vi_o, vi_ir, vi_iir, vi_jir, vi_rir, vi_pop, vi_sw, vi_sv, vg_set1, vg_set2, vg_lo, List.headD, List.contains_nil, List.contains_cons, Bool.or_false, Bool.false_eq_true, if_false, if_true, Nat.reduceAdd, Nat.reduceBEq, List.nil_append, List.cons_append, List.append_nil, Option.toList, Int32.reduceOfNat, Int64.reduceOfNat, reduceCtorEq, Nat.reduceLeDiff, Nat.le_refl, Nat.zero_le, true_and, and_true, false_or, or_false, or_true, true_or, and_self, not_true_eq_false, not_false_eq_true, forall_const, false_implies, true_implies, Sum.inl.injEq, Sum.inr.injEq, Option.some.injEq, vi_ret, eq_self, oI_1, oI_m, oI_5, oI_L, vi_ws_nil, vi_ws_I, vi_ws_J, vi_ws_R, wi_k, wi_n, wi_r, wi_l, wr_k, wr_n, wr_i, wr_l, wl_k, wl_n, wl_i, wl_r, Nat.reduceSub, Nat.reduceMul, cd_33_0, mc_33, ms_33, mr_33, mh_33, ml_33, mc_61, ms_61]
  exact ⟨bI_01 _, hQ⟩
set_option maxRecDepth 100000 in
/-- isPlate -/
theorem c_31 {a : Int32} (hQ : Q (.inl (some (.inl (bI (1 ≤ a ∧ a ≤ 1000000))))) h) : vg_C G (MT 31) [.inl a] h Q := by
  refine vg_C_of rfl (by decide +kernel) (Nat.le_of_ble_eq_true rfl) ?_
  refine vi_run ok_31 [] 40 ?_
  rw [at_31_0]
  simp only [vg_ent, vg_en, List.length_cons, List.length_nil, Nat.reduceAdd, Nat.reduceSub, List.replicate, List.append_nil, List.nil_append, List.cons_append, mn_31]
  simp only [vi_go, vi_1, vi_lk, vi_li, vi_ll, vi_lr, vi_ii, vi_i, vi_jj, vi_j, vi_ij, vi_r, vi_rr, vi_o, vi_ir, vi_iir, vi_jir, vi_rir, vi_pop, vi_sw, vi_sv, vg_set1, vg_set2, vg_lo, List.headD, List.contains_nil, List.contains_cons, Bool.or_false, Bool.false_eq_true, if_false, if_true, Nat.reduceAdd, Nat.reduceBEq, List.nil_append, List.cons_append, List.append_nil, Option.toList, Int32.reduceOfNat, Int64.reduceOfNat, reduceCtorEq, Nat.reduceLeDiff, Nat.le_refl, Nat.zero_le, true_and, and_true, false_or, or_false, or_true, true_or, and_self, not_true_eq_false, not_false_eq_true, forall_const, false_implies, true_implies, Sum.inl.injEq, Sum.inr.injEq, Option.some.injEq, vi_ret, eq_self, oI_1, oI_m, oI_5, oI_L, vi_ws_nil, vi_ws_I, vi_ws_J, vi_ws_R, wi_k, wi_n, wi_r, wi_l, wr_k, wr_n, wr_i, wr_l, wl_k, wl_n, wl_i, wl_r, Nat.reduceSub, Nat.reduceMul, cd_31_0, mc_31, ms_31, mr_31, mh_31, ml_31, mc_61, ms_61]
  refine c_61 ?_
  simp only [vi_go, vi_1, vi_lk, vi_li, vi_ll, vi_lr, vi_ii, vi_i, vi_jj, vi_j, vi_ij, vi_r, vi_rr, vi_o, vi_ir, vi_iir, vi_jir, vi_rir, vi_pop, vi_sw, vi_sv, vg_set1, vg_set2, vg_lo, List.headD, List.contains_nil, List.contains_cons, Bool.or_false, Bool.false_eq_true, if_false, if_true, Nat.reduceAdd, Nat.reduceBEq, List.nil_append, List.cons_append, List.append_nil, Option.toList, Int32.reduceOfNat, Int64.reduceOfNat, reduceCtorEq, Nat.reduceLeDiff, Nat.le_refl, Nat.zero_le, true_and, and_true, false_or, or_false, or_true, true_or, and_self, not_true_eq_false, not_false_eq_true, forall_const, false_implies, true_implies, Sum.inl.injEq, Sum.inr.injEq, Option.some.injEq, vi_ret, eq_self, oI_1, oI_m, oI_5, oI_L, vi_ws_nil, vi_ws_I, vi_ws_J, vi_ws_R, wi_k, wi_n, wi_r, wi_l, wr_k, wr_n, wr_i, wr_l, wl_k, wl_n, wl_i, wl_r, Nat.reduceSub, Nat.reduceMul, cd_31_0, mc_31, ms_31, mr_31, mh_31, ml_31, mc_61, ms_61]
  exact ⟨bI_01 _, hQ⟩
set_option maxRecDepth 100000 in
/-- isContract -/
theorem c_27 {a : Int32} (hQ : Q (.inl (some (.inl (bI (0 ≤ a ∧ a ≤ 19))))) h) : vg_C G (MT 27) [.inl a] h Q := by
  refine vg_C_of rfl (by decide +kernel) (Nat.le_of_ble_eq_true rfl) ?_
  refine vi_run ok_27 [] 40 ?_
  rw [at_27_0]
  simp only [vg_ent, vg_en, List.length_cons, List.length_nil, Nat.reduceAdd, Nat.reduceSub, List.replicate, List.append_nil, List.nil_append, List.cons_append, mn_27]
  simp only [vi_go, vi_1, vi_lk, vi_li, vi_ll, vi_lr, vi_ii, vi_i, vi_jj, vi_j, vi_ij, vi_r, vi_rr, vi_o, vi_ir, vi_iir, vi_jir, vi_rir, vi_pop, vi_sw, vi_sv, vg_set1, vg_set2, vg_lo, List.headD, List.contains_nil, List.contains_cons, Bool.or_false, Bool.false_eq_true, if_false, if_true, Nat.reduceAdd, Nat.reduceBEq, List.nil_append, List.cons_append, List.append_nil, Option.toList, Int32.reduceOfNat, Int64.reduceOfNat, reduceCtorEq, Nat.reduceLeDiff, Nat.le_refl, Nat.zero_le, true_and, and_true, false_or, or_false, or_true, true_or, and_self, not_true_eq_false, not_false_eq_true, forall_const, false_implies, true_implies, Sum.inl.injEq, Sum.inr.injEq, Option.some.injEq, vi_ret, eq_self, oI_1, oI_m, oI_5, oI_L, vi_ws_nil, vi_ws_I, vi_ws_J, vi_ws_R, wi_k, wi_n, wi_r, wi_l, wr_k, wr_n, wr_i, wr_l, wl_k, wl_n, wl_i, wl_r, Nat.reduceSub, Nat.reduceMul, cd_27_0, mc_27, ms_27, mr_27, mh_27, ml_27, mc_61, ms_61]
  refine c_61 ?_
  simp only [vi_go, vi_1, vi_lk, vi_li, vi_ll, vi_lr, vi_ii, vi_i, vi_jj, vi_j, vi_ij, vi_r, vi_rr, vi_o, vi_ir, vi_iir, vi_jir, vi_rir, vi_pop, vi_sw, vi_sv, vg_set1, vg_set2, vg_lo, List.headD, List.contains_nil, List.contains_cons, Bool.or_false, Bool.false_eq_true, if_false, if_true, Nat.reduceAdd, Nat.reduceBEq, List.nil_append, List.cons_append, List.append_nil, Option.toList, Int32.reduceOfNat, Int64.reduceOfNat, reduceCtorEq, Nat.reduceLeDiff, Nat.le_refl, Nat.zero_le, true_and, and_true, false_or, or_false, or_true, true_or, and_self, not_true_eq_false, not_false_eq_true, forall_const, false_implies, true_implies, Sum.inl.injEq, Sum.inr.injEq, Option.some.injEq, vi_ret, eq_self, oI_1, oI_m, oI_5, oI_L, vi_ws_nil, vi_ws_I, vi_ws_J, vi_ws_R, wi_k, wi_n, wi_r, wi_l, wr_k, wr_n, wr_i, wr_l, wl_k, wl_n, wl_i, wl_r, Nat.reduceSub, Nat.reduceMul, cd_27_0, mc_27, ms_27, mr_27, mh_27, ml_27, mc_61, ms_61]
  exact ⟨bI_01 _, hQ⟩
set_option maxRecDepth 100000 in
/-- isReservation -/
theorem c_34 {a : Int32} (hQ : Q (.inl (some (.inl (bI (0 ≤ a ∧ a ≤ 29))))) h) : vg_C G (MT 34) [.inl a] h Q := by
  refine vg_C_of rfl (by decide +kernel) (Nat.le_of_ble_eq_true rfl) ?_
  refine vi_run ok_34 [] 40 ?_
  rw [at_34_0]
  simp only [vg_ent, vg_en, List.length_cons, List.length_nil, Nat.reduceAdd, Nat.reduceSub, List.replicate, List.append_nil, List.nil_append, List.cons_append, mn_34]
  simp only [vi_go, vi_1, vi_lk, vi_li, vi_ll, vi_lr, vi_ii, vi_i, vi_jj, vi_j, vi_ij, vi_r, vi_rr, vi_o, vi_ir, vi_iir, vi_jir, vi_rir, vi_pop, vi_sw, vi_sv, vg_set1, vg_set2, vg_lo, List.headD, List.contains_nil, List.contains_cons, Bool.or_false, Bool.false_eq_true, if_false, if_true, Nat.reduceAdd, Nat.reduceBEq, List.nil_append, List.cons_append, List.append_nil, Option.toList, Int32.reduceOfNat, Int64.reduceOfNat, reduceCtorEq, Nat.reduceLeDiff, Nat.le_refl, Nat.zero_le, true_and, and_true, false_or, or_false, or_true, true_or, and_self, not_true_eq_false, not_false_eq_true, forall_const, false_implies, true_implies, Sum.inl.injEq, Sum.inr.injEq, Option.some.injEq, vi_ret, eq_self, oI_1, oI_m, oI_5, oI_L, vi_ws_nil, vi_ws_I, vi_ws_J, vi_ws_R, wi_k, wi_n, wi_r, wi_l, wr_k, wr_n, wr_i, wr_l, wl_k, wl_n, wl_i, wl_r, Nat.reduceSub, Nat.reduceMul, cd_34_0, mc_34, ms_34, mr_34, mh_34, ml_34, mc_61, ms_61]
  refine c_61 ?_
  simp only [vi_go, vi_1, vi_lk, vi_li, vi_ll, vi_lr, vi_ii, vi_i, vi_jj, vi_j, vi_ij, vi_r, vi_rr, vi_o, vi_ir, vi_iir, vi_jir, vi_rir, vi_pop, vi_sw, vi_sv, vg_set1, vg_set2, vg_lo, List.headD, List.contains_nil, List.contains_cons, Bool.or_false, Bool.false_eq_true, if_false, if_true, Nat.reduceAdd, Nat.reduceBEq, List.nil_append, List.cons_append, List.append_nil, Option.toList, Int32.reduceOfNat, Int64.reduceOfNat, reduceCtorEq, Nat.reduceLeDiff, Nat.le_refl, Nat.zero_le, true_and, and_true, false_or, or_false, or_true, true_or, and_self, not_true_eq_false, not_false_eq_true, forall_const, false_implies, true_implies, Sum.inl.injEq, Sum.inr.injEq, Option.some.injEq, vi_ret, eq_self, oI_1, oI_m, oI_5, oI_L, vi_ws_nil, vi_ws_I, vi_ws_J, vi_ws_R, wi_k, wi_n, wi_r, wi_l, wr_k, wr_n, wr_i, wr_l, wl_k, wl_n, wl_i, wl_r, Nat.reduceSub, Nat.reduceMul, cd_34_0, mc_34, ms_34, mr_34, mh_34, ml_34, mc_61, ms_61]
  exact ⟨bI_01 _, hQ⟩
set_option maxRecDepth 100000 in
/-- isMachine -/
theorem c_29 {a : Int32} (hQ : Q (.inl (some (.inl (bI (0 ≤ a ∧ a ≤ 2))))) h) : vg_C G (MT 29) [.inl a] h Q := by
  refine vg_C_of rfl (by decide +kernel) (Nat.le_of_ble_eq_true rfl) ?_
  refine vi_run ok_29 [] 40 ?_
  rw [at_29_0]
  simp only [vg_ent, vg_en, List.length_cons, List.length_nil, Nat.reduceAdd, Nat.reduceSub, List.replicate, List.append_nil, List.nil_append, List.cons_append, mn_29]
  simp only [vi_go, vi_1, vi_lk, vi_li, vi_ll, vi_lr, vi_ii, vi_i, vi_jj, vi_j, vi_ij, vi_r, vi_rr, vi_o, vi_ir, vi_iir, vi_jir, vi_rir, vi_pop, vi_sw, vi_sv, vg_set1, vg_set2, vg_lo, List.headD, List.contains_nil, List.contains_cons, Bool.or_false, Bool.false_eq_true, if_false, if_true, Nat.reduceAdd, Nat.reduceBEq, List.nil_append, List.cons_append, List.append_nil, Option.toList, Int32.reduceOfNat, Int64.reduceOfNat, reduceCtorEq, Nat.reduceLeDiff, Nat.le_refl, Nat.zero_le, true_and, and_true, false_or, or_false, or_true, true_or, and_self, not_true_eq_false, not_false_eq_true, forall_const, false_implies, true_implies, Sum.inl.injEq, Sum.inr.injEq, Option.some.injEq, vi_ret, eq_self, oI_1, oI_m, oI_5, oI_L, vi_ws_nil, vi_ws_I, vi_ws_J, vi_ws_R, wi_k, wi_n, wi_r, wi_l, wr_k, wr_n, wr_i, wr_l, wl_k, wl_n, wl_i, wl_r, Nat.reduceSub, Nat.reduceMul, cd_29_0, mc_29, ms_29, mr_29, mh_29, ml_29, mc_61, ms_61]
  refine c_61 ?_
  simp only [vi_go, vi_1, vi_lk, vi_li, vi_ll, vi_lr, vi_ii, vi_i, vi_jj, vi_j, vi_ij, vi_r, vi_rr, vi_o, vi_ir, vi_iir, vi_jir, vi_rir, vi_pop, vi_sw, vi_sv, vg_set1, vg_set2, vg_lo, List.headD, List.contains_nil, List.contains_cons, Bool.or_false, Bool.false_eq_true, if_false, if_true, Nat.reduceAdd, Nat.reduceBEq, List.nil_append, List.cons_append, List.append_nil, Option.toList, Int32.reduceOfNat, Int64.reduceOfNat, reduceCtorEq, Nat.reduceLeDiff, Nat.le_refl, Nat.zero_le, true_and, and_true, false_or, or_false, or_true, true_or, and_self, not_true_eq_false, not_false_eq_true, forall_const, false_implies, true_implies, Sum.inl.injEq, Sum.inr.injEq, Option.some.injEq, vi_ret, eq_self, oI_1, oI_m, oI_5, oI_L, vi_ws_nil, vi_ws_I, vi_ws_J, vi_ws_R, wi_k, wi_n, wi_r, wi_l, wr_k, wr_n, wr_i, wr_l, wl_k, wl_n, wl_i, wl_r, Nat.reduceSub, Nat.reduceMul, cd_29_0, mc_29, ms_29, mr_29, mh_29, ml_29, mc_61, ms_61]
  exact ⟨bI_01 _, hQ⟩
set_option maxRecDepth 100000 in
/-- isMinute -/
theorem c_30 {a : Int32} (hQ : Q (.inl (some (.inl (bI (0 ≤ a ∧ a ≤ 200000))))) h) : vg_C G (MT 30) [.inl a] h Q := by
  refine vg_C_of rfl (by decide +kernel) (Nat.le_of_ble_eq_true rfl) ?_
  refine vi_run ok_30 [] 40 ?_
  rw [at_30_0]
  simp only [vg_ent, vg_en, List.length_cons, List.length_nil, Nat.reduceAdd, Nat.reduceSub, List.replicate, List.append_nil, List.nil_append, List.cons_append, mn_30]
  simp only [vi_go, vi_1, vi_lk, vi_li, vi_ll, vi_lr, vi_ii, vi_i, vi_jj, vi_j, vi_ij, vi_r, vi_rr, vi_o, vi_ir, vi_iir, vi_jir, vi_rir, vi_pop, vi_sw, vi_sv, vg_set1, vg_set2, vg_lo, List.headD, List.contains_nil, List.contains_cons, Bool.or_false, Bool.false_eq_true, if_false, if_true, Nat.reduceAdd, Nat.reduceBEq, List.nil_append, List.cons_append, List.append_nil, Option.toList, Int32.reduceOfNat, Int64.reduceOfNat, reduceCtorEq, Nat.reduceLeDiff, Nat.le_refl, Nat.zero_le, true_and, and_true, false_or, or_false, or_true, true_or, and_self, not_true_eq_false, not_false_eq_true, forall_const, false_implies, true_implies, Sum.inl.injEq, Sum.inr.injEq, Option.some.injEq, vi_ret, eq_self, oI_1, oI_m, oI_5, oI_L, vi_ws_nil, vi_ws_I, vi_ws_J, vi_ws_R, wi_k, wi_n, wi_r, wi_l, wr_k, wr_n, wr_i, wr_l, wl_k, wl_n, wl_i, wl_r, Nat.reduceSub, Nat.reduceMul, cd_30_0, mc_30, ms_30, mr_30, mh_30, ml_30, mc_61, ms_61]
  refine c_61 ?_
  simp only [vi_go, vi_1, vi_lk, vi_li, vi_ll, vi_lr, vi_ii, vi_i, vi_jj, vi_j, vi_ij, vi_r, vi_rr, vi_o, vi_ir, vi_iir, vi_jir, vi_rir, vi_pop, vi_sw, vi_sv, vg_set1, vg_set2, vg_lo, List.headD, List.contains_nil, List.contains_cons, Bool.or_false, Bool.false_eq_true, if_false, if_true, Nat.reduceAdd, Nat.reduceBEq, List.nil_append, List.cons_append, List.append_nil, Option.toList, Int32.reduceOfNat, Int64.reduceOfNat, reduceCtorEq, Nat.reduceLeDiff, Nat.le_refl, Nat.zero_le, true_and, and_true, false_or, or_false, or_true, true_or, and_self, not_true_eq_false, not_false_eq_true, forall_const, false_implies, true_implies, Sum.inl.injEq, Sum.inr.injEq, Option.some.injEq, vi_ret, eq_self, oI_1, oI_m, oI_5, oI_L, vi_ws_nil, vi_ws_I, vi_ws_J, vi_ws_R, wi_k, wi_n, wi_r, wi_l, wr_k, wr_n, wr_i, wr_l, wl_k, wl_n, wl_i, wl_r, Nat.reduceSub, Nat.reduceMul, cd_30_0, mc_30, ms_30, mr_30, mh_30, ml_30, mc_61, ms_61]
  exact ⟨bI_01 _, hQ⟩
set_option maxRecDepth 100000 in
theorem vg_at0 : ∀ w ∈ vx_at0 RX10 306 (vg_ex 0) ["java/lang/RuntimeException", "java/lang/Exception"], w ∈ vg_ws ∨ (w ∈ vg_xs ∧ w.onTables = true) := by decide +kernel
set_option maxRecDepth 100000 in
theorem vg_at1 : ∀ w ∈ vx_at0 RX10 309 (vg_ex 1) ["java/lang/RuntimeException", "java/lang/Exception"], w ∈ vg_ws ∨ (w ∈ vg_xs ∧ w.onTables = true) := by decide +kernel
set_option maxRecDepth 100000 in
/-- needArgument -/
theorem c_45 {a : Int32} (hr : ¬ a = 0 → Q (.inl none) h) (hx : a = 0 → ∀ n, vg_z h ≤ n → Q (.inr 0) (vg_skip h n)) : vg_C G (MT 45) [.inl a] h Q := by
  refine vg_C_of rfl (by decide +kernel) (Nat.le_of_ble_eq_true rfl) ?_
  refine vr_iload_n (n := 0) (x := a) (by decide +kernel) rfl ?_
  refine vr_if_ne (tgt := 12) (off := 11) (by decide +kernel) (by decide) ⟨fun h1 => ?_, fun h1 => ?_⟩
  · exact vr_vret rfl ⟨Nat.zero_le _, Nat.zero_le _⟩ (by decide +kernel) (hr h1)
  · refine vr_throw (k := 0) (ik := 304) (ic := 306) (vg_inW 276 rfl rfl) (vg_inW 59 rfl rfl) (by decide +kernel) vg_at0 (by decide +kernel) (by decide +kernel) (by decide +kernel) (by decide +kernel) (by decide +kernel) rfl (by decide) (by decide) (by decide) (fun n hn => hx (Classical.not_not.mp h1) n hn)
set_option maxRecDepth 100000 in
/-- needState -/
theorem c_46 {a : Int32} (hr : ¬ a = 0 → Q (.inl none) h) (hx : a = 0 → ∀ n, vg_z h ≤ n → Q (.inr 1) (vg_skip h n)) : vg_C G (MT 46) [.inl a] h Q := by
  refine vg_C_of rfl (by decide +kernel) (Nat.le_of_ble_eq_true rfl) ?_
  refine vr_iload_n (n := 0) (x := a) (by decide +kernel) rfl ?_
  refine vr_if_ne (tgt := 12) (off := 11) (by decide +kernel) (by decide) ⟨fun h1 => ?_, fun h1 => ?_⟩
  · exact vr_vret rfl ⟨Nat.zero_le _, Nat.zero_le _⟩ (by decide +kernel) (hr h1)
  · refine vr_throw (k := 1) (ik := 307) (ic := 309) (vg_inW 341 rfl rfl) (vg_inW 60 rfl rfl) (by decide +kernel) vg_at1 (by decide +kernel) (by decide +kernel) (by decide +kernel) (by decide +kernel) (by decide +kernel) rfl (by decide) (by decide) (by decide) (fun n hn => hx (Classical.not_not.mp h1) n hn)
end CP
