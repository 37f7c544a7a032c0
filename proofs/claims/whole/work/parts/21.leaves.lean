/-! ===== leaves that read the heap ===== -/
section CL
variable {G : vg_G} {h : vg_H} {Q : vg_O → vg_H → Prop}
set_option maxRecDepth 100000 in
/-- isTicket -/
theorem c_36 {b : Nat} {a : Int32} (hb : h.1 b = 10) (hQ : Q (.inl (some (.inl (bI (1 ≤ a ∧ a ≤ h.2.2.1 b 9))))) h) : vg_C G (MT 36) [.inr (.inr (some b)), .inl a] h Q := by
  refine vg_C_of rfl (by decide +kernel) (Nat.le_of_ble_eq_true rfl) ?_
  refine vi_run ok_36 [] 40 ?_
  rw [at_36_0]
  simp only [vg_ent, vg_en, List.length_cons, List.length_nil, Nat.reduceAdd, Nat.reduceSub, List.replicate, List.append_nil, List.nil_append, List.cons_append, mn_36]
  simp only [vi_go, vi_1, vi_lk, vi_li, vi_ll, vi_lr, vi_ii, vi_i, vi_jj, vi_j, vi_ij, vi_r, vi_rr, vi_o, vi_ir, vi_iir, vi_jir, vi_rir, vi_pop, vi_sw, vi_sv, vg_set1, vg_set2, vg_lo, List.headD, List.contains_nil, List.contains_cons, Bool.or_false, Bool.false_eq_true, if_false, if_true, Nat.reduceAdd, Nat.reduceBEq, List.nil_append, List.cons_append, List.append_nil, Option.toList, Int32.reduceOfNat, Int64.reduceOfNat, reduceCtorEq, Nat.reduceLeDiff, Nat.le_refl, Nat.zero_le, true_and, and_true, false_or, or_false, or_true, true_or, and_self, not_true_eq_false, not_false_eq_true, forall_const, false_implies, true_implies, Sum.inl.injEq, Sum.inr.injEq, Option.some.injEq, vi_ret, eq_self, oI_1, oI_m, oI_5, oI_L, vi_ws_nil, vi_ws_I, vi_ws_J, vi_ws_R, wi_k, wi_n, wi_r, wi_l, wr_k, wr_n, wr_i, wr_l, wl_k, wl_n, wl_i, wl_r, Nat.reduceSub, Nat.reduceMul, cd_36_0, mc_36, ms_36, mr_36, mh_36, ml_36, mc_61, ms_61]
  refine ⟨hb, c_61 ?_⟩
  simp only [vi_go, vi_1, vi_lk, vi_li, vi_ll, vi_lr, vi_ii, vi_i, vi_jj, vi_j, vi_ij, vi_r, vi_rr, vi_o, vi_ir, vi_iir, vi_jir, vi_rir, vi_pop, vi_sw, vi_sv, vg_set1, vg_set2, vg_lo, List.headD, List.contains_nil, List.contains_cons, Bool.or_false, Bool.false_eq_true, if_false, if_true, Nat.reduceAdd, Nat.reduceBEq, List.nil_append, List.cons_append, List.append_nil, Option.toList, Int32.reduceOfNat, Int64.reduceOfNat, reduceCtorEq, Nat.reduceLeDiff, Nat.le_refl, Nat.zero_le, true_and, and_true, false_or, or_false, or_true, true_or, and_self, not_true_eq_false, not_false_eq_true, forall_const, false_implies, true_implies, Sum.inl.injEq, Sum.inr.injEq, Option.some.injEq, vi_ret, eq_self, oI_1, oI_m, oI_5, oI_L, vi_ws_nil, vi_ws_I, vi_ws_J, vi_ws_R, wi_k, wi_n, wi_r, wi_l, wr_k, wr_n, wr_i, wr_l, wl_k, wl_n, wl_i, wl_r, Nat.reduceSub, Nat.reduceMul, cd_36_0, mc_36, ms_36, mr_36, mh_36, ml_36, mc_61, ms_61]
  exact ⟨bI_01 _, hQ⟩
set_option maxRecDepth 100000 in
/-- isTimely -/
theorem c_37 {b : Nat} {a : Int32} (hb : h.1 b = 10) (hQ : Q (.inl (some (.inl (bI ((0 ≤ a ∧ a ≤ 200000) ∧ h.2.2.1 b 11 ≤ a))))) h) : vg_C G (MT 37) [.inr (.inr (some b)), .inl a] h Q := by
  refine vg_C_of rfl (by decide +kernel) (Nat.le_of_ble_eq_true rfl) ?_
  refine vi_run ok_37 [] 40 ?_
  rw [at_37_0]
  simp only [vg_ent, vg_en, List.length_cons, List.length_nil, Nat.reduceAdd, Nat.reduceSub, List.replicate, List.append_nil, List.nil_append, List.cons_append, mn_37]
  simp only [vi_go, vi_1, vi_lk, vi_li, vi_ll, vi_lr, vi_ii, vi_i, vi_jj, vi_j, vi_ij, vi_r, vi_rr, vi_o, vi_ir, vi_iir, vi_jir, vi_rir, vi_pop, vi_sw, vi_sv, vg_set1, vg_set2, vg_lo, List.headD, List.contains_nil, List.contains_cons, Bool.or_false, Bool.false_eq_true, if_false, if_true, Nat.reduceAdd, Nat.reduceBEq, List.nil_append, List.cons_append, List.append_nil, Option.toList, Int32.reduceOfNat, Int64.reduceOfNat, reduceCtorEq, Nat.reduceLeDiff, Nat.le_refl, Nat.zero_le, true_and, and_true, false_or, or_false, or_true, true_or, and_self, not_true_eq_false, not_false_eq_true, forall_const, false_implies, true_implies, Sum.inl.injEq, Sum.inr.injEq, Option.some.injEq, vi_ret, eq_self, oI_1, oI_m, oI_5, oI_L, vi_ws_nil, vi_ws_I, vi_ws_J, vi_ws_R, wi_k, wi_n, wi_r, wi_l, wr_k, wr_n, wr_i, wr_l, wl_k, wl_n, wl_i, wl_r, Nat.reduceSub, Nat.reduceMul, cd_37_0, cd_37_19, cd_37_20, at_37_19, at_37_20, mc_37, ms_37, mr_37, mh_37, ml_37, mc_30, ms_30]
  refine c_30 ?_
  simp only [vi_go, vi_1, vi_lk, vi_li, vi_ll, vi_lr, vi_ii, vi_i, vi_jj, vi_j, vi_ij, vi_r, vi_rr, vi_o, vi_ir, vi_iir, vi_jir, vi_rir, vi_pop, vi_sw, vi_sv, vg_set1, vg_set2, vg_lo, List.headD, List.contains_nil, List.contains_cons, Bool.or_false, Bool.false_eq_true, if_false, if_true, Nat.reduceAdd, Nat.reduceBEq, List.nil_append, List.cons_append, List.append_nil, Option.toList, Int32.reduceOfNat, Int64.reduceOfNat, reduceCtorEq, Nat.reduceLeDiff, Nat.le_refl, Nat.zero_le, true_and, and_true, false_or, or_false, or_true, true_or, and_self, not_true_eq_false, not_false_eq_true, forall_const, false_implies, true_implies, Sum.inl.injEq, Sum.inr.injEq, Option.some.injEq, vi_ret, eq_self, oI_1, oI_m, oI_5, oI_L, vi_ws_nil, vi_ws_I, vi_ws_J, vi_ws_R, wi_k, wi_n, wi_r, wi_l, wr_k, wr_n, wr_i, wr_l, wl_k, wl_n, wl_i, wl_r, Nat.reduceSub, Nat.reduceMul, cd_37_0, cd_37_19, cd_37_20, at_37_19, at_37_20, mc_37, ms_37, mr_37, mh_37, ml_37, mc_30, ms_30]
  refine ⟨fun h1 => ?_, fun h1 => ⟨hb, fun h2 => ?_, fun h2 => ?_⟩⟩
  · rw [bI_f (fun z => bI_eq.mp h1 z.1)] at hQ; exact hQ
  · rw [bI_f (fun z => Int32.not_le.mpr h2 z.2)] at hQ; exact hQ
  · rw [bI_t ⟨bI_ne.mp h1, Int32.not_lt.mp h2⟩] at hQ; exact hQ
set_option maxRecDepth 100000 in
/-- isStay -/
theorem c_35 {a c : Int32} (hQ : Q (.inl (some (.inl (bI ((0 ≤ a ∧ a ≤ 200000) ∧ (0 ≤ c ∧ c ≤ 200000) ∧ a ≤ c))))) h) : vg_C G (MT 35) [.inl a, .inl c] h Q := by
  refine vg_C_of rfl (by decide +kernel) (Nat.le_of_ble_eq_true rfl) ?_
  refine vi_run ok_35 [] 40 ?_
  rw [at_35_0]
  simp only [vg_ent, vg_en, List.length_cons, List.length_nil, Nat.reduceAdd, Nat.reduceSub, List.replicate, List.append_nil, List.nil_append, List.cons_append, mn_35]
  simp only [vi_go, vi_1, vi_lk, vi_li, vi_ll, vi_lr, vi_ii, vi_i, vi_jj, vi_j, vi_ij, vi_r, vi_rr, vi_o, vi_ir, vi_iir, vi_jir, vi_rir, vi_pop, vi_sw, vi_sv, vg_set1, vg_set2, vg_lo, List.headD, List.contains_nil, List.contains_cons, Bool.or_false, Bool.false_eq_true, if_false, if_true, Nat.reduceAdd, Nat.reduceBEq, List.nil_append, List.cons_append, List.append_nil, Option.toList, Int32.reduceOfNat, Int64.reduceOfNat, reduceCtorEq, Nat.reduceLeDiff, Nat.le_refl, Nat.zero_le, true_and, and_true, false_or, or_false, or_true, true_or, and_self, not_true_eq_false, not_false_eq_true, forall_const, false_implies, true_implies, Sum.inl.injEq, Sum.inr.injEq, Option.some.injEq, vi_ret, eq_self, oI_1, oI_m, oI_5, oI_L, vi_ws_nil, vi_ws_I, vi_ws_J, vi_ws_R, wi_k, wi_n, wi_r, wi_l, wr_k, wr_n, wr_i, wr_l, wl_k, wl_n, wl_i, wl_r, Nat.reduceSub, Nat.reduceMul, cd_35_0, cd_35_23, cd_35_24, at_35_23, at_35_24, mc_35, ms_35, mr_35, mh_35, ml_35, mc_30, ms_30]
  refine c_30 ?_
  simp only [vi_go, vi_1, vi_lk, vi_li, vi_ll, vi_lr, vi_ii, vi_i, vi_jj, vi_j, vi_ij, vi_r, vi_rr, vi_o, vi_ir, vi_iir, vi_jir, vi_rir, vi_pop, vi_sw, vi_sv, vg_set1, vg_set2, vg_lo, List.headD, List.contains_nil, List.contains_cons, Bool.or_false, Bool.false_eq_true, if_false, if_true, Nat.reduceAdd, Nat.reduceBEq, List.nil_append, List.cons_append, List.append_nil, Option.toList, Int32.reduceOfNat, Int64.reduceOfNat, reduceCtorEq, Nat.reduceLeDiff, Nat.le_refl, Nat.zero_le, true_and, and_true, false_or, or_false, or_true, true_or, and_self, not_true_eq_false, not_false_eq_true, forall_const, false_implies, true_implies, Sum.inl.injEq, Sum.inr.injEq, Option.some.injEq, vi_ret, eq_self, oI_1, oI_m, oI_5, oI_L, vi_ws_nil, vi_ws_I, vi_ws_J, vi_ws_R, wi_k, wi_n, wi_r, wi_l, wr_k, wr_n, wr_i, wr_l, wl_k, wl_n, wl_i, wl_r, Nat.reduceSub, Nat.reduceMul, cd_35_0, cd_35_23, cd_35_24, at_35_23, at_35_24, mc_35, ms_35, mr_35, mh_35, ml_35, mc_30, ms_30]
  refine ⟨fun h1 => ?_, fun h1 => c_30 ?_⟩
  · rw [bI_f (fun z => bI_eq.mp h1 z.1)] at hQ; exact hQ
  simp only [vi_go, vi_1, vi_lk, vi_li, vi_ll, vi_lr, vi_ii, vi_i, vi_jj, vi_j, vi_ij, vi_r, vi_rr, vi_o, vi_ir, vi_iir, vi_jir, vi_rir, vi_pop, vi_sw, vi_sv, vg_set1, vg_set2, vg_lo, List.headD, List.contains_nil, List.contains_cons, Bool.or_false, Bool.false_eq_true, if_false, if_true, Nat.reduceAdd, Nat.reduceBEq, List.nil_append, List.cons_append, List.append_nil, Option.toList, Int32.reduceOfNat, Int64.reduceOfNat, reduceCtorEq, Nat.reduceLeDiff, Nat.le_refl, Nat.zero_le, true_and, and_true, false_or, or_false, or_true, true_or, and_self, not_true_eq_false, not_false_eq_true, forall_const, false_implies, true_implies, Sum.inl.injEq, Sum.inr.injEq, Option.some.injEq, vi_ret, eq_self, oI_1, oI_m, oI_5, oI_L, vi_ws_nil, vi_ws_I, vi_ws_J, vi_ws_R, wi_k, wi_n, wi_r, wi_l, wr_k, wr_n, wr_i, wr_l, wl_k, wl_n, wl_i, wl_r, Nat.reduceSub, Nat.reduceMul, cd_35_0, cd_35_23, cd_35_24, at_35_23, at_35_24, mc_35, ms_35, mr_35, mh_35, ml_35, mc_30, ms_30]
  refine ⟨fun h2 => ?_, fun h2 => ⟨fun h3 => ?_, fun h3 => ?_⟩⟩
  · rw [bI_f (fun z => bI_eq.mp h2 z.2.1)] at hQ; exact hQ
  · rw [bI_f (fun z => Int32.not_le.mpr h3 z.2.2)] at hQ; exact hQ
  · rw [bI_t ⟨bI_ne.mp h1, bI_ne.mp h2, Int32.not_lt.mp h3⟩] at hQ; exact hQ
set_option maxRecDepth 100000 in
/-- isPrice -/
theorem c_32 {a : Int32} (hQ : Q (.inl (some (.inl (bI ((0 ≤ a ∧ a ≤ 20000) ∧ a - a / 5 * 5 = 0))))) h) : vg_C G (MT 32) [.inl a] h Q := by
  refine vg_C_of rfl (by decide +kernel) (Nat.le_of_ble_eq_true rfl) ?_
  refine vi_run ok_32 [] 40 ?_
  rw [at_32_0]
  simp only [vg_ent, vg_en, List.length_cons, List.length_nil, Nat.reduceAdd, Nat.reduceSub, List.replicate, List.append_nil, List.nil_append, List.cons_append, mn_32]
  simp only [vi_go, vi_1, vi_lk, vi_li, vi_ll, vi_lr, vi_ii, vi_i, vi_jj, vi_j, vi_ij, vi_r, vi_rr, vi_o, vi_ir, vi_iir, vi_jir, vi_rir, vi_pop, vi_sw, vi_sv, vg_set1, vg_set2, vg_lo, List.headD, List.contains_nil, List.contains_cons, Bool.or_false, Bool.false_eq_true, if_false, if_true, Nat.reduceAdd, Nat.reduceBEq, List.nil_append, List.cons_append, List.append_nil, Option.toList, Int32.reduceOfNat, Int64.reduceOfNat, reduceCtorEq, Nat.reduceLeDiff, Nat.le_refl, Nat.zero_le, true_and, and_true, false_or, or_false, or_true, true_or, and_self, not_true_eq_false, not_false_eq_true, forall_const, false_implies, true_implies, Sum.inl.injEq, Sum.inr.injEq, Option.some.injEq, vi_ret, eq_self, oI_1, oI_m, oI_5, oI_L, vi_ws_nil, vi_ws_I, vi_ws_J, vi_ws_R, wi_k, wi_n, wi_r, wi_l, wr_k, wr_n, wr_i, wr_l, wl_k, wl_n, wl_i, wl_r, Nat.reduceSub, Nat.reduceMul, cd_32_0, cd_32_21, cd_32_22, at_32_21, at_32_22, mc_32, ms_32, mr_32, mh_32, ml_32, mc_61, ms_61]
  refine c_61 ?_
  simp only [vi_go, vi_1, vi_lk, vi_li, vi_ll, vi_lr, vi_ii, vi_i, vi_jj, vi_j, vi_ij, vi_r, vi_rr, vi_o, vi_ir, vi_iir, vi_jir, vi_rir, vi_pop, vi_sw, vi_sv, vg_set1, vg_set2, vg_lo, List.headD, List.contains_nil, List.contains_cons, Bool.or_false, Bool.false_eq_true, if_false, if_true, Nat.reduceAdd, Nat.reduceBEq, List.nil_append, List.cons_append, List.append_nil, Option.toList, Int32.reduceOfNat, Int64.reduceOfNat, reduceCtorEq, Nat.reduceLeDiff, Nat.le_refl, Nat.zero_le, true_and, and_true, false_or, or_false, or_true, true_or, and_self, not_true_eq_false, not_false_eq_true, forall_const, false_implies, true_implies, Sum.inl.injEq, Sum.inr.injEq, Option.some.injEq, vi_ret, eq_self, oI_1, oI_m, oI_5, oI_L, vi_ws_nil, vi_ws_I, vi_ws_J, vi_ws_R, wi_k, wi_n, wi_r, wi_l, wr_k, wr_n, wr_i, wr_l, wl_k, wl_n, wl_i, wl_r, Nat.reduceSub, Nat.reduceMul, cd_32_0, cd_32_21, cd_32_22, at_32_21, at_32_22, mc_32, ms_32, mr_32, mh_32, ml_32, mc_61, ms_61]
  refine ⟨fun h1 => ?_, fun h1 => ⟨by decide, fun v hv => ⟨fun h2 => ?_, fun h2 => ?_⟩⟩⟩
  · exact bI_0 hQ (fun z => bI_eq.mp h1 z.1)
  · exact bI_0 hQ (fun z => h2 (hv.trans z.2))
  · exact bI_1 hQ ⟨bI_ne.mp h1, hv ▸ Classical.not_not.mp h2⟩
set_option maxRecDepth 100000 in
/-- Reservation.runsAt -/
theorem c_87 {b : Nat} {a : Int32} (hb : h.1 b = 7) (hQ : Q (.inl (some (.inl (bI (h.2.2.1 b 1 ≤ a ∧ a < h.2.2.1 b 2))))) h) : vg_C G (MT 87) [.inr (.inr (some b)), .inl a] h Q := by
  refine vg_C_of rfl (by decide +kernel) (Nat.le_of_ble_eq_true rfl) ?_
  refine vi_run ok_87 [] 40 ?_
  rw [at_87_0]
  simp only [vg_ent, vg_en, List.length_cons, List.length_nil, Nat.reduceAdd, Nat.reduceSub, List.replicate, List.append_nil, List.nil_append, List.cons_append, mn_87]
  simp only [vi_go, vi_1, vi_lk, vi_li, vi_ll, vi_lr, vi_ii, vi_i, vi_jj, vi_j, vi_ij, vi_r, vi_rr, vi_o, vi_ir, vi_iir, vi_jir, vi_rir, vi_pop, vi_sw, vi_sv, vg_set1, vg_set2, vg_lo, List.headD, List.contains_nil, List.contains_cons, Bool.or_false, Bool.false_eq_true, if_false, if_true, Nat.reduceAdd, Nat.reduceBEq, List.nil_append, List.cons_append, List.append_nil, Option.toList, Int32.reduceOfNat, Int64.reduceOfNat, reduceCtorEq, Nat.reduceLeDiff, Nat.le_refl, Nat.zero_le, true_and, and_true, false_or, or_false, or_true, true_or, and_self, not_true_eq_false, not_false_eq_true, forall_const, false_implies, true_implies, Sum.inl.injEq, Sum.inr.injEq, Option.some.injEq, vi_ret, eq_self, oI_1, oI_m, oI_5, oI_L, vi_ws_nil, vi_ws_I, vi_ws_J, vi_ws_R, wi_k, wi_n, wi_r, wi_l, wr_k, wr_n, wr_i, wr_l, wl_k, wl_n, wl_i, wl_r, Nat.reduceSub, Nat.reduceMul, cd_87_0, cd_87_20, cd_87_21, at_87_20, at_87_21, mc_87, ms_87, mr_87, mh_87, ml_87]
  refine ⟨hb, fun h1 => ?_, fun h1 => ⟨hb, fun h2 => ?_, fun h2 => ?_⟩⟩
  · exact bI_0 hQ (fun z => Int32.not_le.mpr h1 z.1)
  · exact bI_0 hQ (fun z => Int32.not_lt.mpr h2 z.2)
  · exact bI_1 hQ ⟨Int32.not_lt.mp h1, Int32.not_le.mp h2⟩
set_option maxRecDepth 100000 in
/-- Ticket.isInside -/
theorem c_90 {b : Nat} (hb : h.1 b = 8) (hQ : Q (.inl (some (.inl (bI (h.2.2.2.2.1 b 5 = some (G.2.2.2.2 1)))))) h) : vg_C G (MT 90) [.inr (.inr (some b))] h Q := by
  refine vg_C_of rfl (by decide +kernel) (Nat.le_of_ble_eq_true rfl) ?_
  refine vi_run ok_90 [] 40 ?_
  rw [at_90_0]
  simp only [vg_ent, vg_en, List.length_cons, List.length_nil, Nat.reduceAdd, Nat.reduceSub, List.replicate, List.append_nil, List.nil_append, List.cons_append, mn_90]
  simp only [vi_go, vi_1, vi_lk, vi_li, vi_ll, vi_lr, vi_ii, vi_i, vi_jj, vi_j, vi_ij, vi_r, vi_rr, vi_o, vi_ir, vi_iir, vi_jir, vi_rir, vi_pop, vi_sw, vi_sv, vg_set1, vg_set2, vg_lo, List.headD, List.contains_nil, List.contains_cons, Bool.or_false, Bool.false_eq_true, if_false, if_true, Nat.reduceAdd, Nat.reduceBEq, List.nil_append, List.cons_append, List.append_nil, Option.toList, Int32.reduceOfNat, Int64.reduceOfNat, reduceCtorEq, Nat.reduceLeDiff, Nat.le_refl, Nat.zero_le, true_and, and_true, false_or, or_false, or_true, true_or, and_self, not_true_eq_false, not_false_eq_true, forall_const, false_implies, true_implies, Sum.inl.injEq, Sum.inr.injEq, Option.some.injEq, vi_ret, eq_self, oI_1, oI_m, oI_5, oI_L, vi_ws_nil, vi_ws_I, vi_ws_J, vi_ws_R, wi_k, wi_n, wi_r, wi_l, wr_k, wr_n, wr_i, wr_l, wl_k, wl_n, wl_i, wl_r, Nat.reduceSub, Nat.reduceMul, cd_90_0, cd_90_14, cd_90_15, at_90_14, at_90_15, mc_90, ms_90, mr_90, mh_90, ml_90]
  exact ⟨hb, fun h1 => bI_0 hQ h1, fun h1 => bI_1 hQ (Classical.not_not.mp h1)⟩
/-- may a product of hours f .. t begin in hour a -/
def mayB (f t a : Int32) : Prop := if f < t then f ≤ a ∧ a < t else f ≤ a ∨ a < t
noncomputable def mayB_dec (f t a : Int32) : Decidable (mayB f t a) := Classical.propDecidable _
set_option maxRecDepth 100000 in
/-- Product.mayBeginIn -/
theorem c_85 {b : Nat} {a : Int32} (hb : h.1 b = 6) (h0 : ¬ mayB (h.2.2.1 b 4) (h.2.2.1 b 5) a → Q (.inl (some (.inl 0))) h) (h1 : mayB (h.2.2.1 b 4) (h.2.2.1 b 5) a → Q (.inl (some (.inl 1))) h) : vg_C G (MT 85) [.inr (.inr (some b)), .inl a] h Q := by
  refine vg_C_of rfl (by decide +kernel) (Nat.le_of_ble_eq_true rfl) ?_
  refine vi_run ok_85 [] 60 ?_
  rw [at_85_0]
  simp only [vg_ent, vg_en, List.length_cons, List.length_nil, Nat.reduceAdd, Nat.reduceSub, List.replicate, List.append_nil, List.nil_append, List.cons_append, mn_85]
  simp only [vi_go, vi_1, vi_lk, vi_li, vi_ll, vi_lr, vi_ii, vi_i, vi_jj, vi_j, vi_ij, vi_r, vi_rr, vi_o, vi_ir, vi_iir, vi_jir, vi_rir, vi_pop, vi_sw, vi_sv, vg_set1, vg_set2, vg_lo, List.headD, List.contains_nil, List.contains_cons, Bool.or_false, Bool.false_eq_true, if_false, if_true, Nat.reduceAdd, Nat.reduceBEq, List.nil_append, List.cons_append, List.append_nil, Option.toList, Int32.reduceOfNat, Int64.reduceOfNat, reduceCtorEq, Nat.reduceLeDiff, Nat.le_refl, Nat.zero_le, true_and, and_true, false_or, or_false, or_true, true_or, and_self, not_true_eq_false, not_false_eq_true, forall_const, false_implies, true_implies, Sum.inl.injEq, Sum.inr.injEq, Option.some.injEq, vi_ret, eq_self, oI_1, oI_m, oI_5, oI_L, vi_ws_nil, vi_ws_I, vi_ws_J, vi_ws_R, wi_k, wi_n, wi_r, wi_l, wr_k, wr_n, wr_i, wr_l, wl_k, wl_n, wl_i, wl_r, Nat.reduceSub, Nat.reduceMul, cd_85_0, cd_85_31, cd_85_32, cd_85_33, cd_85_49, cd_85_53, cd_85_54, at_85_31, at_85_32, at_85_33, at_85_49, at_85_53, at_85_54, mc_85, ms_85, mr_85, mh_85, ml_85]
  unfold mayB at h0 h1
  refine ⟨hb, hb, fun e1 => ⟨hb, fun e2 => ?_, fun e2 => ⟨hb, fun e3 => ?_, fun e3 => ?_⟩⟩, fun e1 => ⟨hb, fun e2 => ?_, fun e2 => ⟨hb, fun e3 => ?_, fun e3 => ?_⟩⟩⟩
  · exact h1 (by rw [if_neg (Int32.not_lt.mpr e1)]; exact Or.inl e2)
  · exact h0 (by rw [if_neg (Int32.not_lt.mpr e1)]; exact fun z => z.elim e2 (Int32.not_lt.mpr e3))
  · exact h1 (by rw [if_neg (Int32.not_lt.mpr e1)]; exact Or.inr (Int32.not_le.mp e3))
  · exact h0 (by rw [if_pos (Int32.not_le.mp e1)]; exact fun z => Int32.not_le.mpr e2 z.1)
  · exact h0 (by rw [if_pos (Int32.not_le.mp e1)]; exact fun z => Int32.not_lt.mpr e3 z.2)
  · exact h1 (by rw [if_pos (Int32.not_le.mp e1)]; exact ⟨Int32.not_lt.mp e2, Int32.not_le.mp e3⟩)
set_option maxRecDepth 100000 in
/-- the constructors of records -/
theorem c_82 {b : Nat} {a1 a2 a3 : Int32} (hb : h.1 b = 5) (hQ : Q (.inl none) (vg_wi (vg_wi (vg_wi h b 0 a1) b 1 a2) b 2 a3)) : vg_C G (MT 82) [.inr (.inr (some b)), .inl a1, .inl a2, .inl a3] h Q := by
  refine vg_C_of rfl (by decide +kernel) (Nat.le_of_ble_eq_true rfl) ?_
  refine vi_run ok_82 [] 40 ?_
  rw [at_82_0]
  simp only [vg_ent, vg_en, List.length_cons, List.length_nil, Nat.reduceAdd, Nat.reduceSub, List.replicate, List.append_nil, List.nil_append, List.cons_append, mn_82]
  simp only [vi_go, vi_1, vi_lk, vi_li, vi_ll, vi_lr, vi_ii, vi_i, vi_jj, vi_j, vi_ij, vi_r, vi_rr, vi_o, vi_ir, vi_iir, vi_jir, vi_rir, vi_pop, vi_sw, vi_sv, vg_set1, vg_set2, vg_lo, List.headD, List.contains_nil, List.contains_cons, Bool.or_false, Bool.false_eq_true, if_false, if_true, Nat.reduceAdd, Nat.reduceBEq, List.nil_append, List.cons_append, List.append_nil, Option.toList, Int32.reduceOfNat, Int64.reduceOfNat, reduceCtorEq, Nat.reduceLeDiff, Nat.le_refl, Nat.zero_le, true_and, and_true, false_or, or_false, or_true, true_or, and_self, not_true_eq_false, not_false_eq_true, forall_const, false_implies, true_implies, Sum.inl.injEq, Sum.inr.injEq, Option.some.injEq, vi_ret, eq_self, oI_1, oI_m, oI_5, oI_L, vi_ws_nil, vi_ws_I, vi_ws_J, vi_ws_R, wi_k, wi_n, wi_r, wi_l, wr_k, wr_n, wr_i, wr_l, wl_k, wl_n, wl_i, wl_r, Nat.reduceSub, Nat.reduceMul, cd_82_0, mc_82, ms_82, mr_82, mh_82, ml_82]
  exact ⟨hb, hb, hb, hQ⟩
set_option maxRecDepth 100000 in
theorem c_86 {b : Nat} {a1 a2 a3 : Int32} (hb : h.1 b = 7) (hQ : Q (.inl none) (vg_wi (vg_wi (vg_wi h b 0 a1) b 1 a2) b 2 a3)) : vg_C G (MT 86) [.inr (.inr (some b)), .inl a1, .inl a2, .inl a3] h Q := by
  refine vg_C_of rfl (by decide +kernel) (Nat.le_of_ble_eq_true rfl) ?_
  refine vi_run ok_86 [] 40 ?_
  rw [at_86_0]
  simp only [vg_ent, vg_en, List.length_cons, List.length_nil, Nat.reduceAdd, Nat.reduceSub, List.replicate, List.append_nil, List.nil_append, List.cons_append, mn_86]
  simp only [vi_go, vi_1, vi_lk, vi_li, vi_ll, vi_lr, vi_ii, vi_i, vi_jj, vi_j, vi_ij, vi_r, vi_rr, vi_o, vi_ir, vi_iir, vi_jir, vi_rir, vi_pop, vi_sw, vi_sv, vg_set1, vg_set2, vg_lo, List.headD, List.contains_nil, List.contains_cons, Bool.or_false, Bool.false_eq_true, if_false, if_true, Nat.reduceAdd, Nat.reduceBEq, List.nil_append, List.cons_append, List.append_nil, Option.toList, Int32.reduceOfNat, Int64.reduceOfNat, reduceCtorEq, Nat.reduceLeDiff, Nat.le_refl, Nat.zero_le, true_and, and_true, false_or, or_false, or_true, true_or, and_self, not_true_eq_false, not_false_eq_true, forall_const, false_implies, true_implies, Sum.inl.injEq, Sum.inr.injEq, Option.some.injEq, vi_ret, eq_self, oI_1, oI_m, oI_5, oI_L, vi_ws_nil, vi_ws_I, vi_ws_J, vi_ws_R, wi_k, wi_n, wi_r, wi_l, wr_k, wr_n, wr_i, wr_l, wl_k, wl_n, wl_i, wl_r, Nat.reduceSub, Nat.reduceMul, cd_86_0, mc_86, ms_86, mr_86, mh_86, ml_86]
  exact ⟨hb, hb, hb, hQ⟩
set_option maxRecDepth 100000 in
/-- Product(id, price, length, zone) -/
theorem c_84 {b : Nat} {a1 a2 a3 a4 : Int32} (hb : h.1 b = 6) (hQ : Q (.inl none) (vg_wi (vg_wi (vg_wi (vg_wi (vg_wi (vg_wi h b 4 0) b 5 168) b 0 a1) b 1 a2) b 2 a3) b 3 a4)) : vg_C G (MT 84) [.inr (.inr (some b)), .inl a1, .inl a2, .inl a3, .inl a4] h Q := by
  refine vg_C_of rfl (by decide +kernel) (Nat.le_of_ble_eq_true rfl) ?_
  refine vi_run ok_84 [] 60 ?_
  rw [at_84_0]
  simp only [vg_ent, vg_en, List.length_cons, List.length_nil, Nat.reduceAdd, Nat.reduceSub, List.replicate, List.append_nil, List.nil_append, List.cons_append, mn_84]
  simp only [vi_go, vi_1, vi_lk, vi_li, vi_ll, vi_lr, vi_ii, vi_i, vi_jj, vi_j, vi_ij, vi_r, vi_rr, vi_o, vi_ir, vi_iir, vi_jir, vi_rir, vi_pop, vi_sw, vi_sv, vg_set1, vg_set2, vg_lo, List.headD, List.contains_nil, List.contains_cons, Bool.or_false, Bool.false_eq_true, if_false, if_true, Nat.reduceAdd, Nat.reduceBEq, List.nil_append, List.cons_append, List.append_nil, Option.toList, Int32.reduceOfNat, Int64.reduceOfNat, reduceCtorEq, Nat.reduceLeDiff, Nat.le_refl, Nat.zero_le, true_and, and_true, false_or, or_false, or_true, true_or, and_self, not_true_eq_false, not_false_eq_true, forall_const, false_implies, true_implies, Sum.inl.injEq, Sum.inr.injEq, Option.some.injEq, vi_ret, eq_self, oI_1, oI_m, oI_5, oI_L, vi_ws_nil, vi_ws_I, vi_ws_J, vi_ws_R, wi_k, wi_n, wi_r, wi_l, wr_k, wr_n, wr_i, wr_l, wl_k, wl_n, wl_i, wl_r, Nat.reduceSub, Nat.reduceMul, cd_84_0, mc_84, ms_84, mr_84, mh_84, ml_84]
  exact ⟨hb, hb, hb, hb, hb, hb, hQ⟩
set_option maxRecDepth 100000 in
/-- Ticket(number, plate, zone, beginning, contract) -/
theorem c_88 {b : Nat} {a1 a2 a3 a4 a5 : Int32} (hb : h.1 b = 8) (hQ : Q (.inl none) (vg_wi (vg_wi (vg_wi (vg_wi (vg_wi (vg_wi (vg_wi (vg_wi (vg_wr h b 5 (some (G.2.2.2.2 1))) b 6 0) b 7 0) b 8 (-1)) b 0 a1) b 1 a2) b 2 a3) b 3 a4) b 4 a5)) : vg_C G (MT 88) [.inr (.inr (some b)), .inl a1, .inl a2, .inl a3, .inl a4, .inl a5] h Q := by
  refine vg_C_of rfl (by decide +kernel) (Nat.le_of_ble_eq_true rfl) ?_
  refine vi_run ok_88 [] 60 ?_
  rw [at_88_0]
  simp only [vg_ent, vg_en, List.length_cons, List.length_nil, Nat.reduceAdd, Nat.reduceSub, List.replicate, List.append_nil, List.nil_append, List.cons_append, mn_88]
  simp only [vi_go, vi_1, vi_lk, vi_li, vi_ll, vi_lr, vi_ii, vi_i, vi_jj, vi_j, vi_ij, vi_r, vi_rr, vi_o, vi_ir, vi_iir, vi_jir, vi_rir, vi_pop, vi_sw, vi_sv, vg_set1, vg_set2, vg_lo, List.headD, List.contains_nil, List.contains_cons, Bool.or_false, Bool.false_eq_true, if_false, if_true, Nat.reduceAdd, Nat.reduceBEq, List.nil_append, List.cons_append, List.append_nil, Option.toList, Int32.reduceOfNat, Int64.reduceOfNat, reduceCtorEq, Nat.reduceLeDiff, Nat.le_refl, Nat.zero_le, true_and, and_true, false_or, or_false, or_true, true_or, and_self, not_true_eq_false, not_false_eq_true, forall_const, false_implies, true_implies, Sum.inl.injEq, Sum.inr.injEq, Option.some.injEq, vi_ret, eq_self, oI_1, oI_m, oI_5, oI_L, vi_ws_nil, vi_ws_I, vi_ws_J, vi_ws_R, wi_k, wi_n, wi_r, wi_l, wr_k, wr_n, wr_i, wr_l, wl_k, wl_n, wl_i, wl_r, Nat.reduceSub, Nat.reduceMul, cd_88_0, mc_88, ms_88, mr_88, mh_88, ml_88]
  exact ⟨hb, hb, hb, hb, hb, hb, hb, hb, hb, hQ⟩
set_option maxRecDepth 100000 in
/-- Ticket.isInGrace -/
theorem c_89 {b : Nat} {a : Int32} (hb : h.1 b = 8) (hQ : Q (.inl (some (.inl (bI (¬ h.2.2.1 b 8 = -1 ∧ a - h.2.2.1 b 8 ≤ 15))))) h) : vg_C G (MT 89) [.inr (.inr (some b)), .inl a] h Q := by
  refine vg_C_of rfl (by decide +kernel) (Nat.le_of_ble_eq_true rfl) ?_
  refine vi_run ok_89 [] 40 ?_
  rw [at_89_0]
  simp only [vg_ent, vg_en, List.length_cons, List.length_nil, Nat.reduceAdd, Nat.reduceSub, List.replicate, List.append_nil, List.nil_append, List.cons_append, mn_89]
  simp only [vi_go, vi_1, vi_lk, vi_li, vi_ll, vi_lr, vi_ii, vi_i, vi_jj, vi_j, vi_ij, vi_r, vi_rr, vi_o, vi_ir, vi_iir, vi_jir, vi_rir, vi_pop, vi_sw, vi_sv, vg_set1, vg_set2, vg_lo, List.headD, List.contains_nil, List.contains_cons, Bool.or_false, Bool.false_eq_true, if_false, if_true, Nat.reduceAdd, Nat.reduceBEq, List.nil_append, List.cons_append, List.append_nil, Option.toList, Int32.reduceOfNat, Int64.reduceOfNat, reduceCtorEq, Nat.reduceLeDiff, Nat.le_refl, Nat.zero_le, true_and, and_true, false_or, or_false, or_true, true_or, and_self, not_true_eq_false, not_false_eq_true, forall_const, false_implies, true_implies, Sum.inl.injEq, Sum.inr.injEq, Option.some.injEq, vi_ret, eq_self, oI_1, oI_m, oI_5, oI_L, vi_ws_nil, vi_ws_I, vi_ws_J, vi_ws_R, wi_k, wi_n, wi_r, wi_l, wr_k, wr_n, wr_i, wr_l, wl_k, wl_n, wl_i, wl_r, Nat.reduceSub, Nat.reduceMul, cd_89_0, cd_89_23, cd_89_24, at_89_23, at_89_24, mc_89, ms_89, mr_89, mh_89, ml_89]
  grind [bI]
end CL
