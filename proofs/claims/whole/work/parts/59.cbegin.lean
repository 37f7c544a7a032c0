/-! ===== the class: payBegin ===== -/
def flH (a : Nat) (v : Int32) : vg_H → Nat → Nat → vg_H
  | h, _, 0 => h
  | h, i, n + 1 => flH a v (vg_wi h a i v) (i + 1) n
theorem flH_o {a : Nat} {v : Int32} : ∀ (n i : Nat) (h : vg_H), (flH a v h i n).1 = h.1 ∧ (flH a v h i n).2.1 = h.2.1 ∧ (flH a v h i n).2.2.2 = h.2.2.2
  | 0, _, _ => ⟨rfl, rfl, rfl⟩
  | n + 1, i, h => flH_o n (i + 1) (vg_wi h a i v)
theorem flH_i {a : Nat} {v : Int32} : ∀ (n i : Nat) (h : vg_H) (x j : Nat), (flH a v h i n).2.2.1 x j = if x = a ∧ i ≤ j ∧ j < i + n then v else h.2.2.1 x j
  | 0, i, h, x, j => by rw [if_neg (fun z => by omega)]; rfl
  | n + 1, i, h, x, j => by
    rw [flH, flH_i n (i + 1), wi_i]
    by_cases e : x = a ∧ i + 1 ≤ j ∧ j < i + 1 + n
    · rw [if_pos e, if_pos ⟨e.1, by omega, by omega⟩]
    · rw [if_neg e]
      by_cases e2 : x = a ∧ j = i
      · rw [if_pos e2, if_pos ⟨e2.1, by omega, by omega⟩]
      · rw [if_neg e2, if_neg (fun z => by
          by_cases q : j = i
          · exact e2 ⟨z.1, q⟩
          · exact e ⟨z.1, by omega, by omega⟩)]
theorem zP_e {q : Nat} : ∀ (n i : Nat) (S : SS) (j : Nat), zP S q i n 36 j = if 6 * q + i ≤ j ∧ j < 6 * q + i + n then 0 else S 36 j
  | 0, i, S, j => by rw [if_neg (fun z => by omega)]; rfl
  | n + 1, i, S, j => by
    rw [zP, zP_e n (i + 1), up_e]
    by_cases e : 6 * q + (i + 1) ≤ j ∧ j < 6 * q + (i + 1) + n
    · rw [if_pos e, if_pos ⟨by omega, by omega⟩]
    · rw [if_neg e]
      by_cases e2 : j = 6 * q + i
      · rw [if_pos ⟨rfl, e2⟩, if_pos ⟨by omega, by omega⟩]
      · rw [if_neg (fun z => e2 z.2), if_neg (fun z => by omega)]
theorem sumI_z {f : Nat → Int32} : ∀ (m i : Nat), (∀ j, i ≤ j → j < i + m → f j = 0) → sumI f i m = 0
  | 0, _, _ => rfl
  | m + 1, i, h => by rw [sumI_s, h i (by omega) (by omega), sumI_z m (i + 1) (fun j h1 h2 => h j (by omega) (by omega)), Int32.zero_add]
section CBG
variable {G : vg_G} {b : Nat} {A : AA} {S : SS} {Q : vg_O → vg_H → Prop}
set_option maxRecDepth 100000 in
theorem l_0 {a : Nat} {v : Int32} {n9 : Nat} (hn : n9 < 2 ^ 31) : ∀ (n i : Nat) (h : vg_H), i + n = n9 → h.1 a = 100 → h.2.1 a = n9 → Q (.inl none) (flH a v h i n) →
    vg_A G (MT 0) 0 0 5 [some (.inr (.inr (some a))), some (.inl v), some (.inl (nI i)), some (.inl (nI n9))] [] h Q := by
  intro n
  induction n with
  | zero =>
    intro i h hi hk hl hQ
    have e1 : nI n9 ≤ nI i := nI_le (by omega) (by omega)
    refine vi_run ok_0 [10] 40 ?_
    rw [at_0_5]
    simp only [↓reduceIte, vi_go_c, ↓v1_iadd, ↓v1_isub, ↓v1_imul, ↓v1_iand, ↓v1_idiv, ↓v1_irem, ↓v1_ineg, ↓v1_ladd, ↓v1_lsub, ↓v1_land, ↓v1_lcmp, ↓v1_lshl, ↓v1_lshr, ↓v1_i2l, ↓v1_l2i, ↓v1_iconst_0, ↓v1_iconst_m, ↓v1_bipush, ↓v1_sipush, ↓v1_ldc, ↓v1_ldc_w, ↓v1_lconst, ↓v1_ldc2_w, ↓v1_aconst_null, ↓v1_iload, ↓v1_iload_n, ↓v1_lload, ↓v1_lload_n, ↓v1_aload, ↓v1_aload_n, ↓v1_istore, ↓v1_istore_n, ↓v1_lstore, ↓v1_lstore_n, ↓v1_astore, ↓v1_astore_n, ↓v1_iinc, ↓v1_dup, ↓v1_dup2, ↓v1_ifCond_eq, ↓v1_ifCond_ne, ↓v1_ifCond_lt, ↓v1_ifCond_ge, ↓v1_ifCond_gt, ↓v1_ifCond_le, ↓v1_if_icmp_eq, ↓v1_if_icmp_ne, ↓v1_if_icmp_lt, ↓v1_if_icmp_ge, ↓v1_if_icmp_gt, ↓v1_if_icmp_le, ↓v1_if_acmp_ne, ↓v1_ifnull, ↓v1_ifnonnull, ↓v1_goto, ↓v1_tableswitch_0, ↓v1_return_, ↓v1_ireturn, ↓v1_lreturn, ↓v1_areturn, ↓v1_getfield_0, ↓v1_putfield_0, ↓v1_getstatic, ↓v1_iaload, ↓v1_laload, ↓v1_baload, ↓v1_aaload, ↓v1_iastore, ↓v1_lastore, ↓v1_bastore, ↓v1_aastore_0, ↓v1_arraylength, ↓v1_new_0, ↓v1_newarray, ↓v1_anewarray, ↓v1_invokestatic_0, ↓v1_invokestatic_1, ↓v1_invokestatic_2a, ↓v1_invokevirtual_0, ↓v1_invokespecial_0, ↓v1_invokespecial_1a, ↓v1_invokespecial_1b, ↓vi_ii_e, ↓vi_i_e, ↓vi_jj_e, ↓vi_j_e, ↓vi_ij_e, ↓vi_r_e, ↓vi_rr_e, ↓vi_o_e, ↓vi_ir_e, ↓vi_iir_e, ↓vi_jir_e, ↓vi_rir_e, ↓vi_pop_z, ↓vi_pop_s, ↓vi_sw_n, ↓vi_sw_c, ↓vi_li_z, ↓vi_li_s, ↓vi_ll_z, ↓vi_ll_s, ↓vi_lr_z, ↓vi_lr_s, ↓vi_ret_l, ↓vi_ret_r, vi_sv, vg_set1, vg_set2, vg_lo, List.headD, List.contains_nil, List.contains_cons, Bool.or_false, Bool.false_eq_true, if_false, if_true, Nat.reduceAdd, Nat.reduceBEq, List.nil_append, List.cons_append, List.append_nil, Option.toList, Int32.reduceOfNat, Int64.reduceOfNat, reduceCtorEq, Nat.reduceLeDiff, Nat.le_refl, Nat.zero_le, true_and, and_true, false_or, or_false, or_true, true_or, and_self, not_true_eq_false, not_false_eq_true, forall_const, false_implies, true_implies, Sum.inl.injEq, Sum.inr.injEq, Option.some.injEq, eq_self, oI_1, oI_m, oI_5, oI_L, vi_ws_nil, vi_ws_I, vi_ws_J, vi_ws_R, wi_k, wi_n, wi_r, wi_l, wr_k, wr_n, wr_i, wr_l, wl_k, wl_n, wl_i, wl_r, Nat.reduceSub, Nat.reduceMul, cd_0_0, cd_0_5, cd_0_20, at_0_5, at_0_20, mc_0, ms_0, mr_0, mh_0, ml_0, e1]
    exact hQ
  | succ n ih =>
    intro i h hi hk hl hQ
    have e1 : ¬ nI n9 ≤ nI i := nI_ge (by omega) (by omega)
    have y1 := nI_clamp (show i < 2 ^ 31 by omega)
    have y2 : vp_in (nI i) n9 := vp_nI (by omega) (by omega)
    refine vi_run ok_0 [5] 40 ?_
    rw [at_0_5]
    simp only [↓reduceIte, vi_go_c, ↓v1_iadd, ↓v1_isub, ↓v1_imul, ↓v1_iand, ↓v1_idiv, ↓v1_irem, ↓v1_ineg, ↓v1_ladd, ↓v1_lsub, ↓v1_land, ↓v1_lcmp, ↓v1_lshl, ↓v1_lshr, ↓v1_i2l, ↓v1_l2i, ↓v1_iconst_0, ↓v1_iconst_m, ↓v1_bipush, ↓v1_sipush, ↓v1_ldc, ↓v1_ldc_w, ↓v1_lconst, ↓v1_ldc2_w, ↓v1_aconst_null, ↓v1_iload, ↓v1_iload_n, ↓v1_lload, ↓v1_lload_n, ↓v1_aload, ↓v1_aload_n, ↓v1_istore, ↓v1_istore_n, ↓v1_lstore, ↓v1_lstore_n, ↓v1_astore, ↓v1_astore_n, ↓v1_iinc, ↓v1_dup, ↓v1_dup2, ↓v1_ifCond_eq, ↓v1_ifCond_ne, ↓v1_ifCond_lt, ↓v1_ifCond_ge, ↓v1_ifCond_gt, ↓v1_ifCond_le, ↓v1_if_icmp_eq, ↓v1_if_icmp_ne, ↓v1_if_icmp_lt, ↓v1_if_icmp_ge, ↓v1_if_icmp_gt, ↓v1_if_icmp_le, ↓v1_if_acmp_ne, ↓v1_ifnull, ↓v1_ifnonnull, ↓v1_goto, ↓v1_tableswitch_0, ↓v1_return_, ↓v1_ireturn, ↓v1_lreturn, ↓v1_areturn, ↓v1_getfield_0, ↓v1_putfield_0, ↓v1_getstatic, ↓v1_iaload, ↓v1_laload, ↓v1_baload, ↓v1_aaload, ↓v1_iastore, ↓v1_lastore, ↓v1_bastore, ↓v1_aastore_0, ↓v1_arraylength, ↓v1_new_0, ↓v1_newarray, ↓v1_anewarray, ↓v1_invokestatic_0, ↓v1_invokestatic_1, ↓v1_invokestatic_2a, ↓v1_invokevirtual_0, ↓v1_invokespecial_0, ↓v1_invokespecial_1a, ↓v1_invokespecial_1b, ↓vi_ii_e, ↓vi_i_e, ↓vi_jj_e, ↓vi_j_e, ↓vi_ij_e, ↓vi_r_e, ↓vi_rr_e, ↓vi_o_e, ↓vi_ir_e, ↓vi_iir_e, ↓vi_jir_e, ↓vi_rir_e, ↓vi_pop_z, ↓vi_pop_s, ↓vi_sw_n, ↓vi_sw_c, ↓vi_li_z, ↓vi_li_s, ↓vi_ll_z, ↓vi_ll_s, ↓vi_lr_z, ↓vi_lr_s, ↓vi_ret_l, ↓vi_ret_r, vi_sv, vg_set1, vg_set2, vg_lo, List.headD, List.contains_nil, List.contains_cons, Bool.or_false, Bool.false_eq_true, if_false, if_true, Nat.reduceAdd, Nat.reduceBEq, List.nil_append, List.cons_append, List.append_nil, Option.toList, Int32.reduceOfNat, Int64.reduceOfNat, reduceCtorEq, Nat.reduceLeDiff, Nat.le_refl, Nat.zero_le, true_and, and_true, false_or, or_false, or_true, true_or, and_self, not_true_eq_false, not_false_eq_true, forall_const, false_implies, true_implies, Sum.inl.injEq, Sum.inr.injEq, Option.some.injEq, eq_self, oI_1, oI_m, oI_5, oI_L, vi_ws_nil, vi_ws_I, vi_ws_J, vi_ws_R, wi_k, wi_n, wi_r, wi_l, wr_k, wr_n, wr_i, wr_l, wl_k, wl_n, wl_i, wl_r, Nat.reduceSub, Nat.reduceMul, cd_0_0, cd_0_5, cd_0_20, at_0_5, at_0_20, mc_0, ms_0, mr_0, mh_0, ml_0, e1, y1, y2, hk, hl]
    intro x ex
    rw [← nI_succ] at ex; subst ex
    exact ih (i + 1) _ (by omega) hk hl hQ
set_option maxRecDepth 100000 in
theorem c_0 {a n9 : Nat} {v : Int32} {h : vg_H} (hn : n9 < 2 ^ 31) (hk : h.1 a = 100) (hl : h.2.1 a = n9) (hQ : Q (.inl none) (flH a v h 0 n9)) : vg_C G (MT 0) [.inr (.inr (some a)), .inl v] h Q := by
  refine vg_C_of rfl (by decide +kernel) (Nat.le_of_ble_eq_true rfl) ?_
  refine vi_run ok_0 [5] 40 ?_
  rw [at_0_0]
  simp only [vg_ent, vg_en, List.length_cons, List.length_nil, Nat.reduceAdd, Nat.reduceSub, List.replicate, List.append_nil, List.nil_append, List.cons_append, mn_0]
  simp only [↓reduceIte, vi_go_c, ↓v1_iadd, ↓v1_isub, ↓v1_imul, ↓v1_iand, ↓v1_idiv, ↓v1_irem, ↓v1_ineg, ↓v1_ladd, ↓v1_lsub, ↓v1_land, ↓v1_lcmp, ↓v1_lshl, ↓v1_lshr, ↓v1_i2l, ↓v1_l2i, ↓v1_iconst_0, ↓v1_iconst_m, ↓v1_bipush, ↓v1_sipush, ↓v1_ldc, ↓v1_ldc_w, ↓v1_lconst, ↓v1_ldc2_w, ↓v1_aconst_null, ↓v1_iload, ↓v1_iload_n, ↓v1_lload, ↓v1_lload_n, ↓v1_aload, ↓v1_aload_n, ↓v1_istore, ↓v1_istore_n, ↓v1_lstore, ↓v1_lstore_n, ↓v1_astore, ↓v1_astore_n, ↓v1_iinc, ↓v1_dup, ↓v1_dup2, ↓v1_ifCond_eq, ↓v1_ifCond_ne, ↓v1_ifCond_lt, ↓v1_ifCond_ge, ↓v1_ifCond_gt, ↓v1_ifCond_le, ↓v1_if_icmp_eq, ↓v1_if_icmp_ne, ↓v1_if_icmp_lt, ↓v1_if_icmp_ge, ↓v1_if_icmp_gt, ↓v1_if_icmp_le, ↓v1_if_acmp_ne, ↓v1_ifnull, ↓v1_ifnonnull, ↓v1_goto, ↓v1_tableswitch_0, ↓v1_return_, ↓v1_ireturn, ↓v1_lreturn, ↓v1_areturn, ↓v1_getfield_0, ↓v1_putfield_0, ↓v1_getstatic, ↓v1_iaload, ↓v1_laload, ↓v1_baload, ↓v1_aaload, ↓v1_iastore, ↓v1_lastore, ↓v1_bastore, ↓v1_aastore_0, ↓v1_arraylength, ↓v1_new_0, ↓v1_newarray, ↓v1_anewarray, ↓v1_invokestatic_0, ↓v1_invokestatic_1, ↓v1_invokestatic_2a, ↓v1_invokevirtual_0, ↓v1_invokespecial_0, ↓v1_invokespecial_1a, ↓v1_invokespecial_1b, ↓vi_ii_e, ↓vi_i_e, ↓vi_jj_e, ↓vi_j_e, ↓vi_ij_e, ↓vi_r_e, ↓vi_rr_e, ↓vi_o_e, ↓vi_ir_e, ↓vi_iir_e, ↓vi_jir_e, ↓vi_rir_e, ↓vi_pop_z, ↓vi_pop_s, ↓vi_sw_n, ↓vi_sw_c, ↓vi_li_z, ↓vi_li_s, ↓vi_ll_z, ↓vi_ll_s, ↓vi_lr_z, ↓vi_lr_s, ↓vi_ret_l, ↓vi_ret_r, vi_sv, vg_set1, vg_set2, vg_lo, List.headD, List.contains_nil, List.contains_cons, Bool.or_false, Bool.false_eq_true, if_false, if_true, Nat.reduceAdd, Nat.reduceBEq, List.nil_append, List.cons_append, List.append_nil, Option.toList, Int32.reduceOfNat, Int64.reduceOfNat, reduceCtorEq, Nat.reduceLeDiff, Nat.le_refl, Nat.zero_le, true_and, and_true, false_or, or_false, or_true, true_or, and_self, not_true_eq_false, not_false_eq_true, forall_const, false_implies, true_implies, Sum.inl.injEq, Sum.inr.injEq, Option.some.injEq, eq_self, oI_1, oI_m, oI_5, oI_L, vi_ws_nil, vi_ws_I, vi_ws_J, vi_ws_R, wi_k, wi_n, wi_r, wi_l, wr_k, wr_n, wr_i, wr_l, wl_k, wl_n, wl_i, wl_r, Nat.reduceSub, Nat.reduceMul, cd_0_0, cd_0_5, cd_0_20, at_0_5, at_0_20, mc_0, ms_0, mr_0, mh_0, ml_0, hk, hl]
  exact l_0 hn n9 0 h (by omega) hk hl hQ
theorem CX.m45 {h : vg_H} (p : CX G b A S h) {q : Nat} (hq : q < 3) (v w : Int32) : CX G b A (up (up S 33 q v) 34 q w) (vg_wi (vg_wi h (b + 25 + 4 * q) 4 v) (b + 25 + 4 * q) 5 w) := by
  have old := p.2.2.2.2.2.2.2.1
  have hk1 := old q hq
  refine p.atM rfl rfl rfl p.1.wi.wi (fun a e1 e2 => ⟨?_, rfl⟩) rfl (fun f hf => by rw [upf (by omega), upf (by omega)]) ?_
  · have n1 : ¬ a = b + 25 + 4 * q := fun z => e1 (by rw [z]; exact hk1.2.1)
    rw [wi_row n1, wi_row n1]
  clear p
  intro m hm
  have := old m hm
  have f : ∀ g, ¬ 33 = g → ¬ 34 = g → up (up S 33 q v) 34 q w g = S g := fun g h1 h2 => by rw [upf h2, upf h1]
  unfold coinsS sumS at *
  rw [f 32 (by decide) (by decide), f 35 (by decide) (by decide), f 36 (by decide) (by decide), f 37 (by decide) (by decide)]
  have f33 : up (up S 33 q v) 34 q w 33 m = if m = q then v else S 33 m := by rw [upf (by decide), up_e]; simp
  have f34 : up (up S 33 q v) 34 q w 34 m = if m = q then w else S 34 m := by rw [up_e, upf (by decide)]; simp
  rw [f33, f34]
  rw [wi_k, wi_n, wi_r, wi_k, wi_n, wi_r]
  have e1 : ¬ b + 26 + 4 * m = b + 25 + 4 * q := by omega
  have e2 : ¬ b + 27 + 4 * m = b + 25 + 4 * q := by omega
  have e3 : ¬ b + 28 + 4 * m = b + 25 + 4 * q := by omega
  rw [wi_row e1, wi_row e1, wi_row e2, wi_row e2, wi_row e3, wi_row e3]
  refine ⟨this.1, this.2.1, this.2.2.1, this.2.2.2.1, this.2.2.2.2.1, this.2.2.2.2.2.1, this.2.2.2.2.2.2.1, this.2.2.2.2.2.2.2.1, this.2.2.2.2.2.2.2.2.1, this.2.2.2.2.2.2.2.2.2.1, this.2.2.2.2.2.2.2.2.2.2.1, this.2.2.2.2.2.2.2.2.2.2.2.1, ?_, ?_, ?_, ?_, this.2.2.2.2.2.2.2.2.2.2.2.2.2.2.2.2⟩
  · by_cases e : m = q
    · subst e; rw [if_pos rfl, wi_i, if_neg (fun z => by omega), wi_i, if_pos ⟨rfl, rfl⟩]
    · rw [if_neg e, wi_row (by omega), wi_row (by omega)]; exact this.2.2.2.2.2.2.2.2.2.2.2.2.1
  · by_cases e : m = q
    · subst e; rw [if_pos rfl, wi_i, if_pos ⟨rfl, rfl⟩]
    · rw [if_neg e, wi_row (by omega), wi_row (by omega)]; exact this.2.2.2.2.2.2.2.2.2.2.2.2.2.1
  · rw [wi_i, if_neg (fun z => by omega), wi_i, if_neg (fun z => by omega)]; exact this.2.2.2.2.2.2.2.2.2.2.2.2.2.2.1
  · rw [wi_i, if_neg (fun z => by omega), wi_i, if_neg (fun z => by omega)]; exact this.2.2.2.2.2.2.2.2.2.2.2.2.2.2.2.1
theorem CX.zero {h : vg_H} (p : CX G b A S h) {q : Nat} (hq : q < 3) : CX G b A (zP S q 0 6) (flH (b + 27 + 4 * q) 0 (vg_wi (vg_wi h (b + 25 + 4 * q) 6 0) (b + 25 + 4 * q) 7 0) 0 6) := by
  have old := p.2.2.2.2.2.2.2.1
  have hk1 := old q hq
  obtain ⟨o1, o2, o3⟩ := flH_o (a := b + 27 + 4 * q) (v := 0) 6 0 (vg_wi (vg_wi h (b + 25 + 4 * q) 6 0) (b + 25 + 4 * q) 7 0)
  have oi := flH_i (a := b + 27 + 4 * q) (v := 0) 6 0 (vg_wi (vg_wi h (b + 25 + 4 * q) 6 0) (b + 25 + 4 * q) 7 0)
  generalize flH (b + 27 + 4 * q) 0 (vg_wi (vg_wi h (b + 25 + 4 * q) 6 0) (b + 25 + 4 * q) 7 0) 0 6 = h1 at *
  have k1 : h1.1 = h.1 := o1
  have n1 : h1.2.1 = h.2.1 := o2
  have r1 : h1.2.2.2.2.1 = h.2.2.2.2.1 := congrArg (fun x => x.2.1) o3
  have z1 : vg_z h1 = vg_z h := congrArg (fun x => x.2.2) o3
  have row : ∀ a, ¬ a = b + 25 + 4 * q → ¬ a = b + 27 + 4 * q → h1.2.2.1 a = h.2.2.1 a := fun a e1 e2 => by
    funext j; rw [oi, if_neg (fun z => e2 z.1), wi_row e1, wi_row e1]
  have K1 : cxK b h1 := by
    have := p.1
    unfold cxK at *
    rw [k1, n1, r1, z1]
    exact this
  refine p.atM k1 n1 z1 K1 (fun a e1 e2 => ⟨row a (fun z => e1 (by rw [z]; exact hk1.2.1)) (fun z => e2 (by rw [z]; exact ⟨hk1.2.2.2.2.2.2.1, by omega, by omega⟩)), by rw [r1]⟩) rfl (fun f hf => zP_f (by omega) 6 0 S) ?_
  clear p
  intro m hm
  have := old m hm
  have f : ∀ g, ¬ 36 = g → zP S q 0 6 g = S g := fun g hg => zP_f hg 6 0 S
  have z36 := zP_e (q := q) 6 0 S
  rw [f 32 (by decide), f 33 (by decide), f 34 (by decide), f 35 (by decide), f 37 (by decide), k1, n1, r1]
  have e1 : ¬ b + 26 + 4 * m = b + 25 + 4 * q ∧ ¬ b + 26 + 4 * m = b + 27 + 4 * q := by omega
  have e3 : ¬ b + 28 + 4 * m = b + 25 + 4 * q ∧ ¬ b + 28 + 4 * m = b + 27 + 4 * q := by omega
  rw [row _ e1.1 e1.2, row _ e3.1 e3.2]
  have c25 : ∀ k, h1.2.2.1 (b + 25 + 4 * m) k = if m = q ∧ (k = 6 ∨ k = 7) then 0 else h.2.2.1 (b + 25 + 4 * m) k := fun k => by
    rw [oi, if_neg (fun z => by omega), wi_i, wi_i]
    by_cases e : m = q
    · subst e
      by_cases k7 : k = 7
      · rw [if_pos ⟨rfl, k7⟩, if_pos ⟨rfl, Or.inr k7⟩]
      · rw [if_neg (fun z => k7 z.2)]
        by_cases k6 : k = 6
        · rw [if_pos ⟨rfl, k6⟩, if_pos ⟨rfl, Or.inl k6⟩]
        · rw [if_neg (fun z => k6 z.2), if_neg (fun z => z.2.elim k6 k7)]
    · rw [if_neg (fun z => by omega), if_neg (fun z => by omega), if_neg (fun z => e z.1)]
  rw [c25, c25, c25, c25]
  refine ⟨this.1, this.2.1, this.2.2.1, this.2.2.2.1, this.2.2.2.2.1, this.2.2.2.2.2.1, this.2.2.2.2.2.2.1, this.2.2.2.2.2.2.2.1, this.2.2.2.2.2.2.2.2.1, this.2.2.2.2.2.2.2.2.2.1, this.2.2.2.2.2.2.2.2.2.2.1, this.2.2.2.2.2.2.2.2.2.2.2.1, ?_, ?_, ?_, ?_, fun j hj => ⟨(this.2.2.2.2.2.2.2.2.2.2.2.2.2.2.2.2 j hj).1, ?_, (this.2.2.2.2.2.2.2.2.2.2.2.2.2.2.2.2 j hj).2.2⟩⟩
  · rw [if_neg (fun z => by omega)]; exact this.2.2.2.2.2.2.2.2.2.2.2.2.1
  · rw [if_neg (fun z => by omega)]; exact this.2.2.2.2.2.2.2.2.2.2.2.2.2.1
  · by_cases e : m = q
    · subst e
      rw [if_pos ⟨rfl, Or.inl rfl⟩]
      unfold coinsS
      exact (sumI_z 6 0 (fun j h3 h4 => by rw [z36, if_pos ⟨by omega, by omega⟩])).symm
    · rw [if_neg (fun z => e z.1), this.2.2.2.2.2.2.2.2.2.2.2.2.2.2.1]
      unfold coinsS
      exact sumI_congr 6 0 (fun j h3 h4 => by rw [z36, if_neg (fun z => by omega)])
  · by_cases e : m = q
    · subst e
      rw [if_pos ⟨rfl, Or.inr rfl⟩]
      unfold sumS
      exact (sumI_z 6 0 (fun j h3 h4 => by rw [z36, if_pos ⟨by omega, by omega⟩, Int32.mul_zero])).symm
    · rw [if_neg (fun z => e z.1), this.2.2.2.2.2.2.2.2.2.2.2.2.2.2.2.1]
      unfold sumS
      exact sumI_congr 6 0 (fun j h3 h4 => by rw [z36, if_neg (fun z => by omega)])
  · rw [oi, z36]
    by_cases e : m = q
    · subst e
      rw [if_pos ⟨rfl, by omega, by omega⟩, if_pos ⟨by omega, by omega⟩]
    · rw [if_neg (fun z => by omega), if_neg (fun z => by omega), wi_row (by omega), wi_row (by omega)]
      exact (this.2.2.2.2.2.2.2.2.2.2.2.2.2.2.2.2 j hj).2.1
end CBG
