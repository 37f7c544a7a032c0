/-! ===== the model: covers ===== -/
theorem nI_subN {a b : Nat} (h : b ≤ a) : nI a - nI b = nI (a - b) := by
  have e : nI a = nI (a - b) + nI b := by rw [nI_add, Nat.sub_add_cancel h]
  rw [e, Int32.add_sub_cancel]
theorem nI_divN {a b : Nat} (ha : a < 2 ^ 31) (hb : b < 2 ^ 31) : nI a / nI b = nI (a / b) := by
  have h1 : a / b ≤ a := Nat.div_le_self a b
  refine Int32.toInt_inj.mp ?_
  rw [Int32.toInt_div, nI_toInt ha, nI_toInt hb, nI_toInt (by omega), ← Int.ofNat_tdiv]
  generalize a / b = q at *
  exact Int.bmod_eq_of_le (by omega) (by omega)
theorem nI_rem {a b : Nat} (ha : a < 2 ^ 31) (hb : b < 2 ^ 31) : nI a - nI a / nI b * nI b = nI (a % b) := by
  have h1 : a / b * b ≤ a := Nat.div_mul_le_self a b
  rw [nI_divN ha hb, nI_m, nI_subN h1]
  congr 1
  have := Nat.div_add_mod a b
  rw [Nat.mul_comm] at this
  omega
theorem nI_neg {a b : Nat} (h : a < b) (hb : b < 2 ^ 31) : nI a - nI b < 0 := by
  rw [Int32.lt_iff_toInt_lt, Int32.toInt_sub, nI_toInt (by omega), nI_toInt hb, Int.bmod_eq_of_le (by omega) (by omega)]
  show (a : Int) - b < 0
  omega
/-- the best row so far, in the model's fields -/
def BF (b : Nat) (h : vg_H) : Option (Nat × Nat × Nat × Nat) → Prop
  | none => h.2.2.1 (b + 37) 46 = -1
  | some v => h.2.2.1 (b + 37) 46 = nI v.1 ∧ h.2.2.1 (b + 37) 47 = nI v.2.1 ∧ h.2.2.1 (b + 37) 48 = nI v.2.2.1 ∧ h.2.2.1 (b + 37) 49 = nI v.2.2.2
/-- the model's table from minute lo on -/
def CT (b : Nat) (h : vg_H) (W : WT) (lo m : Nat) : Prop := ∀ e, lo ≤ e → e < m → h.2.2.1 (ar b 42) e = nI (W e).1 ∧ h.2.2.1 (ar b 43) e = nI (W e).2.1 ∧ h.2.2.1 (ar b 44) e = nI (W e).2.2.1 ∧ h.2.2.1 (ar b 45) e = nI (W e).2.2.2
def smW (W : WT) : Prop := ∀ e, (W e).1 ≤ 5780000 ∧ (W e).2.1 ≤ 4320
def smO (o : Option (Nat × Nat × Nat × Nat)) : Prop := ∀ v, o = some v → v.1 < 2 ^ 31 ∧ v.2.1 < 2 ^ 31 ∧ v.2.2.1 < 2 ^ 31
theorem CT.fld {b : Nat} {h : vg_H} {W : WT} {lo m : Nat} (p : CT b h W lo m) (f : Nat) (v : Int32) : CT b (vg_wi h (b + 37) f v) W lo m := by
  intro e h1 h2
  have q := p e h1 h2
  have n : ∀ g, 0 < lnf g → ¬ ar b g = b + 37 := fun g hg => by have := ar_rng (b := b) hg; omega
  rw [wi_i, wi_i, wi_i, wi_i, if_neg (fun z => n 42 (by decide) z.1), if_neg (fun z => n 43 (by decide) z.1), if_neg (fun z => n 44 (by decide) z.1), if_neg (fun z => n 45 (by decide) z.1)]
  exact q
theorem BF.arr {b : Nat} {h : vg_H} {o : Option (Nat × Nat × Nat × Nat)} (p : BF b h o) (f : Nat) (hf : 0 < lnf f) (i : Nat) (v : Int32) : BF b (vg_wi h (ar b f) i v) o := by
  have n : ∀ k, (vg_wi h (ar b f) i v).2.2.1 (b + 37) k = h.2.2.1 (b + 37) k := fun k => by
    have := ar_rng (b := b) hf
    rw [wi_i, if_neg (fun z => by omega)]
  cases o with
  | none => show (vg_wi h (ar b f) i v).2.2.1 (b + 37) 46 = -1; rw [n]; exact p
  | some v' => obtain ⟨p1, p2, p3, p4⟩ := p; exact ⟨by rw [n]; exact p1, by rw [n]; exact p2, by rw [n]; exact p3, by rw [n]; exact p4⟩
theorem BF4 {b : Nat} {h : vg_H} (x y z w : Nat) : BF b (vg_wi (vg_wi (vg_wi (vg_wi h (b + 37) 46 (nI x)) (b + 37) 47 (nI y)) (b + 37) 48 (nI z)) (b + 37) 49 (nI w)) (some (x, y, z, w)) := by
  refine ⟨?_, ?_, ?_, ?_⟩ <;> simp [wi_i]
theorem i_m0 : ((-1 : Int32) < 0) = True := eq_true (by decide)
section MC
variable {G : vg_G} {b : Nat} {S : SS} {h h0 : vg_H} {w : Int32} {Q : vg_O → vg_H → Prop}
set_option maxRecDepth 100000 in
theorem c_96 {W : WT} {lo m : Nat} (hP : MP b S w h0 h) (hT : CT b h W lo m) (hQ : ∀ h', MP b S w h0 h' → CT b h' W lo m → BF b h' none → h'.2.2.1 (b + 37) 47 = 0 → Q (.inl none) h') : vg_C G (MT 96) [.inr (.inr (some (b + 37)))] h Q := by
  have hM := hP.mx
  have k0 := hM.1
  refine vg_C_of rfl (by decide +kernel) (Nat.le_of_ble_eq_true rfl) ?_
  refine vi_run ok_96 [] 40 ?_
  rw [at_96_0]
  simp only [vg_ent, vg_en, List.length_cons, List.length_nil, Nat.reduceAdd, Nat.reduceSub, List.replicate, List.append_nil, List.nil_append, List.cons_append, mn_96]
  simp only [↓reduceIte, vi_go_c, ↓v1_iadd, ↓v1_isub, ↓v1_imul, ↓v1_iand, ↓v1_idiv, ↓v1_irem, ↓v1_ineg, ↓v1_ladd, ↓v1_lsub, ↓v1_land, ↓v1_lcmp, ↓v1_lshl, ↓v1_lshr, ↓v1_i2l, ↓v1_l2i, ↓v1_iconst_0, ↓v1_iconst_m, ↓v1_bipush, ↓v1_sipush, ↓v1_ldc, ↓v1_ldc_w, ↓v1_lconst, ↓v1_ldc2_w, ↓v1_aconst_null, ↓v1_iload, ↓v1_iload_n, ↓v1_lload, ↓v1_lload_n, ↓v1_aload, ↓v1_aload_n, ↓v1_istore, ↓v1_istore_n, ↓v1_lstore, ↓v1_lstore_n, ↓v1_astore, ↓v1_astore_n, ↓v1_iinc, ↓v1_dup, ↓v1_dup2, ↓v1_ifCond_eq, ↓v1_ifCond_ne, ↓v1_ifCond_lt, ↓v1_ifCond_ge, ↓v1_ifCond_gt, ↓v1_ifCond_le, ↓v1_if_icmp_eq, ↓v1_if_icmp_ne, ↓v1_if_icmp_lt, ↓v1_if_icmp_ge, ↓v1_if_icmp_gt, ↓v1_if_icmp_le, ↓v1_if_acmp_ne, ↓v1_ifnull, ↓v1_ifnonnull, ↓v1_goto, ↓v1_tableswitch_0, ↓v1_return_, ↓v1_ireturn, ↓v1_lreturn, ↓v1_areturn, ↓v1_getfield_0, ↓v1_putfield_0, ↓v1_getstatic, ↓v1_iaload, ↓v1_laload, ↓v1_baload, ↓v1_aaload, ↓v1_iastore, ↓v1_lastore, ↓v1_bastore, ↓v1_aastore_0, ↓v1_arraylength, ↓v1_new_0, ↓v1_newarray, ↓v1_anewarray, ↓v1_invokestatic_0, ↓v1_invokestatic_1, ↓v1_invokestatic_2a, ↓v1_invokevirtual_0, ↓v1_invokespecial_0, ↓v1_invokespecial_1a, ↓v1_invokespecial_1b, ↓vi_ii_e, ↓vi_i_e, ↓vi_jj_e, ↓vi_j_e, ↓vi_ij_e, ↓vi_r_e, ↓vi_rr_e, ↓vi_o_e, ↓vi_ir_e, ↓vi_iir_e, ↓vi_jir_e, ↓vi_rir_e, ↓vi_pop_z, ↓vi_pop_s, ↓vi_sw_n, ↓vi_sw_c, ↓vi_li_z, ↓vi_li_s, ↓vi_ll_z, ↓vi_ll_s, ↓vi_lr_z, ↓vi_lr_s, ↓vi_ret_l, ↓vi_ret_r, vi_sv, vg_set1, vg_set2, vg_lo, List.headD, List.contains_nil, List.contains_cons, Bool.or_false, Bool.false_eq_true, if_false, if_true, Nat.reduceAdd, Nat.reduceBEq, List.nil_append, List.cons_append, List.append_nil, Option.toList, Int32.reduceOfNat, Int64.reduceOfNat, reduceCtorEq, Nat.reduceLeDiff, Nat.le_refl, Nat.zero_le, true_and, and_true, false_or, or_false, or_true, true_or, and_self, not_true_eq_false, not_false_eq_true, forall_const, false_implies, true_implies, Sum.inl.injEq, Sum.inr.injEq, Option.some.injEq, eq_self, oI_1, oI_m, oI_5, oI_L, vi_ws_nil, vi_ws_I, vi_ws_J, vi_ws_R, wi_k, wi_n, wi_r, wi_l, wr_k, wr_n, wr_i, wr_l, wl_k, wl_n, wl_i, wl_r, Nat.reduceSub, Nat.reduceMul, cd_96_0, mc_96, ms_96, mr_96, mh_96, ml_96, k0]
  refine hQ _ ((((hP.fld 46 (by decide) rfl _).fld 47 (by decide) rfl _).fld 48 (by decide) rfl _).fld 49 (by decide) rfl _) ((((hT.fld _ _).fld _ _).fld _ _).fld _ _) ?_ ?_
  · show (vg_wi _ _ _ _).2.2.1 (b + 37) 46 = -1
    simp [wi_i]
  · simp [wi_i]
set_option maxRecDepth 100000 in
theorem c_141 {W : WT} {lo m p c d : Nat} {o : Option (Nat × Nat × Nat × Nat)} (hP : MP b S w h0 h) (hT : CT b h W lo m) (hO : BF b h o) (sW : smW W) (sO : smO o) (hW : ∀ e, m ≤ e → W e = (0, 0, 0, 0)) (hm : m ≤ 4320) (hd : lo ≤ d) (hd2 : d < 2 ^ 31) (hp : p ≤ 24) (hc : c ≤ 20000)
    (hQ : ∀ h', MP b S w h0 h' → CT b h' W lo m → BF b h' (bestO o (c + (W d).1, 1 + (W d).2.1, p, d)) → Q (.inl none) h') : vg_C G (MT 141) [.inr (.inr (some (b + 37))), .inl (nI p), .inl (nI c), .inl (nI d), .inl (nI m)] h Q := by
  have hM := hP.mx
  have k0 : (h).1 (b + 37) = 11 := hM.1
  have r42 : (h).2.2.2.2.1 (b + 37) 42 = some (ar b 42) := (hM.2.1 42 (by decide)).1
  have k42 : (h).1 (ar b 42) = 100 := (hM.2.1 42 (by decide)).2.1
  have n42 : (h).2.1 (ar b 42) = 4321 := (hM.2.1 42 (by decide)).2.2
  have r43 : (h).2.2.2.2.1 (b + 37) 43 = some (ar b 43) := (hM.2.1 43 (by decide)).1
  have k43 : (h).1 (ar b 43) = 100 := (hM.2.1 43 (by decide)).2.1
  have n43 : (h).2.1 (ar b 43) = 4321 := (hM.2.1 43 (by decide)).2.2
  obtain ⟨s1, s2⟩ := sW d
  have fin1 : bestO o (c + (W d).1, 1 + (W d).2.1, p, d) = some (c + (W d).1, 1 + (W d).2.1, p, d) → ∀ u, vg_A G (MT 141) 0 0 122 [some (.inr (.inr (some (b + 37)))), some (.inl (nI p)), some (.inl (nI c)), some (.inl (nI d)), some (.inl (nI m)), some (.inl u), some (.inl (nI (c + (W d).1))), some (.inl (nI (1 + (W d).2.1))), none] [.inl 1] h Q := by
    intro e u
    refine vi_run ok_141 [] 60 ?_
    rw [at_141_122]
    simp only [↓reduceIte, vi_go_c, ↓v1_iadd, ↓v1_isub, ↓v1_imul, ↓v1_iand, ↓v1_idiv, ↓v1_irem, ↓v1_ineg, ↓v1_ladd, ↓v1_lsub, ↓v1_land, ↓v1_lcmp, ↓v1_lshl, ↓v1_lshr, ↓v1_i2l, ↓v1_l2i, ↓v1_iconst_0, ↓v1_iconst_m, ↓v1_bipush, ↓v1_sipush, ↓v1_ldc, ↓v1_ldc_w, ↓v1_lconst, ↓v1_ldc2_w, ↓v1_aconst_null, ↓v1_iload, ↓v1_iload_n, ↓v1_lload, ↓v1_lload_n, ↓v1_aload, ↓v1_aload_n, ↓v1_istore, ↓v1_istore_n, ↓v1_lstore, ↓v1_lstore_n, ↓v1_astore, ↓v1_astore_n, ↓v1_iinc, ↓v1_dup, ↓v1_dup2, ↓v1_ifCond_eq, ↓v1_ifCond_ne, ↓v1_ifCond_lt, ↓v1_ifCond_ge, ↓v1_ifCond_gt, ↓v1_ifCond_le, ↓v1_if_icmp_eq, ↓v1_if_icmp_ne, ↓v1_if_icmp_lt, ↓v1_if_icmp_ge, ↓v1_if_icmp_gt, ↓v1_if_icmp_le, ↓v1_if_acmp_ne, ↓v1_ifnull, ↓v1_ifnonnull, ↓v1_goto, ↓v1_tableswitch_0, ↓v1_return_, ↓v1_ireturn, ↓v1_lreturn, ↓v1_areturn, ↓v1_getfield_0, ↓v1_putfield_0, ↓v1_getstatic, ↓v1_iaload, ↓v1_laload, ↓v1_baload, ↓v1_aaload, ↓v1_iastore, ↓v1_lastore, ↓v1_bastore, ↓v1_aastore_0, ↓v1_arraylength, ↓v1_new_0, ↓v1_newarray, ↓v1_anewarray, ↓v1_invokestatic_0, ↓v1_invokestatic_1, ↓v1_invokestatic_2a, ↓v1_invokevirtual_0, ↓v1_invokespecial_0, ↓v1_invokespecial_1a, ↓v1_invokespecial_1b, ↓vi_ii_e, ↓vi_i_e, ↓vi_jj_e, ↓vi_j_e, ↓vi_ij_e, ↓vi_r_e, ↓vi_rr_e, ↓vi_o_e, ↓vi_ir_e, ↓vi_iir_e, ↓vi_jir_e, ↓vi_rir_e, ↓vi_pop_z, ↓vi_pop_s, ↓vi_sw_n, ↓vi_sw_c, ↓vi_li_z, ↓vi_li_s, ↓vi_ll_z, ↓vi_ll_s, ↓vi_lr_z, ↓vi_lr_s, ↓vi_ret_l, ↓vi_ret_r, vi_sv, vg_set1, vg_set2, vg_lo, List.headD, List.contains_nil, List.contains_cons, Bool.or_false, Bool.false_eq_true, if_false, if_true, Nat.reduceAdd, Nat.reduceBEq, List.nil_append, List.cons_append, List.append_nil, Option.toList, Int32.reduceOfNat, Int64.reduceOfNat, reduceCtorEq, Nat.reduceLeDiff, Nat.le_refl, Nat.zero_le, true_and, and_true, false_or, or_false, or_true, true_or, and_self, not_true_eq_false, not_false_eq_true, forall_const, false_implies, true_implies, Sum.inl.injEq, Sum.inr.injEq, Option.some.injEq, eq_self, oI_1, oI_m, oI_5, oI_L, vi_ws_nil, vi_ws_I, vi_ws_J, vi_ws_R, wi_k, wi_n, wi_r, wi_l, wr_k, wr_n, wr_i, wr_l, wl_k, wl_n, wl_i, wl_r, Nat.reduceSub, Nat.reduceMul, cd_141_0, cd_141_10, cd_141_11, cd_141_28, cd_141_38, cd_141_44, cd_141_57, cd_141_63, cd_141_117, cd_141_121, cd_141_122, cd_141_151, at_141_10, at_141_11, at_141_28, at_141_38, at_141_44, at_141_57, at_141_63, at_141_117, at_141_121, at_141_122, at_141_151, mc_141, ms_141, mr_141, mh_141, ml_141, k0, r42, k42, n42, i10]
    rw [e] at hQ
    exact hQ _ ((((hP.fld 46 (by decide) rfl _).fld 47 (by decide) rfl _).fld 48 (by decide) rfl _).fld 49 (by decide) rfl _) ((((hT.fld _ _).fld _ _).fld _ _).fld _ _) (BF4 _ _ _ _)
  have fin0 : bestO o (c + (W d).1, 1 + (W d).2.1, p, d) = o → ∀ u, vg_A G (MT 141) 0 0 122 [some (.inr (.inr (some (b + 37)))), some (.inl (nI p)), some (.inl (nI c)), some (.inl (nI d)), some (.inl (nI m)), some (.inl u), some (.inl (nI (c + (W d).1))), some (.inl (nI (1 + (W d).2.1))), none] [.inl 0] h Q := by
    intro e u
    refine vi_run ok_141 [] 60 ?_
    rw [at_141_122]
    simp only [↓reduceIte, vi_go_c, ↓v1_iadd, ↓v1_isub, ↓v1_imul, ↓v1_iand, ↓v1_idiv, ↓v1_irem, ↓v1_ineg, ↓v1_ladd, ↓v1_lsub, ↓v1_land, ↓v1_lcmp, ↓v1_lshl, ↓v1_lshr, ↓v1_i2l, ↓v1_l2i, ↓v1_iconst_0, ↓v1_iconst_m, ↓v1_bipush, ↓v1_sipush, ↓v1_ldc, ↓v1_ldc_w, ↓v1_lconst, ↓v1_ldc2_w, ↓v1_aconst_null, ↓v1_iload, ↓v1_iload_n, ↓v1_lload, ↓v1_lload_n, ↓v1_aload, ↓v1_aload_n, ↓v1_istore, ↓v1_istore_n, ↓v1_lstore, ↓v1_lstore_n, ↓v1_astore, ↓v1_astore_n, ↓v1_iinc, ↓v1_dup, ↓v1_dup2, ↓v1_ifCond_eq, ↓v1_ifCond_ne, ↓v1_ifCond_lt, ↓v1_ifCond_ge, ↓v1_ifCond_gt, ↓v1_ifCond_le, ↓v1_if_icmp_eq, ↓v1_if_icmp_ne, ↓v1_if_icmp_lt, ↓v1_if_icmp_ge, ↓v1_if_icmp_gt, ↓v1_if_icmp_le, ↓v1_if_acmp_ne, ↓v1_ifnull, ↓v1_ifnonnull, ↓v1_goto, ↓v1_tableswitch_0, ↓v1_return_, ↓v1_ireturn, ↓v1_lreturn, ↓v1_areturn, ↓v1_getfield_0, ↓v1_putfield_0, ↓v1_getstatic, ↓v1_iaload, ↓v1_laload, ↓v1_baload, ↓v1_aaload, ↓v1_iastore, ↓v1_lastore, ↓v1_bastore, ↓v1_aastore_0, ↓v1_arraylength, ↓v1_new_0, ↓v1_newarray, ↓v1_anewarray, ↓v1_invokestatic_0, ↓v1_invokestatic_1, ↓v1_invokestatic_2a, ↓v1_invokevirtual_0, ↓v1_invokespecial_0, ↓v1_invokespecial_1a, ↓v1_invokespecial_1b, ↓vi_ii_e, ↓vi_i_e, ↓vi_jj_e, ↓vi_j_e, ↓vi_ij_e, ↓vi_r_e, ↓vi_rr_e, ↓vi_o_e, ↓vi_ir_e, ↓vi_iir_e, ↓vi_jir_e, ↓vi_rir_e, ↓vi_pop_z, ↓vi_pop_s, ↓vi_sw_n, ↓vi_sw_c, ↓vi_li_z, ↓vi_li_s, ↓vi_ll_z, ↓vi_ll_s, ↓vi_lr_z, ↓vi_lr_s, ↓vi_ret_l, ↓vi_ret_r, vi_sv, vg_set1, vg_set2, vg_lo, List.headD, List.contains_nil, List.contains_cons, Bool.or_false, Bool.false_eq_true, if_false, if_true, Nat.reduceAdd, Nat.reduceBEq, List.nil_append, List.cons_append, List.append_nil, Option.toList, Int32.reduceOfNat, Int64.reduceOfNat, reduceCtorEq, Nat.reduceLeDiff, Nat.le_refl, Nat.zero_le, true_and, and_true, false_or, or_false, or_true, true_or, and_self, not_true_eq_false, not_false_eq_true, forall_const, false_implies, true_implies, Sum.inl.injEq, Sum.inr.injEq, Option.some.injEq, eq_self, oI_1, oI_m, oI_5, oI_L, vi_ws_nil, vi_ws_I, vi_ws_J, vi_ws_R, wi_k, wi_n, wi_r, wi_l, wr_k, wr_n, wr_i, wr_l, wl_k, wl_n, wl_i, wl_r, Nat.reduceSub, Nat.reduceMul, cd_141_0, cd_141_10, cd_141_11, cd_141_28, cd_141_38, cd_141_44, cd_141_57, cd_141_63, cd_141_117, cd_141_121, cd_141_122, cd_141_151, at_141_10, at_141_11, at_141_28, at_141_38, at_141_44, at_141_57, at_141_63, at_141_117, at_141_121, at_141_122, at_141_151, mc_141, ms_141, mr_141, mh_141, ml_141, k0, r42, k42, n42]
    rw [e] at hQ
    exact hQ _ hP hT hO
  have mid : ∀ u y, y = nI (W d).2.1 → vg_A G (MT 141) 0 0 63 [some (.inr (.inr (some (b + 37)))), some (.inl (nI p)), some (.inl (nI c)), some (.inl (nI d)), some (.inl (nI m)), some (.inl u), some (.inl (nI (c + (W d).1))), none, none] [.inl y, .inl 1] h Q := by
    intro u y hy
    cases o with
    | none =>
      have f46 : h.2.2.1 (b + 37) 46 = -1 := hO
      refine vi_run ok_141 [122] 60 ?_
      rw [at_141_63]
      simp only [↓reduceIte, vi_go_c, ↓v1_iadd, ↓v1_isub, ↓v1_imul, ↓v1_iand, ↓v1_idiv, ↓v1_irem, ↓v1_ineg, ↓v1_ladd, ↓v1_lsub, ↓v1_land, ↓v1_lcmp, ↓v1_lshl, ↓v1_lshr, ↓v1_i2l, ↓v1_l2i, ↓v1_iconst_0, ↓v1_iconst_m, ↓v1_bipush, ↓v1_sipush, ↓v1_ldc, ↓v1_ldc_w, ↓v1_lconst, ↓v1_ldc2_w, ↓v1_aconst_null, ↓v1_iload, ↓v1_iload_n, ↓v1_lload, ↓v1_lload_n, ↓v1_aload, ↓v1_aload_n, ↓v1_istore, ↓v1_istore_n, ↓v1_lstore, ↓v1_lstore_n, ↓v1_astore, ↓v1_astore_n, ↓v1_iinc, ↓v1_dup, ↓v1_dup2, ↓v1_ifCond_eq, ↓v1_ifCond_ne, ↓v1_ifCond_lt, ↓v1_ifCond_ge, ↓v1_ifCond_gt, ↓v1_ifCond_le, ↓v1_if_icmp_eq, ↓v1_if_icmp_ne, ↓v1_if_icmp_lt, ↓v1_if_icmp_ge, ↓v1_if_icmp_gt, ↓v1_if_icmp_le, ↓v1_if_acmp_ne, ↓v1_ifnull, ↓v1_ifnonnull, ↓v1_goto, ↓v1_tableswitch_0, ↓v1_return_, ↓v1_ireturn, ↓v1_lreturn, ↓v1_areturn, ↓v1_getfield_0, ↓v1_putfield_0, ↓v1_getstatic, ↓v1_iaload, ↓v1_laload, ↓v1_baload, ↓v1_aaload, ↓v1_iastore, ↓v1_lastore, ↓v1_bastore, ↓v1_aastore_0, ↓v1_arraylength, ↓v1_new_0, ↓v1_newarray, ↓v1_anewarray, ↓v1_invokestatic_0, ↓v1_invokestatic_1, ↓v1_invokestatic_2a, ↓v1_invokevirtual_0, ↓v1_invokespecial_0, ↓v1_invokespecial_1a, ↓v1_invokespecial_1b, ↓vi_ii_e, ↓vi_i_e, ↓vi_jj_e, ↓vi_j_e, ↓vi_ij_e, ↓vi_r_e, ↓vi_rr_e, ↓vi_o_e, ↓vi_ir_e, ↓vi_iir_e, ↓vi_jir_e, ↓vi_rir_e, ↓vi_pop_z, ↓vi_pop_s, ↓vi_sw_n, ↓vi_sw_c, ↓vi_li_z, ↓vi_li_s, ↓vi_ll_z, ↓vi_ll_s, ↓vi_lr_z, ↓vi_lr_s, ↓vi_ret_l, ↓vi_ret_r, vi_sv, vg_set1, vg_set2, vg_lo, List.headD, List.contains_nil, List.contains_cons, Bool.or_false, Bool.false_eq_true, if_false, if_true, Nat.reduceAdd, Nat.reduceBEq, List.nil_append, List.cons_append, List.append_nil, Option.toList, Int32.reduceOfNat, Int64.reduceOfNat, reduceCtorEq, Nat.reduceLeDiff, Nat.le_refl, Nat.zero_le, true_and, and_true, false_or, or_false, or_true, true_or, and_self, not_true_eq_false, not_false_eq_true, forall_const, false_implies, true_implies, Sum.inl.injEq, Sum.inr.injEq, Option.some.injEq, eq_self, oI_1, oI_m, oI_5, oI_L, vi_ws_nil, vi_ws_I, vi_ws_J, vi_ws_R, wi_k, wi_n, wi_r, wi_l, wr_k, wr_n, wr_i, wr_l, wl_k, wl_n, wl_i, wl_r, Nat.reduceSub, Nat.reduceMul, cd_141_0, cd_141_10, cd_141_11, cd_141_28, cd_141_38, cd_141_44, cd_141_57, cd_141_63, cd_141_117, cd_141_121, cd_141_122, cd_141_151, at_141_10, at_141_11, at_141_28, at_141_38, at_141_44, at_141_57, at_141_63, at_141_117, at_141_121, at_141_122, at_141_151, mc_141, ms_141, mr_141, mh_141, ml_141, k0, r42, k42, n42, f46, i_m0]
      intro v ev
      rw [hy, show (1 : Int32) = nI 1 from rfl, nI_add] at ev
      subst ev
      exact fin1 rfl u
    | some a =>
      obtain ⟨f46, f47, f48, f49⟩ := hO
      obtain ⟨b1, b2, b3⟩ := sO a rfl
      have pos : (nI a.1 < 0) = False := eq_false (nI_pos b1)
      refine vi_run ok_141 [122] 60 ?_
      rw [at_141_63]
      simp only [↓reduceIte, vi_go_c, ↓v1_iadd, ↓v1_isub, ↓v1_imul, ↓v1_iand, ↓v1_idiv, ↓v1_irem, ↓v1_ineg, ↓v1_ladd, ↓v1_lsub, ↓v1_land, ↓v1_lcmp, ↓v1_lshl, ↓v1_lshr, ↓v1_i2l, ↓v1_l2i, ↓v1_iconst_0, ↓v1_iconst_m, ↓v1_bipush, ↓v1_sipush, ↓v1_ldc, ↓v1_ldc_w, ↓v1_lconst, ↓v1_ldc2_w, ↓v1_aconst_null, ↓v1_iload, ↓v1_iload_n, ↓v1_lload, ↓v1_lload_n, ↓v1_aload, ↓v1_aload_n, ↓v1_istore, ↓v1_istore_n, ↓v1_lstore, ↓v1_lstore_n, ↓v1_astore, ↓v1_astore_n, ↓v1_iinc, ↓v1_dup, ↓v1_dup2, ↓v1_ifCond_eq, ↓v1_ifCond_ne, ↓v1_ifCond_lt, ↓v1_ifCond_ge, ↓v1_ifCond_gt, ↓v1_ifCond_le, ↓v1_if_icmp_eq, ↓v1_if_icmp_ne, ↓v1_if_icmp_lt, ↓v1_if_icmp_ge, ↓v1_if_icmp_gt, ↓v1_if_icmp_le, ↓v1_if_acmp_ne, ↓v1_ifnull, ↓v1_ifnonnull, ↓v1_goto, ↓v1_tableswitch_0, ↓v1_return_, ↓v1_ireturn, ↓v1_lreturn, ↓v1_areturn, ↓v1_getfield_0, ↓v1_putfield_0, ↓v1_getstatic, ↓v1_iaload, ↓v1_laload, ↓v1_baload, ↓v1_aaload, ↓v1_iastore, ↓v1_lastore, ↓v1_bastore, ↓v1_aastore_0, ↓v1_arraylength, ↓v1_new_0, ↓v1_newarray, ↓v1_anewarray, ↓v1_invokestatic_0, ↓v1_invokestatic_1, ↓v1_invokestatic_2a, ↓v1_invokevirtual_0, ↓v1_invokespecial_0, ↓v1_invokespecial_1a, ↓v1_invokespecial_1b, ↓vi_ii_e, ↓vi_i_e, ↓vi_jj_e, ↓vi_j_e, ↓vi_ij_e, ↓vi_r_e, ↓vi_rr_e, ↓vi_o_e, ↓vi_ir_e, ↓vi_iir_e, ↓vi_jir_e, ↓vi_rir_e, ↓vi_pop_z, ↓vi_pop_s, ↓vi_sw_n, ↓vi_sw_c, ↓vi_li_z, ↓vi_li_s, ↓vi_ll_z, ↓vi_ll_s, ↓vi_lr_z, ↓vi_lr_s, ↓vi_ret_l, ↓vi_ret_r, vi_sv, vg_set1, vg_set2, vg_lo, List.headD, List.contains_nil, List.contains_cons, Bool.or_false, Bool.false_eq_true, if_false, if_true, Nat.reduceAdd, Nat.reduceBEq, List.nil_append, List.cons_append, List.append_nil, Option.toList, Int32.reduceOfNat, Int64.reduceOfNat, reduceCtorEq, Nat.reduceLeDiff, Nat.le_refl, Nat.zero_le, true_and, and_true, false_or, or_false, or_true, true_or, and_self, not_true_eq_false, not_false_eq_true, forall_const, false_implies, true_implies, Sum.inl.injEq, Sum.inr.injEq, Option.some.injEq, eq_self, oI_1, oI_m, oI_5, oI_L, vi_ws_nil, vi_ws_I, vi_ws_J, vi_ws_R, wi_k, wi_n, wi_r, wi_l, wr_k, wr_n, wr_i, wr_l, wl_k, wl_n, wl_i, wl_r, Nat.reduceSub, Nat.reduceMul, cd_141_0, cd_141_10, cd_141_11, cd_141_28, cd_141_38, cd_141_44, cd_141_57, cd_141_63, cd_141_117, cd_141_121, cd_141_122, cd_141_151, at_141_10, at_141_11, at_141_28, at_141_38, at_141_44, at_141_57, at_141_63, at_141_117, at_141_121, at_141_122, at_141_151, mc_141, ms_141, mr_141, mh_141, ml_141, k0, r42, k42, n42, f46, f47, f48, pos]
      intro v ev
      rw [hy, show (1 : Int32) = nI 1 from rfl, nI_add] at ev
      subst ev
      have yes : lexL (c + (W d).1, 1 + (W d).2.1, p, d) a → vg_A G (MT 141) 0 0 122 [some (.inr (.inr (some (b + 37)))), some (.inl (nI p)), some (.inl (nI c)), some (.inl (nI d)), some (.inl (nI m)), some (.inl u), some (.inl (nI (c + (W d).1))), some (.inl (nI (1 + (W d).2.1))), none] [.inl 1] h Q := fun l => fin1 (by show @ite _ _ (_) _ _ = _; rw [if_pos l]) u
      have no : ¬ lexL (c + (W d).1, 1 + (W d).2.1, p, d) a → vg_A G (MT 141) 0 0 122 [some (.inr (.inr (some (b + 37)))), some (.inl (nI p)), some (.inl (nI c)), some (.inl (nI d)), some (.inl (nI m)), some (.inl u), some (.inl (nI (c + (W d).1))), some (.inl (nI (1 + (W d).2.1))), none] [.inl 0] h Q := fun l => fin0 (by show @ite _ _ (_) _ _ = _; rw [if_neg l]) u
      unfold lexL at yes no
      simp only at yes no
      rw [nI_ltI (by omega) b1, nI_eq (by omega) b1, nI_ltI (by omega) b2, nI_eq (by omega) b2]
      refine ⟨fun e1 => yes (Or.inl e1), fun e1 => ⟨fun e2 => no (by omega), fun e2 => ⟨fun e3 => yes (by omega), fun e3 => ⟨fun e4 => no (by omega), fun e4 => ⟨fun e5 => no ?_, fun e5 => yes ?_⟩⟩⟩⟩⟩
      · have := (nI_leI b3 (by omega)).mp e5; omega
      · have : ¬ a.2.2.1 ≤ p := fun z => e5 ((nI_leI b3 (by omega)).mpr z)
        omega
  rcases Nat.lt_or_ge d m with q | q
  · have e1 : nI d < nI m := nI_lt q (by omega)
    obtain ⟨t1, t2, t3, t4⟩ := hT d hd q
    have y1 := nI_clamp (show d < 2 ^ 31 by omega)
    have y2 : vp_in (nI d) 4321 := vp_nI (by omega) (by omega)
    have y3 : (0 ≤ nI (W d).1) = True := eq_true (nI_pos' (by omega))
    refine vg_C_of rfl (by decide +kernel) (Nat.le_of_ble_eq_true rfl) ?_
    refine vi_run ok_141 [63] 60 ?_
    rw [at_141_0]
    simp only [vg_ent, vg_en, List.length_cons, List.length_nil, Nat.reduceAdd, Nat.reduceSub, List.replicate, List.append_nil, List.nil_append, List.cons_append, mn_141]
    simp only [↓reduceIte, vi_go_c, ↓v1_iadd, ↓v1_isub, ↓v1_imul, ↓v1_iand, ↓v1_idiv, ↓v1_irem, ↓v1_ineg, ↓v1_ladd, ↓v1_lsub, ↓v1_land, ↓v1_lcmp, ↓v1_lshl, ↓v1_lshr, ↓v1_i2l, ↓v1_l2i, ↓v1_iconst_0, ↓v1_iconst_m, ↓v1_bipush, ↓v1_sipush, ↓v1_ldc, ↓v1_ldc_w, ↓v1_lconst, ↓v1_ldc2_w, ↓v1_aconst_null, ↓v1_iload, ↓v1_iload_n, ↓v1_lload, ↓v1_lload_n, ↓v1_aload, ↓v1_aload_n, ↓v1_istore, ↓v1_istore_n, ↓v1_lstore, ↓v1_lstore_n, ↓v1_astore, ↓v1_astore_n, ↓v1_iinc, ↓v1_dup, ↓v1_dup2, ↓v1_ifCond_eq, ↓v1_ifCond_ne, ↓v1_ifCond_lt, ↓v1_ifCond_ge, ↓v1_ifCond_gt, ↓v1_ifCond_le, ↓v1_if_icmp_eq, ↓v1_if_icmp_ne, ↓v1_if_icmp_lt, ↓v1_if_icmp_ge, ↓v1_if_icmp_gt, ↓v1_if_icmp_le, ↓v1_if_acmp_ne, ↓v1_ifnull, ↓v1_ifnonnull, ↓v1_goto, ↓v1_tableswitch_0, ↓v1_return_, ↓v1_ireturn, ↓v1_lreturn, ↓v1_areturn, ↓v1_getfield_0, ↓v1_putfield_0, ↓v1_getstatic, ↓v1_iaload, ↓v1_laload, ↓v1_baload, ↓v1_aaload, ↓v1_iastore, ↓v1_lastore, ↓v1_bastore, ↓v1_aastore_0, ↓v1_arraylength, ↓v1_new_0, ↓v1_newarray, ↓v1_anewarray, ↓v1_invokestatic_0, ↓v1_invokestatic_1, ↓v1_invokestatic_2a, ↓v1_invokevirtual_0, ↓v1_invokespecial_0, ↓v1_invokespecial_1a, ↓v1_invokespecial_1b, ↓vi_ii_e, ↓vi_i_e, ↓vi_jj_e, ↓vi_j_e, ↓vi_ij_e, ↓vi_r_e, ↓vi_rr_e, ↓vi_o_e, ↓vi_ir_e, ↓vi_iir_e, ↓vi_jir_e, ↓vi_rir_e, ↓vi_pop_z, ↓vi_pop_s, ↓vi_sw_n, ↓vi_sw_c, ↓vi_li_z, ↓vi_li_s, ↓vi_ll_z, ↓vi_ll_s, ↓vi_lr_z, ↓vi_lr_s, ↓vi_ret_l, ↓vi_ret_r, vi_sv, vg_set1, vg_set2, vg_lo, List.headD, List.contains_nil, List.contains_cons, Bool.or_false, Bool.false_eq_true, if_false, if_true, Nat.reduceAdd, Nat.reduceBEq, List.nil_append, List.cons_append, List.append_nil, Option.toList, Int32.reduceOfNat, Int64.reduceOfNat, reduceCtorEq, Nat.reduceLeDiff, Nat.le_refl, Nat.zero_le, true_and, and_true, false_or, or_false, or_true, true_or, and_self, not_true_eq_false, not_false_eq_true, forall_const, false_implies, true_implies, Sum.inl.injEq, Sum.inr.injEq, Option.some.injEq, eq_self, oI_1, oI_m, oI_5, oI_L, vi_ws_nil, vi_ws_I, vi_ws_J, vi_ws_R, wi_k, wi_n, wi_r, wi_l, wr_k, wr_n, wr_i, wr_l, wl_k, wl_n, wl_i, wl_r, Nat.reduceSub, Nat.reduceMul, cd_141_0, cd_141_10, cd_141_11, cd_141_28, cd_141_38, cd_141_44, cd_141_57, cd_141_63, cd_141_117, cd_141_121, cd_141_122, cd_141_151, at_141_10, at_141_11, at_141_28, at_141_38, at_141_44, at_141_57, at_141_63, at_141_117, at_141_121, at_141_122, at_141_151, mc_141, ms_141, mr_141, mh_141, ml_141, k0, r42, k42, n42, r43, k43, n43, e1, t1, t2, y1, y2, y3]
    intro v ev
    rw [nI_add] at ev
    subst ev
    exact mid _ _ rfl
  · have e1 : ¬ nI d < nI m := nI_nlt q (by omega)
    have w0 : W d = (0, 0, 0, 0) := hW d q
    refine vg_C_of rfl (by decide +kernel) (Nat.le_of_ble_eq_true rfl) ?_
    refine vi_run ok_141 [63] 60 ?_
    rw [at_141_0]
    simp only [vg_ent, vg_en, List.length_cons, List.length_nil, Nat.reduceAdd, Nat.reduceSub, List.replicate, List.append_nil, List.nil_append, List.cons_append, mn_141]
    simp only [↓reduceIte, vi_go_c, ↓v1_iadd, ↓v1_isub, ↓v1_imul, ↓v1_iand, ↓v1_idiv, ↓v1_irem, ↓v1_ineg, ↓v1_ladd, ↓v1_lsub, ↓v1_land, ↓v1_lcmp, ↓v1_lshl, ↓v1_lshr, ↓v1_i2l, ↓v1_l2i, ↓v1_iconst_0, ↓v1_iconst_m, ↓v1_bipush, ↓v1_sipush, ↓v1_ldc, ↓v1_ldc_w, ↓v1_lconst, ↓v1_ldc2_w, ↓v1_aconst_null, ↓v1_iload, ↓v1_iload_n, ↓v1_lload, ↓v1_lload_n, ↓v1_aload, ↓v1_aload_n, ↓v1_istore, ↓v1_istore_n, ↓v1_lstore, ↓v1_lstore_n, ↓v1_astore, ↓v1_astore_n, ↓v1_iinc, ↓v1_dup, ↓v1_dup2, ↓v1_ifCond_eq, ↓v1_ifCond_ne, ↓v1_ifCond_lt, ↓v1_ifCond_ge, ↓v1_ifCond_gt, ↓v1_ifCond_le, ↓v1_if_icmp_eq, ↓v1_if_icmp_ne, ↓v1_if_icmp_lt, ↓v1_if_icmp_ge, ↓v1_if_icmp_gt, ↓v1_if_icmp_le, ↓v1_if_acmp_ne, ↓v1_ifnull, ↓v1_ifnonnull, ↓v1_goto, ↓v1_tableswitch_0, ↓v1_return_, ↓v1_ireturn, ↓v1_lreturn, ↓v1_areturn, ↓v1_getfield_0, ↓v1_putfield_0, ↓v1_getstatic, ↓v1_iaload, ↓v1_laload, ↓v1_baload, ↓v1_aaload, ↓v1_iastore, ↓v1_lastore, ↓v1_bastore, ↓v1_aastore_0, ↓v1_arraylength, ↓v1_new_0, ↓v1_newarray, ↓v1_anewarray, ↓v1_invokestatic_0, ↓v1_invokestatic_1, ↓v1_invokestatic_2a, ↓v1_invokevirtual_0, ↓v1_invokespecial_0, ↓v1_invokespecial_1a, ↓v1_invokespecial_1b, ↓vi_ii_e, ↓vi_i_e, ↓vi_jj_e, ↓vi_j_e, ↓vi_ij_e, ↓vi_r_e, ↓vi_rr_e, ↓vi_o_e, ↓vi_ir_e, ↓vi_iir_e, ↓vi_jir_e, ↓vi_rir_e, ↓vi_pop_z, ↓vi_pop_s, ↓vi_sw_n, ↓vi_sw_c, ↓vi_li_z, ↓vi_li_s, ↓vi_ll_z, ↓vi_ll_s, ↓vi_lr_z, ↓vi_lr_s, ↓vi_ret_l, ↓vi_ret_r, vi_sv, vg_set1, vg_set2, vg_lo, List.headD, List.contains_nil, List.contains_cons, Bool.or_false, Bool.false_eq_true, if_false, if_true, Nat.reduceAdd, Nat.reduceBEq, List.nil_append, List.cons_append, List.append_nil, Option.toList, Int32.reduceOfNat, Int64.reduceOfNat, reduceCtorEq, Nat.reduceLeDiff, Nat.le_refl, Nat.zero_le, true_and, and_true, false_or, or_false, or_true, true_or, and_self, not_true_eq_false, not_false_eq_true, forall_const, false_implies, true_implies, Sum.inl.injEq, Sum.inr.injEq, Option.some.injEq, eq_self, oI_1, oI_m, oI_5, oI_L, vi_ws_nil, vi_ws_I, vi_ws_J, vi_ws_R, wi_k, wi_n, wi_r, wi_l, wr_k, wr_n, wr_i, wr_l, wl_k, wl_n, wl_i, wl_r, Nat.reduceSub, Nat.reduceMul, cd_141_0, cd_141_10, cd_141_11, cd_141_28, cd_141_38, cd_141_44, cd_141_57, cd_141_63, cd_141_117, cd_141_121, cd_141_122, cd_141_151, at_141_10, at_141_11, at_141_28, at_141_38, at_141_44, at_141_57, at_141_63, at_141_117, at_141_121, at_141_122, at_141_151, mc_141, ms_141, mr_141, mh_141, ml_141, k0, r42, k42, n42, r43, k43, n43, e1, i10]
    intro v ev
    rw [show (0 : Int32) = nI (W d).1 by rw [w0]; rfl, nI_add] at ev
    subst ev
    exact mid _ _ (by rw [w0]; rfl)
theorem arr_fld {b f : Nat} (hf : 0 < lnf f) (hh : vg_H) (i : Nat) (v : Int32) (k : Nat) : (vg_wi hh (ar b f) i v).2.2.1 (b + 37) k = hh.2.2.1 (b + 37) k := by
  have := ar_rng (b := b) hf
  rw [wi_i, if_neg (fun z => by omega)]
theorem CT.put {b : Nat} {h : vg_H} {W : WT} {e m : Nat} (p : CT b h W (e + 1) m) : CT b (vg_wi (vg_wi (vg_wi (vg_wi h (ar b 42) e (nI (W e).1)) (ar b 43) e (nI (W e).2.1)) (ar b 44) e (nI (W e).2.2.1)) (ar b 45) e (nI (W e).2.2.2)) W e m := by
  intro e' h1 h2
  have e42 : ar b 42 = b + 75 := rfl
  have e43 : ar b 43 = b + 76 := rfl
  have e44 : ar b 44 = b + 77 := rfl
  have e45 : ar b 45 = b + 78 := rfl
  by_cases q : e' = e
  · subst q
    refine ⟨?_, ?_, ?_, ?_⟩ <;> simp [wi_i, e42, e43, e44, e45]
  · have := p e' (by omega) h2
    refine ⟨?_, ?_, ?_, ?_⟩ <;> simp only [wi_i, q, and_false, if_false]
    · exact this.1
    · exact this.2.1
    · exact this.2.2.1
    · exact this.2.2.2
theorem BO_sm {W : WT} {z fr e i : Nat} {o : Option (Nat × Nat × Nat × Nat)} (hp : okPr S) (sW : smW W) (h : BO S W z fr e i o) : smO o := by
  intro v hv
  rcases h with ⟨h1, _⟩ | ⟨p, d, h1, h2, h3, _⟩
  · rw [h1] at hv; cases hv
  · rw [h3] at hv
    injection hv with hv
    subst hv
    have := sW d
    have := h2.le24
    have : prcP S p ≤ 20000 := by
      rcases h2 with ⟨k1, _⟩ | ⟨k1, _⟩
      · exact (hp p k1.1 k1.2.1).1
      · unfold prcP; rw [if_pos k1]; omega
    refine ⟨?_, ?_, ?_⟩
    · show prcP S p + (W d).1 < _; omega
    · show 1 + (W d).2.1 < _; omega
    · show p < _; omega
set_option maxRecDepth 100000 in
theorem l_108i {W : WT} {z a e m : Nat} (hS : Tar S) (hR : Right S z (a % 10080) m W) (sW : smW W) (hz : z < 4) (ha : a ≤ 210000) (he : 1 ≤ e) (hem : e < m) (hm : m ≤ 4320) (hQ : ∀ h', MP b S w h0 h' → CT b h' W e m → vg_A G (MT 108) 0 0 5 [some (.inr (.inr (some (b + 37)))), some (.inl (nI z)), some (.inl (nI a)), some (.inl (nI m)), some (.inl (nI (e - 1))), none, none, none] [] h' Q) : ∀ (n i : Nat) (o : Option (Nat × Nat × Nat × Nat)) (h : vg_H), i + n = 24 → MP b S w h0 h → CT b h W (e + 1) m → BF b h o → BO S W z (a % 10080) e i o →
    vg_A G (MT 108) 0 0 17 [some (.inr (.inr (some (b + 37)))), some (.inl (nI z)), some (.inl (nI a)), some (.inl (nI m)), some (.inl (nI e)), some (.inl (nI i)), none, none] [] h Q := by
  intro n
  induction n with
  | zero =>
    intro i o h hi hP hT hB hO
    have i24 : i = 24 := by omega
    subst i24
    have hO2 : o = some (W e) := by
      refine BO_end hR hem (BO_no hO (fun d hc => ?_))
      rcases hc with ⟨k1, _⟩ | ⟨k1, k2, _⟩
      · have := k1.1; omega
      · omega
    subst hO2
    obtain ⟨f46, f47, f48, f49⟩ := hB
    have hM := hP.mx
    have k0 : (h).1 (b + 37) = 11 := hM.1
    have r42 : (h).2.2.2.2.1 (b + 37) 42 = some (ar b 42) := (hM.2.1 42 (by decide)).1
    have k42 : (h).1 (ar b 42) = 100 := (hM.2.1 42 (by decide)).2.1
    have n42 : (h).2.1 (ar b 42) = 4321 := (hM.2.1 42 (by decide)).2.2
    have r43 : (h).2.2.2.2.1 (b + 37) 43 = some (ar b 43) := (hM.2.1 43 (by decide)).1
    have k43 : (h).1 (ar b 43) = 100 := (hM.2.1 43 (by decide)).2.1
    have n43 : (h).2.1 (ar b 43) = 4321 := (hM.2.1 43 (by decide)).2.2
    have r44 : (h).2.2.2.2.1 (b + 37) 44 = some (ar b 44) := (hM.2.1 44 (by decide)).1
    have k44 : (h).1 (ar b 44) = 100 := (hM.2.1 44 (by decide)).2.1
    have n44 : (h).2.1 (ar b 44) = 4321 := (hM.2.1 44 (by decide)).2.2
    have r45 : (h).2.2.2.2.1 (b + 37) 45 = some (ar b 45) := (hM.2.1 45 (by decide)).1
    have k45 : (h).1 (ar b 45) = 100 := (hM.2.1 45 (by decide)).2.1
    have n45 : (h).2.1 (ar b 45) = 4321 := (hM.2.1 45 (by decide)).2.2
    have e1 : (24 : Int32) ≤ nI 24 := by decide
    have y1 := nI_clamp (show e < 2 ^ 31 by omega)
    have y2 : vp_in (nI e) 4321 := vp_nI (by omega) (by omega)
    have j1 : vg_A G (MT 108) 0 0 129 [some (.inr (.inr (some (b + 37)))), some (.inl (nI z)), some (.inl (nI a)), some (.inl (nI m)), some (.inl (nI e)), none, none, none] [] h Q := by
      have z42 := @arr_fld b 42 (by decide)
      have z43 := @arr_fld b 43 (by decide)
      have z44 := @arr_fld b 44 (by decide)
      refine vi_run ok_108 [5] 90 ?_
      rw [at_108_129]
      simp only [↓reduceIte, vi_go_c, ↓v1_iadd, ↓v1_isub, ↓v1_imul, ↓v1_iand, ↓v1_idiv, ↓v1_irem, ↓v1_ineg, ↓v1_ladd, ↓v1_lsub, ↓v1_land, ↓v1_lcmp, ↓v1_lshl, ↓v1_lshr, ↓v1_i2l, ↓v1_l2i, ↓v1_iconst_0, ↓v1_iconst_m, ↓v1_bipush, ↓v1_sipush, ↓v1_ldc, ↓v1_ldc_w, ↓v1_lconst, ↓v1_ldc2_w, ↓v1_aconst_null, ↓v1_iload, ↓v1_iload_n, ↓v1_lload, ↓v1_lload_n, ↓v1_aload, ↓v1_aload_n, ↓v1_istore, ↓v1_istore_n, ↓v1_lstore, ↓v1_lstore_n, ↓v1_astore, ↓v1_astore_n, ↓v1_iinc, ↓v1_dup, ↓v1_dup2, ↓v1_ifCond_eq, ↓v1_ifCond_ne, ↓v1_ifCond_lt, ↓v1_ifCond_ge, ↓v1_ifCond_gt, ↓v1_ifCond_le, ↓v1_if_icmp_eq, ↓v1_if_icmp_ne, ↓v1_if_icmp_lt, ↓v1_if_icmp_ge, ↓v1_if_icmp_gt, ↓v1_if_icmp_le, ↓v1_if_acmp_ne, ↓v1_ifnull, ↓v1_ifnonnull, ↓v1_goto, ↓v1_tableswitch_0, ↓v1_return_, ↓v1_ireturn, ↓v1_lreturn, ↓v1_areturn, ↓v1_getfield_0, ↓v1_putfield_0, ↓v1_getstatic, ↓v1_iaload, ↓v1_laload, ↓v1_baload, ↓v1_aaload, ↓v1_iastore, ↓v1_lastore, ↓v1_bastore, ↓v1_aastore_0, ↓v1_arraylength, ↓v1_new_0, ↓v1_newarray, ↓v1_anewarray, ↓v1_invokestatic_0, ↓v1_invokestatic_1, ↓v1_invokestatic_2a, ↓v1_invokevirtual_0, ↓v1_invokespecial_0, ↓v1_invokespecial_1a, ↓v1_invokespecial_1b, ↓vi_ii_e, ↓vi_i_e, ↓vi_jj_e, ↓vi_j_e, ↓vi_ij_e, ↓vi_r_e, ↓vi_rr_e, ↓vi_o_e, ↓vi_ir_e, ↓vi_iir_e, ↓vi_jir_e, ↓vi_rir_e, ↓vi_pop_z, ↓vi_pop_s, ↓vi_sw_n, ↓vi_sw_c, ↓vi_li_z, ↓vi_li_s, ↓vi_ll_z, ↓vi_ll_s, ↓vi_lr_z, ↓vi_lr_s, ↓vi_ret_l, ↓vi_ret_r, vi_sv, vg_set1, vg_set2, vg_lo, List.headD, List.contains_nil, List.contains_cons, Bool.or_false, Bool.false_eq_true, if_false, if_true, Nat.reduceAdd, Nat.reduceBEq, List.nil_append, List.cons_append, List.append_nil, Option.toList, Int32.reduceOfNat, Int64.reduceOfNat, reduceCtorEq, Nat.reduceLeDiff, Nat.le_refl, Nat.zero_le, true_and, and_true, false_or, or_false, or_true, true_or, and_self, not_true_eq_false, not_false_eq_true, forall_const, false_implies, true_implies, Sum.inl.injEq, Sum.inr.injEq, Option.some.injEq, eq_self, oI_1, oI_m, oI_5, oI_L, vi_ws_nil, vi_ws_I, vi_ws_J, vi_ws_R, wi_k, wi_n, wi_r, wi_l, wr_k, wr_n, wr_i, wr_l, wl_k, wl_n, wl_i, wl_r, Nat.reduceSub, Nat.reduceMul, cd_108_0, cd_108_5, cd_108_17, cd_108_123, cd_108_129, cd_108_179, cd_108_193, cd_108_196, cd_108_262, cd_108_268, cd_108_291, at_108_5, at_108_17, at_108_123, at_108_129, at_108_179, at_108_193, at_108_196, at_108_262, at_108_268, at_108_291, mc_108, ms_108, mr_108, mh_108, ml_108, mc_96, ms_96, mc_139, ms_139, mc_141, ms_141, k0, r42, k42, n42, r43, k43, n43, r44, k44, n44, r45, k45, n45, y1, y2, f46, f47, f48, f49, z42, z43, z44]
      intro v ev
      have ev2 : v = nI (e - 1) := by rw [ev]; exact nI_subN he
      subst ev2
      exact hQ _ ((((hP.scr 42 (by decide) rfl _ _).scr 43 (by decide) rfl _ _).scr 44 (by decide) rfl _ _).scr 45 (by decide) rfl _ _) hT.put
    refine vi_run ok_108 [129, 24] 20 ?_
    rw [at_108_17]
    simp only [↓reduceIte, vi_go_c, ↓v1_iadd, ↓v1_isub, ↓v1_imul, ↓v1_iand, ↓v1_idiv, ↓v1_irem, ↓v1_ineg, ↓v1_ladd, ↓v1_lsub, ↓v1_land, ↓v1_lcmp, ↓v1_lshl, ↓v1_lshr, ↓v1_i2l, ↓v1_l2i, ↓v1_iconst_0, ↓v1_iconst_m, ↓v1_bipush, ↓v1_sipush, ↓v1_ldc, ↓v1_ldc_w, ↓v1_lconst, ↓v1_ldc2_w, ↓v1_aconst_null, ↓v1_iload, ↓v1_iload_n, ↓v1_lload, ↓v1_lload_n, ↓v1_aload, ↓v1_aload_n, ↓v1_istore, ↓v1_istore_n, ↓v1_lstore, ↓v1_lstore_n, ↓v1_astore, ↓v1_astore_n, ↓v1_iinc, ↓v1_dup, ↓v1_dup2, ↓v1_ifCond_eq, ↓v1_ifCond_ne, ↓v1_ifCond_lt, ↓v1_ifCond_ge, ↓v1_ifCond_gt, ↓v1_ifCond_le, ↓v1_if_icmp_eq, ↓v1_if_icmp_ne, ↓v1_if_icmp_lt, ↓v1_if_icmp_ge, ↓v1_if_icmp_gt, ↓v1_if_icmp_le, ↓v1_if_acmp_ne, ↓v1_ifnull, ↓v1_ifnonnull, ↓v1_goto, ↓v1_tableswitch_0, ↓v1_return_, ↓v1_ireturn, ↓v1_lreturn, ↓v1_areturn, ↓v1_getfield_0, ↓v1_putfield_0, ↓v1_getstatic, ↓v1_iaload, ↓v1_laload, ↓v1_baload, ↓v1_aaload, ↓v1_iastore, ↓v1_lastore, ↓v1_bastore, ↓v1_aastore_0, ↓v1_arraylength, ↓v1_new_0, ↓v1_newarray, ↓v1_anewarray, ↓v1_invokestatic_0, ↓v1_invokestatic_1, ↓v1_invokestatic_2a, ↓v1_invokevirtual_0, ↓v1_invokespecial_0, ↓v1_invokespecial_1a, ↓v1_invokespecial_1b, ↓vi_ii_e, ↓vi_i_e, ↓vi_jj_e, ↓vi_j_e, ↓vi_ij_e, ↓vi_r_e, ↓vi_rr_e, ↓vi_o_e, ↓vi_ir_e, ↓vi_iir_e, ↓vi_jir_e, ↓vi_rir_e, ↓vi_pop_z, ↓vi_pop_s, ↓vi_sw_n, ↓vi_sw_c, ↓vi_li_z, ↓vi_li_s, ↓vi_ll_z, ↓vi_ll_s, ↓vi_lr_z, ↓vi_lr_s, ↓vi_ret_l, ↓vi_ret_r, vi_sv, vg_set1, vg_set2, vg_lo, List.headD, List.contains_nil, List.contains_cons, Bool.or_false, Bool.false_eq_true, if_false, if_true, Nat.reduceAdd, Nat.reduceBEq, List.nil_append, List.cons_append, List.append_nil, Option.toList, Int32.reduceOfNat, Int64.reduceOfNat, reduceCtorEq, Nat.reduceLeDiff, Nat.le_refl, Nat.zero_le, true_and, and_true, false_or, or_false, or_true, true_or, and_self, not_true_eq_false, not_false_eq_true, forall_const, false_implies, true_implies, Sum.inl.injEq, Sum.inr.injEq, Option.some.injEq, eq_self, oI_1, oI_m, oI_5, oI_L, vi_ws_nil, vi_ws_I, vi_ws_J, vi_ws_R, wi_k, wi_n, wi_r, wi_l, wr_k, wr_n, wr_i, wr_l, wl_k, wl_n, wl_i, wl_r, Nat.reduceSub, Nat.reduceMul, cd_108_0, cd_108_5, cd_108_17, cd_108_123, cd_108_129, cd_108_179, cd_108_193, cd_108_196, cd_108_262, cd_108_268, cd_108_291, at_108_5, at_108_17, at_108_123, at_108_129, at_108_179, at_108_193, at_108_196, at_108_262, at_108_268, at_108_291, mc_108, ms_108, mr_108, mh_108, ml_108, mc_96, ms_96, mc_139, ms_139, mc_141, ms_141, e1]
    exact vr_less (vr_none 5 rfl) j1
  | succ n ih =>
    intro i o h hi hP hT hB hO
    have hM := hP.mx
    have k0 : (h).1 (b + 37) = 11 := hM.1
    have r5 : (h).2.2.2.2.1 (b + 37) 5 = some (ar b 5) := (hM.2.1 5 (by decide)).1
    have k5 : (h).1 (ar b 5) = 102 := (hM.2.1 5 (by decide)).2.1
    have n5 : (h).2.1 (ar b 5) = 24 := (hM.2.1 5 (by decide)).2.2
    have r6 : (h).2.2.2.2.1 (b + 37) 6 = some (ar b 6) := (hM.2.1 6 (by decide)).1
    have k6 : (h).1 (ar b 6) = 100 := (hM.2.1 6 (by decide)).2.1
    have n6 : (h).2.1 (ar b 6) = 24 := (hM.2.1 6 (by decide)).2.2
    have r7 : (h).2.2.2.2.1 (b + 37) 7 = some (ar b 7) := (hM.2.1 7 (by decide)).1
    have k7 : (h).1 (ar b 7) = 100 := (hM.2.1 7 (by decide)).2.1
    have n7 : (h).2.1 (ar b 7) = 24 := (hM.2.1 7 (by decide)).2.2
    have r8 : (h).2.2.2.2.1 (b + 37) 8 = some (ar b 8) := (hM.2.1 8 (by decide)).1
    have k8 : (h).1 (ar b 8) = 100 := (hM.2.1 8 (by decide)).2.1
    have n8 : (h).2.1 (ar b 8) = 24 := (hM.2.1 8 (by decide)).2.2
    have r11 : (h).2.2.2.2.1 (b + 37) 11 = some (ar b 11) := (hM.2.1 11 (by decide)).1
    have k11 : (h).1 (ar b 11) = 100 := (hM.2.1 11 (by decide)).2.1
    have n11 : (h).2.1 (ar b 11) = 241920 := (hM.2.1 11 (by decide)).2.2
    have e1 : ¬ (24 : Int32) ≤ nI i := by rw [show (24 : Int32) = nI 24 from rfl]; exact nI_ge (by omega) (by omega)
    have y1 := nI_clamp (show i < 2 ^ 31 by omega)
    have y2 : vp_in (nI i) 24 := vp_nI (by omega) (by omega)
    have f5 := hM.2.2.1 5 i (show _ < 24 by omega) rfl
    have f6 := hM.2.2.1 6 i (show _ < 24 by omega) rfl
    have f7 := hM.2.2.1 7 i (show _ < 24 by omega) rfl
    have f8 := hM.2.2.1 8 i (show _ < 24 by omega) rfl
    have ht7 := hS.2.2.2.1 i (by omega)
    have nx : ∀ (u v : Option vg_V) (o' : Option (Nat × Nat × Nat × Nat)) (h' : vg_H), MP b S w h0 h' → CT b h' W (e + 1) m → BF b h' o' → BO S W z (a % 10080) e (i + 1) o' → vg_A G (MT 108) 0 0 123 [some (.inr (.inr (some (b + 37)))), some (.inl (nI z)), some (.inl (nI a)), some (.inl (nI m)), some (.inl (nI e)), some (.inl (nI i)), u, v] [] h' Q := by
      intro u v o' h' hP' hT' hB' hO'
      refine vi_run ok_108 [17] 20 ?_
      rw [at_108_123]
      simp only [↓reduceIte, vi_go_c, ↓v1_iadd, ↓v1_isub, ↓v1_imul, ↓v1_iand, ↓v1_idiv, ↓v1_irem, ↓v1_ineg, ↓v1_ladd, ↓v1_lsub, ↓v1_land, ↓v1_lcmp, ↓v1_lshl, ↓v1_lshr, ↓v1_i2l, ↓v1_l2i, ↓v1_iconst_0, ↓v1_iconst_m, ↓v1_bipush, ↓v1_sipush, ↓v1_ldc, ↓v1_ldc_w, ↓v1_lconst, ↓v1_ldc2_w, ↓v1_aconst_null, ↓v1_iload, ↓v1_iload_n, ↓v1_lload, ↓v1_lload_n, ↓v1_aload, ↓v1_aload_n, ↓v1_istore, ↓v1_istore_n, ↓v1_lstore, ↓v1_lstore_n, ↓v1_astore, ↓v1_astore_n, ↓v1_iinc, ↓v1_dup, ↓v1_dup2, ↓v1_ifCond_eq, ↓v1_ifCond_ne, ↓v1_ifCond_lt, ↓v1_ifCond_ge, ↓v1_ifCond_gt, ↓v1_ifCond_le, ↓v1_if_icmp_eq, ↓v1_if_icmp_ne, ↓v1_if_icmp_lt, ↓v1_if_icmp_ge, ↓v1_if_icmp_gt, ↓v1_if_icmp_le, ↓v1_if_acmp_ne, ↓v1_ifnull, ↓v1_ifnonnull, ↓v1_goto, ↓v1_tableswitch_0, ↓v1_return_, ↓v1_ireturn, ↓v1_lreturn, ↓v1_areturn, ↓v1_getfield_0, ↓v1_putfield_0, ↓v1_getstatic, ↓v1_iaload, ↓v1_laload, ↓v1_baload, ↓v1_aaload, ↓v1_iastore, ↓v1_lastore, ↓v1_bastore, ↓v1_aastore_0, ↓v1_arraylength, ↓v1_new_0, ↓v1_newarray, ↓v1_anewarray, ↓v1_invokestatic_0, ↓v1_invokestatic_1, ↓v1_invokestatic_2a, ↓v1_invokevirtual_0, ↓v1_invokespecial_0, ↓v1_invokespecial_1a, ↓v1_invokespecial_1b, ↓vi_ii_e, ↓vi_i_e, ↓vi_jj_e, ↓vi_j_e, ↓vi_ij_e, ↓vi_r_e, ↓vi_rr_e, ↓vi_o_e, ↓vi_ir_e, ↓vi_iir_e, ↓vi_jir_e, ↓vi_rir_e, ↓vi_pop_z, ↓vi_pop_s, ↓vi_sw_n, ↓vi_sw_c, ↓vi_li_z, ↓vi_li_s, ↓vi_ll_z, ↓vi_ll_s, ↓vi_lr_z, ↓vi_lr_s, ↓vi_ret_l, ↓vi_ret_r, vi_sv, vg_set1, vg_set2, vg_lo, List.headD, List.contains_nil, List.contains_cons, Bool.or_false, Bool.false_eq_true, if_false, if_true, Nat.reduceAdd, Nat.reduceBEq, List.nil_append, List.cons_append, List.append_nil, Option.toList, Int32.reduceOfNat, Int64.reduceOfNat, reduceCtorEq, Nat.reduceLeDiff, Nat.le_refl, Nat.zero_le, true_and, and_true, false_or, or_false, or_true, true_or, and_self, not_true_eq_false, not_false_eq_true, forall_const, false_implies, true_implies, Sum.inl.injEq, Sum.inr.injEq, Option.some.injEq, eq_self, oI_1, oI_m, oI_5, oI_L, vi_ws_nil, vi_ws_I, vi_ws_J, vi_ws_R, wi_k, wi_n, wi_r, wi_l, wr_k, wr_n, wr_i, wr_l, wl_k, wl_n, wl_i, wl_r, Nat.reduceSub, Nat.reduceMul, cd_108_0, cd_108_5, cd_108_17, cd_108_123, cd_108_129, cd_108_179, cd_108_193, cd_108_196, cd_108_262, cd_108_268, cd_108_291, at_108_5, at_108_17, at_108_123, at_108_129, at_108_179, at_108_193, at_108_196, at_108_262, at_108_268, at_108_291, mc_108, ms_108, mr_108, mh_108, ml_108, mc_96, ms_96, mc_139, ms_139, mc_141, ms_141]
      intro v ev
      rw [← nI_succ] at ev; subst ev
      exact vr_less (vr_none 6 rfl) (vr_less (vr_none 7 rfl) (ih (i + 1) o' h' (by omega) hP' hT' hB' hO'))
    have no : (∀ d, ¬ Cand S z (a % 10080) e i d) → ∀ (u v : Option vg_V), vg_A G (MT 108) 0 0 123 [some (.inr (.inr (some (b + 37)))), some (.inl (nI z)), some (.inl (nI a)), some (.inl (nI m)), some (.inl (nI e)), some (.inl (nI i)), u, v] [] h Q := fun hn u v => nx u v o h hP hT hB (BO_no hO hn)
    have ncand : (∀ y, LB S i (a % 10080) e y → ¬ e < y + lenP S i) → ∀ d, ¬ Cand S z (a % 10080) e i d := by
      intro hn d hc
      rcases hc with ⟨_, y, l1, rfl, l3⟩ | ⟨k1, _⟩
      · exact hn y l1 l3
      · omega
    -- behind the back table
    have j3 : ∀ j, inZ S z i → (∀ y, LB S i (a % 10080) e y ↔ (j ≤ e ∧ y = e - j)) → j ≤ e → vg_A G (MT 108) 0 0 84 [some (.inr (.inr (some (b + 37)))), some (.inl (nI z)), some (.inl (nI a)), some (.inl (nI m)), some (.inl (nI e)), some (.inl (nI i)), some (.inl (nI j)), some (.inl (nI (e - j)))] [] h Q := by
      intro j hz' hl hj
      obtain ⟨g6, g7⟩ := ht7 hz'.2.1
      have okp := hS.1 i (by omega) hz'.2.1
      rw [g6] at f6
      rw [g7] at f7
      refine vi_run ok_108 [123] 60 ?_
      rw [show vi_at cd_108 84 = (84, 2, .iload 7, [7]) :: (86, 1, .aload_n 0, [0]) :: (87, 3, .getfield 23, [10, 7, 2, 903]) :: (90, 2, .iload 5, [5]) :: (92, 1, .iaload, []) :: (93, 1, .iadd, []) :: (94, 2, .iload 4, [4]) :: (96, 3, .if_icmp .le 27, [123]) :: (99, 1, .aload_n 0, [0]) :: (100, 2, .iload 5, [5]) :: (102, 1, .aload_n 0, [0]) :: (103, 3, .getfield 20, [10, 6, 2, 902]) :: (106, 2, .iload 5, [5]) :: (108, 1, .iaload, []) :: (109, 2, .iload 7, [7]) :: (111, 1, .aload_n 0, [0]) :: (112, 3, .getfield 23, [10, 7, 2, 903]) :: (115, 2, .iload 5, [5]) :: (117, 1, .iaload, []) :: (118, 1, .iadd, []) :: (119, 1, .iload_n 3, [3]) :: (120, 3, .invokevirtual 190, [141, 4, 10, 1110, 1113, 55, 1112, 31]) :: cd_108_123 from rfl]
      simp only [↓reduceIte, vi_go_c, ↓v1_iadd, ↓v1_isub, ↓v1_imul, ↓v1_iand, ↓v1_idiv, ↓v1_irem, ↓v1_ineg, ↓v1_ladd, ↓v1_lsub, ↓v1_land, ↓v1_lcmp, ↓v1_lshl, ↓v1_lshr, ↓v1_i2l, ↓v1_l2i, ↓v1_iconst_0, ↓v1_iconst_m, ↓v1_bipush, ↓v1_sipush, ↓v1_ldc, ↓v1_ldc_w, ↓v1_lconst, ↓v1_ldc2_w, ↓v1_aconst_null, ↓v1_iload, ↓v1_iload_n, ↓v1_lload, ↓v1_lload_n, ↓v1_aload, ↓v1_aload_n, ↓v1_istore, ↓v1_istore_n, ↓v1_lstore, ↓v1_lstore_n, ↓v1_astore, ↓v1_astore_n, ↓v1_iinc, ↓v1_dup, ↓v1_dup2, ↓v1_ifCond_eq, ↓v1_ifCond_ne, ↓v1_ifCond_lt, ↓v1_ifCond_ge, ↓v1_ifCond_gt, ↓v1_ifCond_le, ↓v1_if_icmp_eq, ↓v1_if_icmp_ne, ↓v1_if_icmp_lt, ↓v1_if_icmp_ge, ↓v1_if_icmp_gt, ↓v1_if_icmp_le, ↓v1_if_acmp_ne, ↓v1_ifnull, ↓v1_ifnonnull, ↓v1_goto, ↓v1_tableswitch_0, ↓v1_return_, ↓v1_ireturn, ↓v1_lreturn, ↓v1_areturn, ↓v1_getfield_0, ↓v1_putfield_0, ↓v1_getstatic, ↓v1_iaload, ↓v1_laload, ↓v1_baload, ↓v1_aaload, ↓v1_iastore, ↓v1_lastore, ↓v1_bastore, ↓v1_aastore_0, ↓v1_arraylength, ↓v1_new_0, ↓v1_newarray, ↓v1_anewarray, ↓v1_invokestatic_0, ↓v1_invokestatic_1, ↓v1_invokestatic_2a, ↓v1_invokevirtual_0, ↓v1_invokespecial_0, ↓v1_invokespecial_1a, ↓v1_invokespecial_1b, ↓vi_ii_e, ↓vi_i_e, ↓vi_jj_e, ↓vi_j_e, ↓vi_ij_e, ↓vi_r_e, ↓vi_rr_e, ↓vi_o_e, ↓vi_ir_e, ↓vi_iir_e, ↓vi_jir_e, ↓vi_rir_e, ↓vi_pop_z, ↓vi_pop_s, ↓vi_sw_n, ↓vi_sw_c, ↓vi_li_z, ↓vi_li_s, ↓vi_ll_z, ↓vi_ll_s, ↓vi_lr_z, ↓vi_lr_s, ↓vi_ret_l, ↓vi_ret_r, vi_sv, vg_set1, vg_set2, vg_lo, List.headD, List.contains_nil, List.contains_cons, Bool.or_false, Bool.false_eq_true, if_false, if_true, Nat.reduceAdd, Nat.reduceBEq, List.nil_append, List.cons_append, List.append_nil, Option.toList, Int32.reduceOfNat, Int64.reduceOfNat, reduceCtorEq, Nat.reduceLeDiff, Nat.le_refl, Nat.zero_le, true_and, and_true, false_or, or_false, or_true, true_or, and_self, not_true_eq_false, not_false_eq_true, forall_const, false_implies, true_implies, Sum.inl.injEq, Sum.inr.injEq, Option.some.injEq, eq_self, oI_1, oI_m, oI_5, oI_L, vi_ws_nil, vi_ws_I, vi_ws_J, vi_ws_R, wi_k, wi_n, wi_r, wi_l, wr_k, wr_n, wr_i, wr_l, wl_k, wl_n, wl_i, wl_r, Nat.reduceSub, Nat.reduceMul, cd_108_0, cd_108_5, cd_108_17, cd_108_123, cd_108_129, cd_108_179, cd_108_193, cd_108_196, cd_108_262, cd_108_268, cd_108_291, at_108_5, at_108_17, at_108_123, at_108_129, at_108_179, at_108_193, at_108_196, at_108_262, at_108_268, at_108_291, mc_108, ms_108, mr_108, mh_108, ml_108, mc_96, ms_96, mc_139, ms_139, mc_141, ms_141, k0, r6, k6, n6, r7, k7, n7, y1, y2, f6, f7]
      intro v ev
      rw [nI_add] at ev
      subst ev
      rw [nI_leI (by omega) (by omega)]
      refine ⟨fun e3 => no (ncand (fun y hy => by have := (hl y).mp hy; omega)) _ _, fun e3 => ?_⟩
      intro v ev
      rw [nI_add] at ev
      subst ev
      have hc : Cand S z (a % 10080) e i (e - j + lenP S i) := Or.inl ⟨hz', e - j, (hl _).mpr ⟨hj, rfl⟩, rfl, by omega⟩
      refine c_141 hP hT hB sW (BO_sm hS.1 sW hO) hR.1 hm (by omega) (by omega) (by omega) okp.1 (fun h' p1 p2 p3 => ?_)
      simp only [↓reduceIte, vi_go_c, ↓v1_iadd, ↓v1_isub, ↓v1_imul, ↓v1_iand, ↓v1_idiv, ↓v1_irem, ↓v1_ineg, ↓v1_ladd, ↓v1_lsub, ↓v1_land, ↓v1_lcmp, ↓v1_lshl, ↓v1_lshr, ↓v1_i2l, ↓v1_l2i, ↓v1_iconst_0, ↓v1_iconst_m, ↓v1_bipush, ↓v1_sipush, ↓v1_ldc, ↓v1_ldc_w, ↓v1_lconst, ↓v1_ldc2_w, ↓v1_aconst_null, ↓v1_iload, ↓v1_iload_n, ↓v1_lload, ↓v1_lload_n, ↓v1_aload, ↓v1_aload_n, ↓v1_istore, ↓v1_istore_n, ↓v1_lstore, ↓v1_lstore_n, ↓v1_astore, ↓v1_astore_n, ↓v1_iinc, ↓v1_dup, ↓v1_dup2, ↓v1_ifCond_eq, ↓v1_ifCond_ne, ↓v1_ifCond_lt, ↓v1_ifCond_ge, ↓v1_ifCond_gt, ↓v1_ifCond_le, ↓v1_if_icmp_eq, ↓v1_if_icmp_ne, ↓v1_if_icmp_lt, ↓v1_if_icmp_ge, ↓v1_if_icmp_gt, ↓v1_if_icmp_le, ↓v1_if_acmp_ne, ↓v1_ifnull, ↓v1_ifnonnull, ↓v1_goto, ↓v1_tableswitch_0, ↓v1_return_, ↓v1_ireturn, ↓v1_lreturn, ↓v1_areturn, ↓v1_getfield_0, ↓v1_putfield_0, ↓v1_getstatic, ↓v1_iaload, ↓v1_laload, ↓v1_baload, ↓v1_aaload, ↓v1_iastore, ↓v1_lastore, ↓v1_bastore, ↓v1_aastore_0, ↓v1_arraylength, ↓v1_new_0, ↓v1_newarray, ↓v1_anewarray, ↓v1_invokestatic_0, ↓v1_invokestatic_1, ↓v1_invokestatic_2a, ↓v1_invokevirtual_0, ↓v1_invokespecial_0, ↓v1_invokespecial_1a, ↓v1_invokespecial_1b, ↓vi_ii_e, ↓vi_i_e, ↓vi_jj_e, ↓vi_j_e, ↓vi_ij_e, ↓vi_r_e, ↓vi_rr_e, ↓vi_o_e, ↓vi_ir_e, ↓vi_iir_e, ↓vi_jir_e, ↓vi_rir_e, ↓vi_pop_z, ↓vi_pop_s, ↓vi_sw_n, ↓vi_sw_c, ↓vi_li_z, ↓vi_li_s, ↓vi_ll_z, ↓vi_ll_s, ↓vi_lr_z, ↓vi_lr_s, ↓vi_ret_l, ↓vi_ret_r, vi_sv, vg_set1, vg_set2, vg_lo, List.headD, List.contains_nil, List.contains_cons, Bool.or_false, Bool.false_eq_true, if_false, if_true, Nat.reduceAdd, Nat.reduceBEq, List.nil_append, List.cons_append, List.append_nil, Option.toList, Int32.reduceOfNat, Int64.reduceOfNat, reduceCtorEq, Nat.reduceLeDiff, Nat.le_refl, Nat.zero_le, true_and, and_true, false_or, or_false, or_true, true_or, and_self, not_true_eq_false, not_false_eq_true, forall_const, false_implies, true_implies, Sum.inl.injEq, Sum.inr.injEq, Option.some.injEq, eq_self, oI_1, oI_m, oI_5, oI_L, vi_ws_nil, vi_ws_I, vi_ws_J, vi_ws_R, wi_k, wi_n, wi_r, wi_l, wr_k, wr_n, wr_i, wr_l, wl_k, wl_n, wl_i, wl_r, Nat.reduceSub, Nat.reduceMul, cd_108_0, cd_108_5, cd_108_17, cd_108_123, cd_108_129, cd_108_179, cd_108_193, cd_108_196, cd_108_262, cd_108_268, cd_108_291, at_108_5, at_108_17, at_108_123, at_108_129, at_108_179, at_108_193, at_108_196, at_108_262, at_108_268, at_108_291, mc_108, ms_108, mr_108, mh_108, ml_108, mc_96, ms_96, mc_139, ms_139, mc_141, ms_141]
      exact nx _ _ _ _ p1 p2 p3 (BO_yes hO hc)
    have j2 : inZ S z i → vg_A G (MT 108) 0 0 45 [some (.inr (.inr (some (b + 37)))), some (.inl (nI z)), some (.inl (nI a)), some (.inl (nI m)), some (.inl (nI e)), some (.inl (nI i)), none, none] [] h Q := by
      intro hz'
      refine vi_run ok_108 [84, 123] 60 ?_
      rw [show vi_at cd_108 45 = (45, 1, .aload_n 0, [0]) :: (46, 3, .getfield 36, [10, 11, 2, 907]) :: (49, 3, .sipush 10080, [10080]) :: (52, 2, .iload 5, [5]) :: (54, 1, .imul, []) :: (55, 1, .iload_n 2, [2]) :: (56, 2, .iload 4, [4]) :: (58, 1, .iadd, []) :: (59, 3, .sipush 10080, [10080]) :: (62, 1, .irem, []) :: (63, 1, .iadd, []) :: (64, 1, .iaload, []) :: (65, 2, .istore 6, [6]) :: (67, 2, .iload 4, [4]) :: (69, 2, .iload 6, [6]) :: (71, 1, .isub, []) :: (72, 2, .istore 7, [7]) :: (74, 2, .iload 6, [6]) :: (76, 3, .ifCond .lt 47, [123]) :: (79, 2, .iload 7, [7]) :: (81, 3, .ifCond .lt 42, [123]) :: (84, 2, .iload 7, [7]) :: (86, 1, .aload_n 0, [0]) :: (87, 3, .getfield 23, [10, 7, 2, 903]) :: (90, 2, .iload 5, [5]) :: (92, 1, .iaload, []) :: (93, 1, .iadd, []) :: (94, 2, .iload 4, [4]) :: (96, 3, .if_icmp .le 27, [123]) :: (99, 1, .aload_n 0, [0]) :: (100, 2, .iload 5, [5]) :: (102, 1, .aload_n 0, [0]) :: (103, 3, .getfield 20, [10, 6, 2, 902]) :: (106, 2, .iload 5, [5]) :: (108, 1, .iaload, []) :: (109, 2, .iload 7, [7]) :: (111, 1, .aload_n 0, [0]) :: (112, 3, .getfield 23, [10, 7, 2, 903]) :: (115, 2, .iload 5, [5]) :: (117, 1, .iaload, []) :: (118, 1, .iadd, []) :: (119, 1, .iload_n 3, [3]) :: (120, 3, .invokevirtual 190, [141, 4, 10, 1110, 1113, 55, 1112, 31]) :: cd_108_123 from rfl]
      simp only [↓reduceIte, vi_go_c, ↓v1_iadd, ↓v1_isub, ↓v1_imul, ↓v1_iand, ↓v1_idiv, ↓v1_irem, ↓v1_ineg, ↓v1_ladd, ↓v1_lsub, ↓v1_land, ↓v1_lcmp, ↓v1_lshl, ↓v1_lshr, ↓v1_i2l, ↓v1_l2i, ↓v1_iconst_0, ↓v1_iconst_m, ↓v1_bipush, ↓v1_sipush, ↓v1_ldc, ↓v1_ldc_w, ↓v1_lconst, ↓v1_ldc2_w, ↓v1_aconst_null, ↓v1_iload, ↓v1_iload_n, ↓v1_lload, ↓v1_lload_n, ↓v1_aload, ↓v1_aload_n, ↓v1_istore, ↓v1_istore_n, ↓v1_lstore, ↓v1_lstore_n, ↓v1_astore, ↓v1_astore_n, ↓v1_iinc, ↓v1_dup, ↓v1_dup2, ↓v1_ifCond_eq, ↓v1_ifCond_ne, ↓v1_ifCond_lt, ↓v1_ifCond_ge, ↓v1_ifCond_gt, ↓v1_ifCond_le, ↓v1_if_icmp_eq, ↓v1_if_icmp_ne, ↓v1_if_icmp_lt, ↓v1_if_icmp_ge, ↓v1_if_icmp_gt, ↓v1_if_icmp_le, ↓v1_if_acmp_ne, ↓v1_ifnull, ↓v1_ifnonnull, ↓v1_goto, ↓v1_tableswitch_0, ↓v1_return_, ↓v1_ireturn, ↓v1_lreturn, ↓v1_areturn, ↓v1_getfield_0, ↓v1_putfield_0, ↓v1_getstatic, ↓v1_iaload, ↓v1_laload, ↓v1_baload, ↓v1_aaload, ↓v1_iastore, ↓v1_lastore, ↓v1_bastore, ↓v1_aastore_0, ↓v1_arraylength, ↓v1_new_0, ↓v1_newarray, ↓v1_anewarray, ↓v1_invokestatic_0, ↓v1_invokestatic_1, ↓v1_invokestatic_2a, ↓v1_invokevirtual_0, ↓v1_invokespecial_0, ↓v1_invokespecial_1a, ↓v1_invokespecial_1b, ↓vi_ii_e, ↓vi_i_e, ↓vi_jj_e, ↓vi_j_e, ↓vi_ij_e, ↓vi_r_e, ↓vi_rr_e, ↓vi_o_e, ↓vi_ir_e, ↓vi_iir_e, ↓vi_jir_e, ↓vi_rir_e, ↓vi_pop_z, ↓vi_pop_s, ↓vi_sw_n, ↓vi_sw_c, ↓vi_li_z, ↓vi_li_s, ↓vi_ll_z, ↓vi_ll_s, ↓vi_lr_z, ↓vi_lr_s, ↓vi_ret_l, ↓vi_ret_r, vi_sv, vg_set1, vg_set2, vg_lo, List.headD, List.contains_nil, List.contains_cons, Bool.or_false, Bool.false_eq_true, if_false, if_true, Nat.reduceAdd, Nat.reduceBEq, List.nil_append, List.cons_append, List.append_nil, Option.toList, Int32.reduceOfNat, Int64.reduceOfNat, reduceCtorEq, Nat.reduceLeDiff, Nat.le_refl, Nat.zero_le, true_and, and_true, false_or, or_false, or_true, true_or, and_self, not_true_eq_false, not_false_eq_true, forall_const, false_implies, true_implies, Sum.inl.injEq, Sum.inr.injEq, Option.some.injEq, eq_self, oI_1, oI_m, oI_5, oI_L, vi_ws_nil, vi_ws_I, vi_ws_J, vi_ws_R, wi_k, wi_n, wi_r, wi_l, wr_k, wr_n, wr_i, wr_l, wl_k, wl_n, wl_i, wl_r, Nat.reduceSub, Nat.reduceMul, cd_108_0, cd_108_5, cd_108_17, cd_108_123, cd_108_129, cd_108_179, cd_108_193, cd_108_196, cd_108_262, cd_108_268, cd_108_291, at_108_5, at_108_17, at_108_123, at_108_129, at_108_179, at_108_193, at_108_196, at_108_262, at_108_268, at_108_291, mc_108, ms_108, mr_108, mh_108, ml_108, mc_96, ms_96, mc_139, ms_139, mc_141, ms_141, k0, r11, k11, n11]
      intro x1 q1 x2 q2
      rw [show (10080 : Int32) = nI 10080 from rfl, nI_m] at q1
      rw [nI_add] at q2
      subst q1; subst q2
      refine ⟨by decide, fun x3 q3 x4 q4 => ?_⟩
      rw [show (10080 : Int32) = nI 10080 from rfl, nI_rem (by omega) (by omega)] at q3
      subst q3
      rw [nI_add] at q4
      subst q4
      rw [nI_clamp (by omega), hM.2.2.1 11 (10080 * i + (a + e) % 10080) (show _ < 241920 by omega) rfl]
      refine ⟨vp_nI (by omega) (by omega), ?_⟩
      rcases bk_use hS.2.2.1 (a := a) (e := e) hz'.1 hz'.2.1 (by omega) with ⟨b1, b2⟩ | ⟨j, b1, b2, b3⟩
      · rw [b1]
        intro x5 q5
        refine ⟨fun e3 => no (ncand (fun y hy => absurd hy (b2 y))) _ _, fun e3 => absurd (by decide) e3⟩
      · rw [b2]
        intro x5 q5
        refine ⟨fun e3 => absurd e3 (nI_pos (by omega)), fun e3 => ?_⟩
        rcases Nat.lt_or_ge e j with q | q
        · have := nI_neg q (by omega)
          rw [← q5] at this
          exact ⟨fun e4 => no (ncand (fun y hy => by have := (b3 y).mp hy; omega)) _ _, fun e4 => absurd this e4⟩
        · rw [nI_subN q] at q5
          subst q5
          exact ⟨fun e4 => absurd e4 (nI_pos (by omega)), fun e4 => j3 j hz' b3 q⟩
    refine vi_run ok_108 [45, 123] 40 ?_
    rw [at_108_17]
    simp only [↓reduceIte, vi_go_c, ↓v1_iadd, ↓v1_isub, ↓v1_imul, ↓v1_iand, ↓v1_idiv, ↓v1_irem, ↓v1_ineg, ↓v1_ladd, ↓v1_lsub, ↓v1_land, ↓v1_lcmp, ↓v1_lshl, ↓v1_lshr, ↓v1_i2l, ↓v1_l2i, ↓v1_iconst_0, ↓v1_iconst_m, ↓v1_bipush, ↓v1_sipush, ↓v1_ldc, ↓v1_ldc_w, ↓v1_lconst, ↓v1_ldc2_w, ↓v1_aconst_null, ↓v1_iload, ↓v1_iload_n, ↓v1_lload, ↓v1_lload_n, ↓v1_aload, ↓v1_aload_n, ↓v1_istore, ↓v1_istore_n, ↓v1_lstore, ↓v1_lstore_n, ↓v1_astore, ↓v1_astore_n, ↓v1_iinc, ↓v1_dup, ↓v1_dup2, ↓v1_ifCond_eq, ↓v1_ifCond_ne, ↓v1_ifCond_lt, ↓v1_ifCond_ge, ↓v1_ifCond_gt, ↓v1_ifCond_le, ↓v1_if_icmp_eq, ↓v1_if_icmp_ne, ↓v1_if_icmp_lt, ↓v1_if_icmp_ge, ↓v1_if_icmp_gt, ↓v1_if_icmp_le, ↓v1_if_acmp_ne, ↓v1_ifnull, ↓v1_ifnonnull, ↓v1_goto, ↓v1_tableswitch_0, ↓v1_return_, ↓v1_ireturn, ↓v1_lreturn, ↓v1_areturn, ↓v1_getfield_0, ↓v1_putfield_0, ↓v1_getstatic, ↓v1_iaload, ↓v1_laload, ↓v1_baload, ↓v1_aaload, ↓v1_iastore, ↓v1_lastore, ↓v1_bastore, ↓v1_aastore_0, ↓v1_arraylength, ↓v1_new_0, ↓v1_newarray, ↓v1_anewarray, ↓v1_invokestatic_0, ↓v1_invokestatic_1, ↓v1_invokestatic_2a, ↓v1_invokevirtual_0, ↓v1_invokespecial_0, ↓v1_invokespecial_1a, ↓v1_invokespecial_1b, ↓vi_ii_e, ↓vi_i_e, ↓vi_jj_e, ↓vi_j_e, ↓vi_ij_e, ↓vi_r_e, ↓vi_rr_e, ↓vi_o_e, ↓vi_ir_e, ↓vi_iir_e, ↓vi_jir_e, ↓vi_rir_e, ↓vi_pop_z, ↓vi_pop_s, ↓vi_sw_n, ↓vi_sw_c, ↓vi_li_z, ↓vi_li_s, ↓vi_ll_z, ↓vi_ll_s, ↓vi_lr_z, ↓vi_lr_s, ↓vi_ret_l, ↓vi_ret_r, vi_sv, vg_set1, vg_set2, vg_lo, List.headD, List.contains_nil, List.contains_cons, Bool.or_false, Bool.false_eq_true, if_false, if_true, Nat.reduceAdd, Nat.reduceBEq, List.nil_append, List.cons_append, List.append_nil, Option.toList, Int32.reduceOfNat, Int64.reduceOfNat, reduceCtorEq, Nat.reduceLeDiff, Nat.le_refl, Nat.zero_le, true_and, and_true, false_or, or_false, or_true, true_or, and_self, not_true_eq_false, not_false_eq_true, forall_const, false_implies, true_implies, Sum.inl.injEq, Sum.inr.injEq, Option.some.injEq, eq_self, oI_1, oI_m, oI_5, oI_L, vi_ws_nil, vi_ws_I, vi_ws_J, vi_ws_R, wi_k, wi_n, wi_r, wi_l, wr_k, wr_n, wr_i, wr_l, wl_k, wl_n, wl_i, wl_r, Nat.reduceSub, Nat.reduceMul, cd_108_0, cd_108_5, cd_108_17, cd_108_123, cd_108_129, cd_108_179, cd_108_193, cd_108_196, cd_108_262, cd_108_268, cd_108_291, at_108_5, at_108_17, at_108_123, at_108_129, at_108_179, at_108_193, at_108_196, at_108_262, at_108_268, at_108_291, mc_108, ms_108, mr_108, mh_108, ml_108, mc_96, ms_96, mc_139, ms_139, mc_141, ms_141, k0, r5, k5, n5, r8, k8, n8, e1, y1, y2, f5, f8]
    refine ⟨fun a1 => no (fun d hc => ?_) _ _, fun a1 => ⟨fun a2 => no (fun d hc => ?_) _ _, fun a2 => j2 ⟨by omega, a1, Classical.not_not.mp a2⟩⟩⟩
    · rcases hc with ⟨k1, _⟩ | ⟨k1, _⟩
      · exact k1.2.1 a1
      · omega
    · rcases hc with ⟨k1, _⟩ | ⟨k1, _⟩
      · exact a2 k1.2.2
      · omega
end MC
