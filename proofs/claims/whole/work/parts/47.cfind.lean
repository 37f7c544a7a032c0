/-! ===== the class: find ===== -/
theorem cp6 (h : vg_H) (a : Nat) (f : Nat → Int32) : vg_cp h a (va_cpy f (h.2.2.1 a) 0 0 6) = vg_wi (vg_wi (vg_wi (vg_wi (vg_wi (vg_wi h a 0 (f 0)) a 1 (f 1)) a 2 (f 2)) a 3 (f 3)) a 4 (f 4)) a 5 (f 5) := by
  refine Prod.ext rfl (Prod.ext rfl (Prod.ext ?_ rfl))
  funext x k
  simp only [wi_i]
  show va_up h.2.2.1 a (va_cpy f (h.2.2.1 a) 0 0 6) x k = _
  unfold va_up va_cpy
  by_cases e : x = a
  · subst e
    rcases Nat.lt_or_ge k 6 with q | q
    · match k, q with
      | 0, _ => simp
      | 1, _ => simp
      | 2, _ => simp
      | 3, _ => simp
      | 4, _ => simp
      | 5, _ => simp
    · have n : ¬ (0 ≤ k ∧ k < 0 + 6) := by omega
      simp only [if_true, if_neg n]
      rw [if_neg (fun z => by omega), if_neg (fun z => by omega), if_neg (fun z => by omega), if_neg (fun z => by omega), if_neg (fun z => by omega), if_neg (fun z => by omega)]
  · simp [e]
theorem grX_le {s : Nat → Nat} {r f : Nat} (hs : ∀ i, i < 6 → s i ≤ 500) (hf : f ≤ 500) : ∀ i, grX s r f i ≤ 500 := by
  intro i
  have a0 := hs 0 (by omega)
  have a1 := hs 1 (by omega)
  have a2 := hs 2 (by omega)
  have a4 := hs 4 (by omega)
  have a5 := hs 5 (by omega)
  unfold grX
  split
  · unfold gr0; omega
  · unfold gr1; omega
  · unfold gr2; omega
  · exact hf
  · unfold gr4; omega
  · unfold gr5; omega
section CFD
variable {G : vg_G} {b : Nat} {A : AA} {S : SS} {Q : vg_O → vg_H → Prop}
theorem CK.trans {h0 h1 h2 : vg_H} (p : CK G b A S h0 h1) (q : CK G b A S h1 h2) : CK G b A S h0 h2 := ⟨p.1.trans q.1, q.2.1, q.2.2⟩
/-- what find has found so far -/
def fdV (b : Nat) (h : vg_H) (c : Int32) : Option (Nat → Nat) → Prop
  | none => c = 0
  | some X => c = 1 ∧ (∀ j, j < 6 → h.2.2.1 (b + 14) j = nI (X (5 - j)) ∧ X (5 - j) ≤ 500) ∧ h.2.2.1 (b + 13) 2 = nI (smN X 6) ∧ smN X 6 ≤ 3000
set_option maxRecDepth 100000 in
theorem l_3 {q r : Nat} {s : Nat → Nat} {h0 : vg_H} (hq : q < 3) (hr : r ≤ 8000) (hst : ∀ i, i < 6 → S 35 (6 * q + i) = nI (s i) ∧ s i ≤ 500) (hQ1 : ∀ X h', Opt s 6 r X → CK G b A S h0 h' → (∀ j, j < 6 → h'.2.2.1 (b + 14) j = nI (X (5 - j))) → Q (.inl (some (.inl 1))) h') (hQ0 : (∀ y, ¬ Fe s 6 y r) → ∀ h', CK G b A S h0 h' → Q (.inl (some (.inl 0))) h') : ∀ (n f : Nat) (v : Option (Nat → Nat)) (c : Int32) (h : vg_H), f + n = min (s 3) (r / 10) + 1 → CK G b A S h0 h → Chs s r f v → fdV b h c v →
    vg_A G (MT 3) 0 0 20 [some (.inr (.inr (some (b + 13)))), some (.inl (nI (5 * r))), some (.inr (.inr (some (b + 26 + 4 * q)))), some (.inl c), some (.inl (nI (min (s 3) (r / 10)))), some (.inl (nI f))] [] h Q := by
  have hs5 : ∀ i, i < 6 → s i ≤ 500 := fun i hi => (hst i hi).2
  have s3 := hs5 3 (by omega)
  intro n
  induction n with
  | zero =>
    intro f v c h hf hK hc hv
    have e1 : nI (min (s 3) (r / 10)) < nI f := nI_lt (by omega) (by omega)
    refine vi_run ok_3 [27] 40 ?_
    rw [at_3_20]
    simp only [↓reduceIte, vi_go_c, ↓v1_iadd, ↓v1_isub, ↓v1_imul, ↓v1_iand, ↓v1_idiv, ↓v1_irem, ↓v1_ineg, ↓v1_ladd, ↓v1_lsub, ↓v1_land, ↓v1_lcmp, ↓v1_lshl, ↓v1_lshr, ↓v1_i2l, ↓v1_l2i, ↓v1_iconst_0, ↓v1_iconst_m, ↓v1_bipush, ↓v1_sipush, ↓v1_ldc, ↓v1_ldc_w, ↓v1_lconst, ↓v1_ldc2_w, ↓v1_aconst_null, ↓v1_iload, ↓v1_iload_n, ↓v1_lload, ↓v1_lload_n, ↓v1_aload, ↓v1_aload_n, ↓v1_istore, ↓v1_istore_n, ↓v1_lstore, ↓v1_lstore_n, ↓v1_astore, ↓v1_astore_n, ↓v1_iinc, ↓v1_dup, ↓v1_dup2, ↓v1_ifCond_eq, ↓v1_ifCond_ne, ↓v1_ifCond_lt, ↓v1_ifCond_ge, ↓v1_ifCond_gt, ↓v1_ifCond_le, ↓v1_if_icmp_eq, ↓v1_if_icmp_ne, ↓v1_if_icmp_lt, ↓v1_if_icmp_ge, ↓v1_if_icmp_gt, ↓v1_if_icmp_le, ↓v1_if_acmp_ne, ↓v1_ifnull, ↓v1_ifnonnull, ↓v1_goto, ↓v1_tableswitch_0, ↓v1_return_, ↓v1_ireturn, ↓v1_lreturn, ↓v1_areturn, ↓v1_getfield_0, ↓v1_putfield_0, ↓v1_getstatic, ↓v1_iaload, ↓v1_laload, ↓v1_baload, ↓v1_aaload, ↓v1_iastore, ↓v1_lastore, ↓v1_bastore, ↓v1_aastore_0, ↓v1_arraylength, ↓v1_new_0, ↓v1_newarray, ↓v1_anewarray, ↓v1_invokestatic_0, ↓v1_invokestatic_1, ↓v1_invokestatic_2a, ↓v1_invokevirtual_0, ↓v1_invokespecial_0, ↓v1_invokespecial_1a, ↓v1_invokespecial_1b, ↓vi_ii_e, ↓vi_i_e, ↓vi_jj_e, ↓vi_j_e, ↓vi_ij_e, ↓vi_r_e, ↓vi_rr_e, ↓vi_o_e, ↓vi_ir_e, ↓vi_iir_e, ↓vi_jir_e, ↓vi_rir_e, ↓vi_pop_z, ↓vi_pop_s, ↓vi_sw_n, ↓vi_sw_c, ↓vi_li_z, ↓vi_li_s, ↓vi_ll_z, ↓vi_ll_s, ↓vi_lr_z, ↓vi_lr_s, ↓vi_ret_l, ↓vi_ret_r, vi_sv, vg_set1, vg_set2, vg_lo, List.headD, List.contains_nil, List.contains_cons, Bool.or_false, Bool.false_eq_true, if_false, if_true, Nat.reduceAdd, Nat.reduceBEq, List.nil_append, List.cons_append, List.append_nil, Option.toList, Int32.reduceOfNat, Int64.reduceOfNat, reduceCtorEq, Nat.reduceLeDiff, Nat.le_refl, Nat.zero_le, true_and, and_true, false_or, or_false, or_true, true_or, and_self, not_true_eq_false, not_false_eq_true, forall_const, false_implies, true_implies, Sum.inl.injEq, Sum.inr.injEq, Option.some.injEq, eq_self, oI_1, oI_m, oI_5, oI_L, vi_ws_nil, vi_ws_I, vi_ws_J, vi_ws_R, wi_k, wi_n, wi_r, wi_l, wr_k, wr_n, wr_i, wr_l, wl_k, wl_n, wl_i, wl_r, Nat.reduceSub, Nat.reduceMul, cd_3_0, cd_3_20, cd_3_49, cd_3_77, cd_3_83, at_3_20, at_3_49, at_3_77, at_3_83, mc_3, ms_3, mr_3, mh_3, ml_3, mc_2, ms_2, mc_5, ms_5, mc_6, ms_6, e1]
    cases v with
    | none => have c0 : c = 0 := hv; subst c0; exact ⟨Or.inl rfl, hQ0 (Chs_none hc (by omega)) h hK⟩
    | some X => obtain ⟨c1, c2, _⟩ := hv; subst c1; exact ⟨Or.inr rfl, hQ1 X h (Chs_some hc (by omega)) hK (fun j hj => (c2 j hj).1)⟩
  | succ n ih =>
    intro f v c h hf hK hc hv
    have hC := hK.2.1
    obtain ⟨xk, xr0, xr1, xr2, xr3, xr4, xr5, xr6, xr7, xr8, ak1, ak2, ak3, ak4, ak5, ak6, ak7, ak8, ak9, ak10, ak11, ak12, ak13, ak14, ak15, ak16, an1, an2, an4, an5, an6, an7, an8, an9, an10, an11, an12, an14, an15, an16, vr0, vr1, vr2, vr3, vr4, hr0, hr1, xz⟩ := hC.1
    obtain ⟨xi9, xi10, xi11, xi12⟩ := hC.2.1
    have e1 : ¬ nI (min (s 3) (r / 10)) < nI f := nI_nlt (by omega) (by omega)
    have j77 : ∀ (v' : Option (Nat → Nat)) (c' : Int32) (h' : vg_H), CK G b A S h0 h' → Chs s r (f + 1) v' → fdV b h' c' v' → vg_A G (MT 3) 0 0 77 [some (.inr (.inr (some (b + 13)))), some (.inl (nI (5 * r))), some (.inr (.inr (some (b + 26 + 4 * q)))), some (.inl c'), some (.inl (nI (min (s 3) (r / 10)))), some (.inl (nI f))] [] h' Q := by
      intro v' c' h' k' hc' hv'
      refine vi_run ok_3 [20] 20 ?_
      rw [at_3_77]
      simp only [↓reduceIte, vi_go_c, ↓v1_iadd, ↓v1_isub, ↓v1_imul, ↓v1_iand, ↓v1_idiv, ↓v1_irem, ↓v1_ineg, ↓v1_ladd, ↓v1_lsub, ↓v1_land, ↓v1_lcmp, ↓v1_lshl, ↓v1_lshr, ↓v1_i2l, ↓v1_l2i, ↓v1_iconst_0, ↓v1_iconst_m, ↓v1_bipush, ↓v1_sipush, ↓v1_ldc, ↓v1_ldc_w, ↓v1_lconst, ↓v1_ldc2_w, ↓v1_aconst_null, ↓v1_iload, ↓v1_iload_n, ↓v1_lload, ↓v1_lload_n, ↓v1_aload, ↓v1_aload_n, ↓v1_istore, ↓v1_istore_n, ↓v1_lstore, ↓v1_lstore_n, ↓v1_astore, ↓v1_astore_n, ↓v1_iinc, ↓v1_dup, ↓v1_dup2, ↓v1_ifCond_eq, ↓v1_ifCond_ne, ↓v1_ifCond_lt, ↓v1_ifCond_ge, ↓v1_ifCond_gt, ↓v1_ifCond_le, ↓v1_if_icmp_eq, ↓v1_if_icmp_ne, ↓v1_if_icmp_lt, ↓v1_if_icmp_ge, ↓v1_if_icmp_gt, ↓v1_if_icmp_le, ↓v1_if_acmp_ne, ↓v1_ifnull, ↓v1_ifnonnull, ↓v1_goto, ↓v1_tableswitch_0, ↓v1_return_, ↓v1_ireturn, ↓v1_lreturn, ↓v1_areturn, ↓v1_getfield_0, ↓v1_putfield_0, ↓v1_getstatic, ↓v1_iaload, ↓v1_laload, ↓v1_baload, ↓v1_aaload, ↓v1_iastore, ↓v1_lastore, ↓v1_bastore, ↓v1_aastore_0, ↓v1_arraylength, ↓v1_new_0, ↓v1_newarray, ↓v1_anewarray, ↓v1_invokestatic_0, ↓v1_invokestatic_1, ↓v1_invokestatic_2a, ↓v1_invokevirtual_0, ↓v1_invokespecial_0, ↓v1_invokespecial_1a, ↓v1_invokespecial_1b, ↓vi_ii_e, ↓vi_i_e, ↓vi_jj_e, ↓vi_j_e, ↓vi_ij_e, ↓vi_r_e, ↓vi_rr_e, ↓vi_o_e, ↓vi_ir_e, ↓vi_iir_e, ↓vi_jir_e, ↓vi_rir_e, ↓vi_pop_z, ↓vi_pop_s, ↓vi_sw_n, ↓vi_sw_c, ↓vi_li_z, ↓vi_li_s, ↓vi_ll_z, ↓vi_ll_s, ↓vi_lr_z, ↓vi_lr_s, ↓vi_ret_l, ↓vi_ret_r, vi_sv, vg_set1, vg_set2, vg_lo, List.headD, List.contains_nil, List.contains_cons, Bool.or_false, Bool.false_eq_true, if_false, if_true, Nat.reduceAdd, Nat.reduceBEq, List.nil_append, List.cons_append, List.append_nil, Option.toList, Int32.reduceOfNat, Int64.reduceOfNat, reduceCtorEq, Nat.reduceLeDiff, Nat.le_refl, Nat.zero_le, true_and, and_true, false_or, or_false, or_true, true_or, and_self, not_true_eq_false, not_false_eq_true, forall_const, false_implies, true_implies, Sum.inl.injEq, Sum.inr.injEq, Option.some.injEq, eq_self, oI_1, oI_m, oI_5, oI_L, vi_ws_nil, vi_ws_I, vi_ws_J, vi_ws_R, wi_k, wi_n, wi_r, wi_l, wr_k, wr_n, wr_i, wr_l, wl_k, wl_n, wl_i, wl_r, Nat.reduceSub, Nat.reduceMul, cd_3_0, cd_3_20, cd_3_49, cd_3_77, cd_3_83, at_3_20, at_3_49, at_3_77, at_3_83, mc_3, ms_3, mr_3, mh_3, ml_3, mc_2, ms_2, mc_5, ms_5, mc_6, ms_6]
      intro x e
      rw [← nI_succ] at e; subst e
      exact ih (f + 1) v' c' h' (by omega) k' hc' hv'
    refine vi_run ok_3 [49, 77, 42] 40 ?_
    rw [at_3_20]
    simp only [↓reduceIte, vi_go_c, ↓v1_iadd, ↓v1_isub, ↓v1_imul, ↓v1_iand, ↓v1_idiv, ↓v1_irem, ↓v1_ineg, ↓v1_ladd, ↓v1_lsub, ↓v1_land, ↓v1_lcmp, ↓v1_lshl, ↓v1_lshr, ↓v1_i2l, ↓v1_l2i, ↓v1_iconst_0, ↓v1_iconst_m, ↓v1_bipush, ↓v1_sipush, ↓v1_ldc, ↓v1_ldc_w, ↓v1_lconst, ↓v1_ldc2_w, ↓v1_aconst_null, ↓v1_iload, ↓v1_iload_n, ↓v1_lload, ↓v1_lload_n, ↓v1_aload, ↓v1_aload_n, ↓v1_istore, ↓v1_istore_n, ↓v1_lstore, ↓v1_lstore_n, ↓v1_astore, ↓v1_astore_n, ↓v1_iinc, ↓v1_dup, ↓v1_dup2, ↓v1_ifCond_eq, ↓v1_ifCond_ne, ↓v1_ifCond_lt, ↓v1_ifCond_ge, ↓v1_ifCond_gt, ↓v1_ifCond_le, ↓v1_if_icmp_eq, ↓v1_if_icmp_ne, ↓v1_if_icmp_lt, ↓v1_if_icmp_ge, ↓v1_if_icmp_gt, ↓v1_if_icmp_le, ↓v1_if_acmp_ne, ↓v1_ifnull, ↓v1_ifnonnull, ↓v1_goto, ↓v1_tableswitch_0, ↓v1_return_, ↓v1_ireturn, ↓v1_lreturn, ↓v1_areturn, ↓v1_getfield_0, ↓v1_putfield_0, ↓v1_getstatic, ↓v1_iaload, ↓v1_laload, ↓v1_baload, ↓v1_aaload, ↓v1_iastore, ↓v1_lastore, ↓v1_bastore, ↓v1_aastore_0, ↓v1_arraylength, ↓v1_new_0, ↓v1_newarray, ↓v1_anewarray, ↓v1_invokestatic_0, ↓v1_invokestatic_1, ↓v1_invokestatic_2a, ↓v1_invokevirtual_0, ↓v1_invokespecial_0, ↓v1_invokespecial_1a, ↓v1_invokespecial_1b, ↓vi_ii_e, ↓vi_i_e, ↓vi_jj_e, ↓vi_j_e, ↓vi_ij_e, ↓vi_r_e, ↓vi_rr_e, ↓vi_o_e, ↓vi_ir_e, ↓vi_iir_e, ↓vi_jir_e, ↓vi_rir_e, ↓vi_pop_z, ↓vi_pop_s, ↓vi_sw_n, ↓vi_sw_c, ↓vi_li_z, ↓vi_li_s, ↓vi_ll_z, ↓vi_ll_s, ↓vi_lr_z, ↓vi_lr_s, ↓vi_ret_l, ↓vi_ret_r, vi_sv, vg_set1, vg_set2, vg_lo, List.headD, List.contains_nil, List.contains_cons, Bool.or_false, Bool.false_eq_true, if_false, if_true, Nat.reduceAdd, Nat.reduceBEq, List.nil_append, List.cons_append, List.append_nil, Option.toList, Int32.reduceOfNat, Int64.reduceOfNat, reduceCtorEq, Nat.reduceLeDiff, Nat.le_refl, Nat.zero_le, true_and, and_true, false_or, or_false, or_true, true_or, and_self, not_true_eq_false, not_false_eq_true, forall_const, false_implies, true_implies, Sum.inl.injEq, Sum.inr.injEq, Option.some.injEq, eq_self, oI_1, oI_m, oI_5, oI_L, vi_ws_nil, vi_ws_I, vi_ws_J, vi_ws_R, wi_k, wi_n, wi_r, wi_l, wr_k, wr_n, wr_i, wr_l, wl_k, wl_n, wl_i, wl_r, Nat.reduceSub, Nat.reduceMul, cd_3_0, cd_3_20, cd_3_49, cd_3_77, cd_3_83, at_3_20, at_3_49, at_3_77, at_3_83, mc_3, ms_3, mr_3, mh_3, ml_3, mc_2, ms_2, mc_5, ms_5, mc_6, ms_6, xk, xr0, xr1, xr2, xr3, xr4, xr5, xr6, xr7, xr8, ak1, ak2, ak3, ak4, ak5, ak6, ak7, ak8, ak9, ak10, ak11, ak12, ak13, ak14, ak15, ak16, an1, an2, an4, an5, an6, an7, an8, an9, an10, an11, an12, an14, an15, an16, vr0, vr1, vr2, vr3, vr4, hr0, hr1, xi9, xi10, xi11, xi12, e1]
    refine c_6 hq hr (by omega) (by omega) hst hC hK.2.2 (fun h1 p1 p2 p3 p4 p5 => ?_)
    have K1 := hK.trans p1
    have gl := grX_le (r := r) hs5 (show f ≤ 500 by omega)
    have gs : smN (grX s r f) 6 ≤ 500 * 6 := smN_le 6 (fun i _ => gl i)
    have hv1 : fdV b h1 c v := by
      cases v with
      | none => exact hv
      | some X =>
        obtain ⟨a1, a2, a3, a4⟩ := hv
        exact ⟨a1, fun j hj => by rw [p5]; exact a2 j hj, by rw [p4]; exact a3, a4⟩
    -- the new one is taken
    have j49 : grR s (r - 10 * f) = 0 → Chs s r (f + 1) (some (grX s r f)) → vg_A G (MT 3) 0 0 49 [some (.inr (.inr (some (b + 13)))), some (.inl (nI (5 * r))), some (.inr (.inr (some (b + 26 + 4 * q)))), some (.inl c), some (.inl (nI (min (s 3) (r / 10)))), some (.inl (nI f))] [] h1 Q := by
      intro z ch
      have hC1 := K1.2.1
      clear xk xr0 xr1 xr2 xr3 xr4 xr5 xr6 xr7 xr8 ak1 ak2 ak3 ak4 ak5 ak6 ak7 ak8 ak9 ak10 ak11 ak12 ak13 ak14 ak15 ak16 an1 an2 an4 an5 an6 an7 an8 an9 an10 an11 an12 an14 an15 an16 vr0 vr1 vr2 vr3 vr4 hr0 hr1 xi9 xi10 xi11 xi12
      have hC := hC1
      obtain ⟨xk, xr0, xr1, xr2, xr3, xr4, xr5, xr6, xr7, xr8, ak1, ak2, ak3, ak4, ak5, ak6, ak7, ak8, ak9, ak10, ak11, ak12, ak13, ak14, ak15, ak16, an1, an2, an4, an5, an6, an7, an8, an9, an10, an11, an12, an14, an15, an16, vr0, vr1, vr2, vr3, vr4, hr0, hr1, xz⟩ := hC.1
      obtain ⟨xi9, xi10, xi11, xi12⟩ := hC.2.1
      have c0 : (0 : Int32).toNatClampNeg = 0 := by decide
      refine vi_run ok_3 [77] 60 ?_
      rw [at_3_49]
      simp only [↓reduceIte, vi_go_c, ↓v1_iadd, ↓v1_isub, ↓v1_imul, ↓v1_iand, ↓v1_idiv, ↓v1_irem, ↓v1_ineg, ↓v1_ladd, ↓v1_lsub, ↓v1_land, ↓v1_lcmp, ↓v1_lshl, ↓v1_lshr, ↓v1_i2l, ↓v1_l2i, ↓v1_iconst_0, ↓v1_iconst_m, ↓v1_bipush, ↓v1_sipush, ↓v1_ldc, ↓v1_ldc_w, ↓v1_lconst, ↓v1_ldc2_w, ↓v1_aconst_null, ↓v1_iload, ↓v1_iload_n, ↓v1_lload, ↓v1_lload_n, ↓v1_aload, ↓v1_aload_n, ↓v1_istore, ↓v1_istore_n, ↓v1_lstore, ↓v1_lstore_n, ↓v1_astore, ↓v1_astore_n, ↓v1_iinc, ↓v1_dup, ↓v1_dup2, ↓v1_ifCond_eq, ↓v1_ifCond_ne, ↓v1_ifCond_lt, ↓v1_ifCond_ge, ↓v1_ifCond_gt, ↓v1_ifCond_le, ↓v1_if_icmp_eq, ↓v1_if_icmp_ne, ↓v1_if_icmp_lt, ↓v1_if_icmp_ge, ↓v1_if_icmp_gt, ↓v1_if_icmp_le, ↓v1_if_acmp_ne, ↓v1_ifnull, ↓v1_ifnonnull, ↓v1_goto, ↓v1_tableswitch_0, ↓v1_return_, ↓v1_ireturn, ↓v1_lreturn, ↓v1_areturn, ↓v1_getfield_0, ↓v1_putfield_0, ↓v1_getstatic, ↓v1_iaload, ↓v1_laload, ↓v1_baload, ↓v1_aaload, ↓v1_iastore, ↓v1_lastore, ↓v1_bastore, ↓v1_aastore_0, ↓v1_arraylength, ↓v1_new_0, ↓v1_newarray, ↓v1_anewarray, ↓v1_invokestatic_0, ↓v1_invokestatic_1, ↓v1_invokestatic_2a, ↓v1_invokevirtual_0, ↓v1_invokespecial_0, ↓v1_invokespecial_1a, ↓v1_invokespecial_1b, ↓vi_ii_e, ↓vi_i_e, ↓vi_jj_e, ↓vi_j_e, ↓vi_ij_e, ↓vi_r_e, ↓vi_rr_e, ↓vi_o_e, ↓vi_ir_e, ↓vi_iir_e, ↓vi_jir_e, ↓vi_rir_e, ↓vi_pop_z, ↓vi_pop_s, ↓vi_sw_n, ↓vi_sw_c, ↓vi_li_z, ↓vi_li_s, ↓vi_ll_z, ↓vi_ll_s, ↓vi_lr_z, ↓vi_lr_s, ↓vi_ret_l, ↓vi_ret_r, vi_sv, vg_set1, vg_set2, vg_lo, List.headD, List.contains_nil, List.contains_cons, Bool.or_false, Bool.false_eq_true, if_false, if_true, Nat.reduceAdd, Nat.reduceBEq, List.nil_append, List.cons_append, List.append_nil, Option.toList, Int32.reduceOfNat, Int64.reduceOfNat, reduceCtorEq, Nat.reduceLeDiff, Nat.le_refl, Nat.zero_le, true_and, and_true, false_or, or_false, or_true, true_or, and_self, not_true_eq_false, not_false_eq_true, forall_const, false_implies, true_implies, Sum.inl.injEq, Sum.inr.injEq, Option.some.injEq, eq_self, oI_1, oI_m, oI_5, oI_L, vi_ws_nil, vi_ws_I, vi_ws_J, vi_ws_R, wi_k, wi_n, wi_r, wi_l, wr_k, wr_n, wr_i, wr_l, wl_k, wl_n, wl_i, wl_r, Nat.reduceSub, Nat.reduceMul, cd_3_0, cd_3_20, cd_3_49, cd_3_77, cd_3_83, at_3_20, at_3_49, at_3_77, at_3_83, mc_3, ms_3, mr_3, mh_3, ml_3, mc_2, ms_2, mc_5, ms_5, mc_6, ms_6, xk, xr0, xr1, xr2, xr3, xr4, xr5, xr6, xr7, xr8, ak1, ak2, ak3, ak4, ak5, ak6, ak7, ak8, ak9, ak10, ak11, ak12, ak13, ak14, ak15, ak16, an1, an2, an4, an5, an6, an7, an8, an9, an10, an11, an12, an14, an15, an16, vr0, vr1, vr2, vr3, vr4, hr0, hr1, xi9, xi10, xi11, xi12, p3]
      rw [show Int32.toNatClampNeg 0 = 0 by decide, show Int32.toNatClampNeg 6 = 6 by decide, cp6]
      refine ⟨by decide, by decide, by decide, by omega, by omega, ak13, ak13, ?_⟩
      have w13 : ∀ (hh : vg_H) (i j : Nat) (v : Int32), (vg_wi hh (b + 14) i v).2.2.1 (b + 13) j = hh.2.2.1 (b + 13) j := fun hh i j v => by rw [wi_row (by omega)]
      rw [w13, w13, w13, w13, w13, w13, p3]
      refine j77 (some (grX s r f)) 1 _ (((((((K1.wi (by omega)).wi (by omega)).wi (by omega)).wi (by omega)).wi (by omega)).wi (by omega)).wi (by omega)) ch ⟨rfl, fun j hj => ⟨?_, gl _⟩, ?_, gs⟩
      · rw [wi_row (by omega), ← p2 j hj]
        match j, hj with
        | 0, _ => simp [wi_i]
        | 1, _ => simp [wi_i]
        | 2, _ => simp [wi_i]
        | 3, _ => simp [wi_i]
        | 4, _ => simp [wi_i]
        | 5, _ => simp [wi_i]
      · rw [wi_i, if_pos ⟨rfl, rfl⟩]
    simp only [↓reduceIte, vi_go_c, ↓v1_iadd, ↓v1_isub, ↓v1_imul, ↓v1_iand, ↓v1_idiv, ↓v1_irem, ↓v1_ineg, ↓v1_ladd, ↓v1_lsub, ↓v1_land, ↓v1_lcmp, ↓v1_lshl, ↓v1_lshr, ↓v1_i2l, ↓v1_l2i, ↓v1_iconst_0, ↓v1_iconst_m, ↓v1_bipush, ↓v1_sipush, ↓v1_ldc, ↓v1_ldc_w, ↓v1_lconst, ↓v1_ldc2_w, ↓v1_aconst_null, ↓v1_iload, ↓v1_iload_n, ↓v1_lload, ↓v1_lload_n, ↓v1_aload, ↓v1_aload_n, ↓v1_istore, ↓v1_istore_n, ↓v1_lstore, ↓v1_lstore_n, ↓v1_astore, ↓v1_astore_n, ↓v1_iinc, ↓v1_dup, ↓v1_dup2, ↓v1_ifCond_eq, ↓v1_ifCond_ne, ↓v1_ifCond_lt, ↓v1_ifCond_ge, ↓v1_ifCond_gt, ↓v1_ifCond_le, ↓v1_if_icmp_eq, ↓v1_if_icmp_ne, ↓v1_if_icmp_lt, ↓v1_if_icmp_ge, ↓v1_if_icmp_gt, ↓v1_if_icmp_le, ↓v1_if_acmp_ne, ↓v1_ifnull, ↓v1_ifnonnull, ↓v1_goto, ↓v1_tableswitch_0, ↓v1_return_, ↓v1_ireturn, ↓v1_lreturn, ↓v1_areturn, ↓v1_getfield_0, ↓v1_putfield_0, ↓v1_getstatic, ↓v1_iaload, ↓v1_laload, ↓v1_baload, ↓v1_aaload, ↓v1_iastore, ↓v1_lastore, ↓v1_bastore, ↓v1_aastore_0, ↓v1_arraylength, ↓v1_new_0, ↓v1_newarray, ↓v1_anewarray, ↓v1_invokestatic_0, ↓v1_invokestatic_1, ↓v1_invokestatic_2a, ↓v1_invokevirtual_0, ↓v1_invokespecial_0, ↓v1_invokespecial_1a, ↓v1_invokespecial_1b, ↓vi_ii_e, ↓vi_i_e, ↓vi_jj_e, ↓vi_j_e, ↓vi_ij_e, ↓vi_r_e, ↓vi_rr_e, ↓vi_o_e, ↓vi_ir_e, ↓vi_iir_e, ↓vi_jir_e, ↓vi_rir_e, ↓vi_pop_z, ↓vi_pop_s, ↓vi_sw_n, ↓vi_sw_c, ↓vi_li_z, ↓vi_li_s, ↓vi_ll_z, ↓vi_ll_s, ↓vi_lr_z, ↓vi_lr_s, ↓vi_ret_l, ↓vi_ret_r, vi_sv, vg_set1, vg_set2, vg_lo, List.headD, List.contains_nil, List.contains_cons, Bool.or_false, Bool.false_eq_true, if_false, if_true, Nat.reduceAdd, Nat.reduceBEq, List.nil_append, List.cons_append, List.append_nil, Option.toList, Int32.reduceOfNat, Int64.reduceOfNat, reduceCtorEq, Nat.reduceLeDiff, Nat.le_refl, Nat.zero_le, true_and, and_true, false_or, or_false, or_true, true_or, and_self, not_true_eq_false, not_false_eq_true, forall_const, false_implies, true_implies, Sum.inl.injEq, Sum.inr.injEq, Option.some.injEq, eq_self, oI_1, oI_m, oI_5, oI_L, vi_ws_nil, vi_ws_I, vi_ws_J, vi_ws_R, wi_k, wi_n, wi_r, wi_l, wr_k, wr_n, wr_i, wr_l, wl_k, wl_n, wl_i, wl_r, Nat.reduceSub, Nat.reduceMul, cd_3_0, cd_3_20, cd_3_49, cd_3_77, cd_3_83, at_3_20, at_3_49, at_3_77, at_3_83, mc_3, ms_3, mr_3, mh_3, ml_3, mc_2, ms_2, mc_5, ms_5, mc_6, ms_6]
    by_cases z : grR s (r - 10 * f) = 0
    · refine ⟨fun e => absurd z (bI_eq.mp e), fun e => ?_⟩
      cases v with
      | none =>
        have c0 : c = 0 := hv1
        subst c0
        refine ⟨fun _ => j49 z (Chs_first hc z), fun e => absurd rfl e⟩
      | some X =>
        obtain ⟨a1, a2, a3, a4⟩ := hv1
        subst a1
        refine ⟨fun e => absurd e (by decide), fun _ => ?_⟩
        have k13 : h1.1 (b + 13) = 1 := by have := K1.2.1.1; unfold cxK at this; grind
        refine vi_run ok_3 [49, 77] 20 ?_
        rw [show vi_at cd_3 42 = (42, 1, .aload_n 0, [0]) :: (43, 3, .invokevirtual 38, [5, 0, 0, 768, 771, 52, 770, 21]) :: (46, 3, .ifCond .eq 31, [77]) :: cd_3_49 from rfl]
        simp only [↓reduceIte, vi_go_c, ↓v1_iadd, ↓v1_isub, ↓v1_imul, ↓v1_iand, ↓v1_idiv, ↓v1_irem, ↓v1_ineg, ↓v1_ladd, ↓v1_lsub, ↓v1_land, ↓v1_lcmp, ↓v1_lshl, ↓v1_lshr, ↓v1_i2l, ↓v1_l2i, ↓v1_iconst_0, ↓v1_iconst_m, ↓v1_bipush, ↓v1_sipush, ↓v1_ldc, ↓v1_ldc_w, ↓v1_lconst, ↓v1_ldc2_w, ↓v1_aconst_null, ↓v1_iload, ↓v1_iload_n, ↓v1_lload, ↓v1_lload_n, ↓v1_aload, ↓v1_aload_n, ↓v1_istore, ↓v1_istore_n, ↓v1_lstore, ↓v1_lstore_n, ↓v1_astore, ↓v1_astore_n, ↓v1_iinc, ↓v1_dup, ↓v1_dup2, ↓v1_ifCond_eq, ↓v1_ifCond_ne, ↓v1_ifCond_lt, ↓v1_ifCond_ge, ↓v1_ifCond_gt, ↓v1_ifCond_le, ↓v1_if_icmp_eq, ↓v1_if_icmp_ne, ↓v1_if_icmp_lt, ↓v1_if_icmp_ge, ↓v1_if_icmp_gt, ↓v1_if_icmp_le, ↓v1_if_acmp_ne, ↓v1_ifnull, ↓v1_ifnonnull, ↓v1_goto, ↓v1_tableswitch_0, ↓v1_return_, ↓v1_ireturn, ↓v1_lreturn, ↓v1_areturn, ↓v1_getfield_0, ↓v1_putfield_0, ↓v1_getstatic, ↓v1_iaload, ↓v1_laload, ↓v1_baload, ↓v1_aaload, ↓v1_iastore, ↓v1_lastore, ↓v1_bastore, ↓v1_aastore_0, ↓v1_arraylength, ↓v1_new_0, ↓v1_newarray, ↓v1_anewarray, ↓v1_invokestatic_0, ↓v1_invokestatic_1, ↓v1_invokestatic_2a, ↓v1_invokevirtual_0, ↓v1_invokespecial_0, ↓v1_invokespecial_1a, ↓v1_invokespecial_1b, ↓vi_ii_e, ↓vi_i_e, ↓vi_jj_e, ↓vi_j_e, ↓vi_ij_e, ↓vi_r_e, ↓vi_rr_e, ↓vi_o_e, ↓vi_ir_e, ↓vi_iir_e, ↓vi_jir_e, ↓vi_rir_e, ↓vi_pop_z, ↓vi_pop_s, ↓vi_sw_n, ↓vi_sw_c, ↓vi_li_z, ↓vi_li_s, ↓vi_ll_z, ↓vi_ll_s, ↓vi_lr_z, ↓vi_lr_s, ↓vi_ret_l, ↓vi_ret_r, vi_sv, vg_set1, vg_set2, vg_lo, List.headD, List.contains_nil, List.contains_cons, Bool.or_false, Bool.false_eq_true, if_false, if_true, Nat.reduceAdd, Nat.reduceBEq, List.nil_append, List.cons_append, List.append_nil, Option.toList, Int32.reduceOfNat, Int64.reduceOfNat, reduceCtorEq, Nat.reduceLeDiff, Nat.le_refl, Nat.zero_le, true_and, and_true, false_or, or_false, or_true, true_or, and_self, not_true_eq_false, not_false_eq_true, forall_const, false_implies, true_implies, Sum.inl.injEq, Sum.inr.injEq, Option.some.injEq, eq_self, oI_1, oI_m, oI_5, oI_L, vi_ws_nil, vi_ws_I, vi_ws_J, vi_ws_R, wi_k, wi_n, wi_r, wi_l, wr_k, wr_n, wr_i, wr_l, wl_k, wl_n, wl_i, wl_r, Nat.reduceSub, Nat.reduceMul, cd_3_0, cd_3_20, cd_3_49, cd_3_77, cd_3_83, at_3_20, at_3_49, at_3_77, at_3_83, mc_3, ms_3, mr_3, mh_3, ml_3, mc_2, ms_2, mc_5, ms_5, mc_6, ms_6, k13]
        refine c_5 (X := grX s r f) (Y := X) K1.2.1 (fun j hj => ⟨p2 j hj, by have := gl (5 - j); omega⟩) (fun j hj => ⟨(a2 j hj).1, by have := (a2 j hj).2; omega⟩) p3 a3 (by omega) (by omega) (fun hb => ?_) (fun hb => ?_)
        · simp only [↓reduceIte, vi_go_c, ↓v1_iadd, ↓v1_isub, ↓v1_imul, ↓v1_iand, ↓v1_idiv, ↓v1_irem, ↓v1_ineg, ↓v1_ladd, ↓v1_lsub, ↓v1_land, ↓v1_lcmp, ↓v1_lshl, ↓v1_lshr, ↓v1_i2l, ↓v1_l2i, ↓v1_iconst_0, ↓v1_iconst_m, ↓v1_bipush, ↓v1_sipush, ↓v1_ldc, ↓v1_ldc_w, ↓v1_lconst, ↓v1_ldc2_w, ↓v1_aconst_null, ↓v1_iload, ↓v1_iload_n, ↓v1_lload, ↓v1_lload_n, ↓v1_aload, ↓v1_aload_n, ↓v1_istore, ↓v1_istore_n, ↓v1_lstore, ↓v1_lstore_n, ↓v1_astore, ↓v1_astore_n, ↓v1_iinc, ↓v1_dup, ↓v1_dup2, ↓v1_ifCond_eq, ↓v1_ifCond_ne, ↓v1_ifCond_lt, ↓v1_ifCond_ge, ↓v1_ifCond_gt, ↓v1_ifCond_le, ↓v1_if_icmp_eq, ↓v1_if_icmp_ne, ↓v1_if_icmp_lt, ↓v1_if_icmp_ge, ↓v1_if_icmp_gt, ↓v1_if_icmp_le, ↓v1_if_acmp_ne, ↓v1_ifnull, ↓v1_ifnonnull, ↓v1_goto, ↓v1_tableswitch_0, ↓v1_return_, ↓v1_ireturn, ↓v1_lreturn, ↓v1_areturn, ↓v1_getfield_0, ↓v1_putfield_0, ↓v1_getstatic, ↓v1_iaload, ↓v1_laload, ↓v1_baload, ↓v1_aaload, ↓v1_iastore, ↓v1_lastore, ↓v1_bastore, ↓v1_aastore_0, ↓v1_arraylength, ↓v1_new_0, ↓v1_newarray, ↓v1_anewarray, ↓v1_invokestatic_0, ↓v1_invokestatic_1, ↓v1_invokestatic_2a, ↓v1_invokevirtual_0, ↓v1_invokespecial_0, ↓v1_invokespecial_1a, ↓v1_invokespecial_1b, ↓vi_ii_e, ↓vi_i_e, ↓vi_jj_e, ↓vi_j_e, ↓vi_ij_e, ↓vi_r_e, ↓vi_rr_e, ↓vi_o_e, ↓vi_ir_e, ↓vi_iir_e, ↓vi_jir_e, ↓vi_rir_e, ↓vi_pop_z, ↓vi_pop_s, ↓vi_sw_n, ↓vi_sw_c, ↓vi_li_z, ↓vi_li_s, ↓vi_ll_z, ↓vi_ll_s, ↓vi_lr_z, ↓vi_lr_s, ↓vi_ret_l, ↓vi_ret_r, vi_sv, vg_set1, vg_set2, vg_lo, List.headD, List.contains_nil, List.contains_cons, Bool.or_false, Bool.false_eq_true, if_false, if_true, Nat.reduceAdd, Nat.reduceBEq, List.nil_append, List.cons_append, List.append_nil, Option.toList, Int32.reduceOfNat, Int64.reduceOfNat, reduceCtorEq, Nat.reduceLeDiff, Nat.le_refl, Nat.zero_le, true_and, and_true, false_or, or_false, or_true, true_or, and_self, not_true_eq_false, not_false_eq_true, forall_const, false_implies, true_implies, Sum.inl.injEq, Sum.inr.injEq, Option.some.injEq, eq_self, oI_1, oI_m, oI_5, oI_L, vi_ws_nil, vi_ws_I, vi_ws_J, vi_ws_R, wi_k, wi_n, wi_r, wi_l, wr_k, wr_n, wr_i, wr_l, wl_k, wl_n, wl_i, wl_r, Nat.reduceSub, Nat.reduceMul, cd_3_0, cd_3_20, cd_3_49, cd_3_77, cd_3_83, at_3_20, at_3_49, at_3_77, at_3_83, mc_3, ms_3, mr_3, mh_3, ml_3, mc_2, ms_2, mc_5, ms_5, mc_6, ms_6, i10]
          exact j49 z (Chs_better hc z hb)
        · simp only [↓reduceIte, vi_go_c, ↓v1_iadd, ↓v1_isub, ↓v1_imul, ↓v1_iand, ↓v1_idiv, ↓v1_irem, ↓v1_ineg, ↓v1_ladd, ↓v1_lsub, ↓v1_land, ↓v1_lcmp, ↓v1_lshl, ↓v1_lshr, ↓v1_i2l, ↓v1_l2i, ↓v1_iconst_0, ↓v1_iconst_m, ↓v1_bipush, ↓v1_sipush, ↓v1_ldc, ↓v1_ldc_w, ↓v1_lconst, ↓v1_ldc2_w, ↓v1_aconst_null, ↓v1_iload, ↓v1_iload_n, ↓v1_lload, ↓v1_lload_n, ↓v1_aload, ↓v1_aload_n, ↓v1_istore, ↓v1_istore_n, ↓v1_lstore, ↓v1_lstore_n, ↓v1_astore, ↓v1_astore_n, ↓v1_iinc, ↓v1_dup, ↓v1_dup2, ↓v1_ifCond_eq, ↓v1_ifCond_ne, ↓v1_ifCond_lt, ↓v1_ifCond_ge, ↓v1_ifCond_gt, ↓v1_ifCond_le, ↓v1_if_icmp_eq, ↓v1_if_icmp_ne, ↓v1_if_icmp_lt, ↓v1_if_icmp_ge, ↓v1_if_icmp_gt, ↓v1_if_icmp_le, ↓v1_if_acmp_ne, ↓v1_ifnull, ↓v1_ifnonnull, ↓v1_goto, ↓v1_tableswitch_0, ↓v1_return_, ↓v1_ireturn, ↓v1_lreturn, ↓v1_areturn, ↓v1_getfield_0, ↓v1_putfield_0, ↓v1_getstatic, ↓v1_iaload, ↓v1_laload, ↓v1_baload, ↓v1_aaload, ↓v1_iastore, ↓v1_lastore, ↓v1_bastore, ↓v1_aastore_0, ↓v1_arraylength, ↓v1_new_0, ↓v1_newarray, ↓v1_anewarray, ↓v1_invokestatic_0, ↓v1_invokestatic_1, ↓v1_invokestatic_2a, ↓v1_invokevirtual_0, ↓v1_invokespecial_0, ↓v1_invokespecial_1a, ↓v1_invokespecial_1b, ↓vi_ii_e, ↓vi_i_e, ↓vi_jj_e, ↓vi_j_e, ↓vi_ij_e, ↓vi_r_e, ↓vi_rr_e, ↓vi_o_e, ↓vi_ir_e, ↓vi_iir_e, ↓vi_jir_e, ↓vi_rir_e, ↓vi_pop_z, ↓vi_pop_s, ↓vi_sw_n, ↓vi_sw_c, ↓vi_li_z, ↓vi_li_s, ↓vi_ll_z, ↓vi_ll_s, ↓vi_lr_z, ↓vi_lr_s, ↓vi_ret_l, ↓vi_ret_r, vi_sv, vg_set1, vg_set2, vg_lo, List.headD, List.contains_nil, List.contains_cons, Bool.or_false, Bool.false_eq_true, if_false, if_true, Nat.reduceAdd, Nat.reduceBEq, List.nil_append, List.cons_append, List.append_nil, Option.toList, Int32.reduceOfNat, Int64.reduceOfNat, reduceCtorEq, Nat.reduceLeDiff, Nat.le_refl, Nat.zero_le, true_and, and_true, false_or, or_false, or_true, true_or, and_self, not_true_eq_false, not_false_eq_true, forall_const, false_implies, true_implies, Sum.inl.injEq, Sum.inr.injEq, Option.some.injEq, eq_self, oI_1, oI_m, oI_5, oI_L, vi_ws_nil, vi_ws_I, vi_ws_J, vi_ws_R, wi_k, wi_n, wi_r, wi_l, wr_k, wr_n, wr_i, wr_l, wl_k, wl_n, wl_i, wl_r, Nat.reduceSub, Nat.reduceMul, cd_3_0, cd_3_20, cd_3_49, cd_3_77, cd_3_83, at_3_20, at_3_49, at_3_77, at_3_83, mc_3, ms_3, mr_3, mh_3, ml_3, mc_2, ms_2, mc_5, ms_5, mc_6, ms_6]
          exact j77 (some X) 1 h1 K1 (Chs_worse hc hb) ⟨rfl, a2, a3, a4⟩
    · refine ⟨fun e => j77 v c h1 K1 (Chs_skip hc z) hv1, fun e => absurd (bI_ne.mp e) z⟩
set_option maxRecDepth 100000 in
theorem c_3 {h : vg_H} {q r : Nat} {s : Nat → Nat} (hq : q < 3) (hr : r ≤ 8000) (hst : ∀ i, i < 6 → S 35 (6 * q + i) = nI (s i) ∧ s i ≤ 500) (hC : CX G b A S h) (hV : CV b A S h) (hQ1 : ∀ X h', Opt s 6 r X → CK G b A S h h' → (∀ j, j < 6 → h'.2.2.1 (b + 14) j = nI (X (5 - j))) → Q (.inl (some (.inl 1))) h') (hQ0 : (∀ y, ¬ Fe s 6 y r) → ∀ h', CK G b A S h h' → Q (.inl (some (.inl 0))) h') : vg_C G (MT 3) [.inr (.inr (some (b + 13))), .inl (nI (5 * r)), .inr (.inr (some (b + 26 + 4 * q)))] h Q := by
  obtain ⟨g1, g2, g3, g4, g5, g6, g7⟩ := hC.2.2.2.2.2.2.2.2.2
  have g8 := g7 2 (by omega)
  rw [coM_5 (5 - 2) (by omega), show 5 * unN (5 - 2) = 50 from rfl] at g8
  obtain ⟨u1, u2, u3, u4, u5, u6, u7, u8, u9, u10, u11, u12, u13, u14, u15, u16, u17⟩ := hC.2.2.2.2.2.2.2.1 q hq
  have u18 := (u17 2 (by omega)).1
  rw [show 5 - 2 = 3 from rfl, (hst 3 (by omega)).1] at u18
  have s3 := (hst 3 (by omega)).2
  have v6 : vp_in 2 6 := vp_nI (i := 2) (n := 6) (by omega) (by omega)
  have c2 : (2 : Int32).toNatClampNeg = 2 := by decide
  refine vg_C_of rfl (by decide +kernel) (Nat.le_of_ble_eq_true rfl) ?_
  refine vi_run ok_3 [20] 40 ?_
  rw [at_3_0]
  simp only [vg_ent, vg_en, List.length_cons, List.length_nil, Nat.reduceAdd, Nat.reduceSub, List.replicate, List.append_nil, List.nil_append, List.cons_append, mn_3]
  simp only [↓reduceIte, vi_go_c, ↓v1_iadd, ↓v1_isub, ↓v1_imul, ↓v1_iand, ↓v1_idiv, ↓v1_irem, ↓v1_ineg, ↓v1_ladd, ↓v1_lsub, ↓v1_land, ↓v1_lcmp, ↓v1_lshl, ↓v1_lshr, ↓v1_i2l, ↓v1_l2i, ↓v1_iconst_0, ↓v1_iconst_m, ↓v1_bipush, ↓v1_sipush, ↓v1_ldc, ↓v1_ldc_w, ↓v1_lconst, ↓v1_ldc2_w, ↓v1_aconst_null, ↓v1_iload, ↓v1_iload_n, ↓v1_lload, ↓v1_lload_n, ↓v1_aload, ↓v1_aload_n, ↓v1_istore, ↓v1_istore_n, ↓v1_lstore, ↓v1_lstore_n, ↓v1_astore, ↓v1_astore_n, ↓v1_iinc, ↓v1_dup, ↓v1_dup2, ↓v1_ifCond_eq, ↓v1_ifCond_ne, ↓v1_ifCond_lt, ↓v1_ifCond_ge, ↓v1_ifCond_gt, ↓v1_ifCond_le, ↓v1_if_icmp_eq, ↓v1_if_icmp_ne, ↓v1_if_icmp_lt, ↓v1_if_icmp_ge, ↓v1_if_icmp_gt, ↓v1_if_icmp_le, ↓v1_if_acmp_ne, ↓v1_ifnull, ↓v1_ifnonnull, ↓v1_goto, ↓v1_tableswitch_0, ↓v1_return_, ↓v1_ireturn, ↓v1_lreturn, ↓v1_areturn, ↓v1_getfield_0, ↓v1_putfield_0, ↓v1_getstatic, ↓v1_iaload, ↓v1_laload, ↓v1_baload, ↓v1_aaload, ↓v1_iastore, ↓v1_lastore, ↓v1_bastore, ↓v1_aastore_0, ↓v1_arraylength, ↓v1_new_0, ↓v1_newarray, ↓v1_anewarray, ↓v1_invokestatic_0, ↓v1_invokestatic_1, ↓v1_invokestatic_2a, ↓v1_invokevirtual_0, ↓v1_invokespecial_0, ↓v1_invokespecial_1a, ↓v1_invokespecial_1b, ↓vi_ii_e, ↓vi_i_e, ↓vi_jj_e, ↓vi_j_e, ↓vi_ij_e, ↓vi_r_e, ↓vi_rr_e, ↓vi_o_e, ↓vi_ir_e, ↓vi_iir_e, ↓vi_jir_e, ↓vi_rir_e, ↓vi_pop_z, ↓vi_pop_s, ↓vi_sw_n, ↓vi_sw_c, ↓vi_li_z, ↓vi_li_s, ↓vi_ll_z, ↓vi_ll_s, ↓vi_lr_z, ↓vi_lr_s, ↓vi_ret_l, ↓vi_ret_r, vi_sv, vg_set1, vg_set2, vg_lo, List.headD, List.contains_nil, List.contains_cons, Bool.or_false, Bool.false_eq_true, if_false, if_true, Nat.reduceAdd, Nat.reduceBEq, List.nil_append, List.cons_append, List.append_nil, Option.toList, Int32.reduceOfNat, Int64.reduceOfNat, reduceCtorEq, Nat.reduceLeDiff, Nat.le_refl, Nat.zero_le, true_and, and_true, false_or, or_false, or_true, true_or, and_self, not_true_eq_false, not_false_eq_true, forall_const, false_implies, true_implies, Sum.inl.injEq, Sum.inr.injEq, Option.some.injEq, eq_self, oI_1, oI_m, oI_5, oI_L, vi_ws_nil, vi_ws_I, vi_ws_J, vi_ws_R, wi_k, wi_n, wi_r, wi_l, wr_k, wr_n, wr_i, wr_l, wl_k, wl_n, wl_i, wl_r, Nat.reduceSub, Nat.reduceMul, cd_3_0, cd_3_20, cd_3_49, cd_3_77, cd_3_83, at_3_20, at_3_49, at_3_77, at_3_83, mc_3, ms_3, mr_3, mh_3, ml_3, mc_2, ms_2, mc_5, ms_5, mc_6, ms_6, g5, g6, g8, v6, c2, u6, u9, u18]
  refine ⟨by decide, fun v1 e1 v2 e2 => ?_⟩
  rw [nI_divN (by omega) (by omega), show 5 * r / 50 = r / 10 by omega] at e1
  subst e1
  rw [nI_minN (by omega) (by omega)] at e2
  subst e2
  exact l_3 hq hr hst hQ1 hQ0 (min (s 3) (r / 10) + 1) 0 none 0 h (by omega) ⟨fr.refl b h, hC, hV⟩ (Chs_0 s r) rfl
/-- recordPayment -/
theorem CX.pay {h : vg_H} (p : CX G b A S h) (hn : S 38 0 = nI (nP S)) (hp : nP S < 170) (v1 v2 v3 : Int32) : CX G b (upA A 5 (nP S) (vg_z h)) (up (up (up (up S 39 (nP S) v1) 40 (nP S) v2) 41 (nP S) v3) 38 0 (S 38 0 + 1)) (vg_wi (vg_wr (vg_wi (vg_wi (vg_wi (vg_new h 5 0) (vg_z h) 0 v1) (vg_z h) 1 v2) (vg_z h) 2 v3) (b + 16) (nP S) (some (vg_z h))) b 10 (S 38 0 + 1)) := by
  have hz := p.1.zz
  have q := CX.fresh (h' := vg_wi (vg_wi (vg_wi (vg_new h 5 0) (vg_z h) 0 v1) (vg_z h) 1 v2) (vg_z h) 2 v3) p (fs_wi (fs_wi (fs_wi (fs_new fs_0 (Nat.le_refl _)) (Nat.le_refl _)) (Nat.le_refl _)) (Nat.le_refl _)) (Nat.le_succ _)
  have hI : ∀ a k, (vg_wi (vg_wi (vg_wi (vg_new h 5 0) (vg_z h) 0 v1) (vg_z h) 1 v2) (vg_z h) 2 v3).2.2.1 a k = if a = vg_z h then (if k = 0 then v1 else if k = 1 then v2 else if k = 2 then v3 else 0) else h.2.2.1 a k := by
    intro a k
    simp only [wi_i, nw_i]
    grind
  have hk : ∀ a, (vg_wi (vg_wi (vg_wi (vg_new h 5 0) (vg_z h) 0 v1) (vg_z h) 1 v2) (vg_z h) 2 v3).1 a = if a = vg_z h then 5 else h.1 a := fun a => nw_k h a 5 0
  have hr : ∀ a k, (vg_wi (vg_wi (vg_wi (vg_new h 5 0) (vg_z h) 0 v1) (vg_z h) 1 v2) (vg_z h) 2 v3).2.2.2.2.1 a k = if a = vg_z h then none else h.2.2.2.2.1 a k := fun a k => nw_r h a k 5 0
  have hzz : vg_z (vg_wi (vg_wi (vg_wi (vg_new h 5 0) (vg_z h) 0 v1) (vg_z h) 1 v2) (vg_z h) 2 v3) = vg_z h + 1 := rfl
  have old := p.2.2.2.2.2.2.2.2.1
  generalize vg_wi (vg_wi (vg_wi (vg_new h 5 0) (vg_z h) 0 v1) (vg_z h) 1 v2) (vg_z h) 2 v3 = h1 at *
  have np : nP (up (up (up S 39 (nP S) v1) 40 (nP S) v2) 41 (nP S) v3) = nP S := by unfold nP; rw [upf (by decide), upf (by decide), upf (by decide)]
  -- the array, and the record
  have q2 : CX G b (upA A 5 (nP S) (vg_z h)) (up (up (up S 39 (nP S) v1) 40 (nP S) v2) 41 (nP S) v3) (vg_wr h1 (b + 16) (nP S) (some (vg_z h))) := by
    refine q.atY rfl rfl rfl (q.1.wr (by omega)) (fun a e1 e2 => ⟨rfl, wr_row e1⟩) (fun g e => upAf (Ne.symm e)) (fun f hf => by rw [upf (by omega), upf (by omega), upf (by omega)]) ?_
    intro i hi
    rw [np] at hi
    have o := old i hi
    have ne : ¬ i = nP S := by omega
    rw [wr_k, wr_i, show vg_z (vg_wr h1 (b + 16) (nP S) (some (vg_z h))) = vg_z h + 1 from hzz]
    simp only [wr_r, up_e, upA_e, hI, hk, hr, ne, and_false, if_false]
    have n1 : ¬ A 5 i = vg_z h := by omega
    have n2 : ¬ b + 16 = vg_z h := by omega
    simp only [n1, n2, if_false]
    obtain ⟨o1, o2, o3, o4, o5⟩ := o
    exact ⟨o1, o2, o3, by omega, o5⟩
  have q16 : (vg_wr h1 (b + 16) (nP S) (some (vg_z h))).2.2.2.2.1 (b + 16) (nP S) = some (vg_z h) := by rw [wr_r, if_pos ⟨rfl, rfl⟩]
  have rcx : (vg_wr h1 (b + 16) (nP S) (some (vg_z h))).1 (vg_z h) = 5 ∧ (vg_wr h1 (b + 16) (nP S) (some (vg_z h))).2.2.1 (vg_z h) 0 = v1 ∧ (vg_wr h1 (b + 16) (nP S) (some (vg_z h))).2.2.1 (vg_z h) 1 = v2 ∧ (vg_wr h1 (b + 16) (nP S) (some (vg_z h))).2.2.1 (vg_z h) 2 = v3 := by
    rw [wr_k, wr_i, hk, hI, hI, hI]; simp
  have z16 : vg_z (vg_wr h1 (b + 16) (nP S) (some (vg_z h))) = vg_z h + 1 := hzz
  have oldY := q2.2.2.2.2.2.2.2.2.1
  have oldI := q2.2.1
  generalize hh2 : vg_wr h1 (b + 16) (nP S) (some (vg_z h)) = h2 at *
  have s39 : up (up (up S 39 (nP S) v1) 40 (nP S) v2) 41 (nP S) v3 39 (nP S) = v1 := by rw [upf (by decide), upf (by decide), up_same]
  have s40 : up (up (up S 39 (nP S) v1) 40 (nP S) v2) 41 (nP S) v3 40 (nP S) = v2 := by rw [upf (by decide), up_same]
  have s41 : up (up (up S 39 (nP S) v1) 40 (nP S) v2) 41 (nP S) v3 41 (nP S) = v3 := by rw [up_same]
  have s38 : up (up (up S 39 (nP S) v1) 40 (nP S) v2) 41 (nP S) v3 38 0 = S 38 0 := by rw [upf (by decide), upf (by decide), upf (by decide)]
  have a5 : upA A 5 (nP S) (vg_z h) 5 (nP S) = vg_z h := by simp [upA_e]
  generalize hS1 : up (up (up S 39 (nP S) v1) 40 (nP S) v2) 41 (nP S) v3 = S1 at *
  generalize hA1 : upA A 5 (nP S) (vg_z h) = A1 at *
  have np2 : nP (up S1 38 0 (S 38 0 + 1)) = nP S + 1 := by
    show (up S1 38 0 (S 38 0 + 1) 38 0).toNatClampNeg = nP S + 1
    rw [up_same, hn, nI_1, nI_clamp (by omega)]
  refine q2.atI rfl rfl rfl q2.1.wi (fun a e => ⟨wi_row e, rfl⟩) rfl (fun f e1 e2 e3 e4 => upf (Ne.symm e4)) ?_ ?_ ?_
  · unfold cxI at *
    have f : ∀ g, ¬ 38 = g → up S1 38 0 (S 38 0 + 1) g = S1 g := fun g hg => upf hg
    rw [f 13 (by decide), f 2 (by decide), f 1 (by decide), up_same]
    simp only [wi_i]
    simp only [true_and, if_true, Nat.reduceEqDiff, if_false]
    exact ⟨oldI.1, oldI.2.2.1, oldI.2.2.2⟩
  · exact (q2.2.2.2.2.1.wi (by have := q2.1.1; omega)).up (by decide)
  · intro i hi
    rw [np2] at hi
    have f : ∀ g, ¬ 38 = g → up S1 38 0 (S 38 0 + 1) g = S1 g := fun g hg => upf hg
    rw [f 39 (by decide), f 40 (by decide), f 41 (by decide), wi_k, wi_r, show vg_z (vg_wi h2 b 10 (S 38 0 + 1)) = vg_z h2 from rfl]
    by_cases e : i = nP S
    · subst e
      have nb : ¬ vg_z h = b := by omega
      rw [a5, wi_row nb, s39, s40, s41]
      exact ⟨q16, rcx.1, by omega, by omega, rcx.2.1, rcx.2.2.1, rcx.2.2.2⟩
    · have o := oldY i (by rw [np]; omega)
      have nb : ¬ A1 5 i = b := by omega
      rw [wi_row nb]
      exact o
end CFD
