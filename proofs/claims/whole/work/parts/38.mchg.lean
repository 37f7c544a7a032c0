/-! ===== the model: change ===== -/
def encO : Option Nat → Int32
  | none => -1
  | some n => nI n
/-- machine q's stock -/
def stk (S : SS) (q : Nat) : Nat → Nat := fun k => (S 35 (6 * q + k)).toNatClampNeg
def TB (b : Nat) (h : vg_H) (s : Nat → Nat) (k n : Nat) : Prop := ∀ r, r < n → ∃ v, FWn s k r v ∧ h.2.2.1 (ar b 50) (8001 * k + r) = encO v
theorem smN_le {x : Nat → Nat} {B : Nat} : ∀ (k : Nat), (∀ i, i < k → x i ≤ B) → smN x k ≤ B * k
  | 0, _ => Nat.zero_le _
  | k + 1, h => by
    have h1 := smN_le k (fun i hi => h i (by omega))
    have h2 := h k (by omega)
    show smN x k + x k ≤ B * (k + 1)
    rw [Nat.mul_succ]; omega
theorem FWn_le {s : Nat → Nat} {k r d : Nat} (hs : ∀ i, i < k → s i ≤ 500) (h : FWn s k r (some d)) : d ≤ 500 * k := by
  rcases h with ⟨h1, _⟩ | ⟨x, x1, x2, _⟩
  · cases h1
  · have e : d = smN x k := by injection x2
    rw [e]
    exact smN_le k (fun i hi => Nat.le_trans (x1.1 i hi) (hs i hi))
theorem FWn_0 (s : Nat → Nat) (r : Nat) : FWn s 0 r (if r = 0 then some 0 else none) := by
  by_cases e : r = 0
  · rw [if_pos e]
    exact Or.inr ⟨fun _ => 0, ⟨fun i hi => by omega, e.symm⟩, rfl, fun y _ => Nat.zero_le _⟩
  · rw [if_neg e]
    exact Or.inl ⟨rfl, fun x hx => e hx.2.symm⟩
theorem TB.set {b : Nat} {h : vg_H} {s : Nat → Nat} {k n : Nat} (p : TB b h s k n) {k' r' : Nat} (hr : r' ≤ 8000) (hn : n ≤ 8001) (hd : ¬ k' = k ∨ n ≤ r') (v : Int32) : TB b (vg_wi h (ar b 50) (8001 * k' + r') v) s k n := by
  intro r hr2
  obtain ⟨v', v1, v2⟩ := p r hr2
  exact ⟨v', v1, by rw [wi_i, if_neg (fun z => by omega)]; exact v2⟩
theorem TB.ext {b : Nat} {h : vg_H} {s : Nat → Nat} {k n : Nat} (p : TB b h s k n) (hn : n ≤ 8000) {v : Option Nat} (hv : FWn s k n v) : TB b (vg_wi h (ar b 50) (8001 * k + n) (encO v)) s k (n + 1) := by
  intro r hr
  by_cases e : r = n
  · subst e
    exact ⟨v, hv, by rw [wi_i, if_pos ⟨rfl, rfl⟩]⟩
  · obtain ⟨v', v1, v2⟩ := p r (by omega)
    exact ⟨v', v1, by rw [wi_i, if_neg (fun z => by omega)]; exact v2⟩
theorem coM_un : ∀ k, k < 6 → coM k / 5 = nI (unN k) := by decide
theorem unN_b (k : Nat) : 1 ≤ unN k ∧ unN k ≤ 40 := by
  unfold unN; split <;> omega
theorem enc_neg (v : Option Nat) (hv : ∀ n, v = some n → n < 2 ^ 31) : encO v < 0 ↔ v = none := by
  cases v with
  | none => exact ⟨fun _ => rfl, fun _ => by decide⟩
  | some n => exact ⟨fun h => absurd h (nI_pos (hv n rfl)), fun h => by cases h⟩
section MK
variable {G : vg_G} {b : Nat} {h0 : vg_H} {w : Int32} {Q : vg_O → vg_H → Prop}
set_option maxRecDepth 100000 in
/-- the first row -/
theorem l_114a {S : SS} {q R : Nat} {s : Nat → Nat} (hR : R ≤ 8000) (hQ : ∀ h', MP b S w h0 h' → TB b h' s 0 (R + 1) → vg_A G (MT 114) 0 0 28 [some (.inr (.inr (some (b + 37)))), some (.inl (nI q)), some (.inl (nI R)), none, none, none, none, none, none] [] h' Q) : ∀ (n i : Nat) (h : vg_H), i + n = R + 1 → MP b S w h0 h → TB b h s 0 i →
    vg_A G (MT 114) 0 0 2 [some (.inr (.inr (some (b + 37)))), some (.inl (nI q)), some (.inl (nI R)), some (.inl (nI i)), none, none, none, none, none] [] h Q := by
  intro n
  induction n with
  | zero =>
    intro i h hi hP hT
    have e1 : nI R < nI i := nI_lt (by omega) (by omega)
    refine vi_run ok_114 [28, 7] 40 ?_
    rw [at_114_2]
    simp only [↓reduceIte, vi_go_c, ↓v1_iadd, ↓v1_isub, ↓v1_imul, ↓v1_iand, ↓v1_idiv, ↓v1_irem, ↓v1_ineg, ↓v1_ladd, ↓v1_lsub, ↓v1_land, ↓v1_lcmp, ↓v1_lshl, ↓v1_lshr, ↓v1_i2l, ↓v1_l2i, ↓v1_iconst_0, ↓v1_iconst_m, ↓v1_bipush, ↓v1_sipush, ↓v1_ldc, ↓v1_ldc_w, ↓v1_lconst, ↓v1_ldc2_w, ↓v1_aconst_null, ↓v1_iload, ↓v1_iload_n, ↓v1_lload, ↓v1_lload_n, ↓v1_aload, ↓v1_aload_n, ↓v1_istore, ↓v1_istore_n, ↓v1_lstore, ↓v1_lstore_n, ↓v1_astore, ↓v1_astore_n, ↓v1_iinc, ↓v1_dup, ↓v1_dup2, ↓v1_ifCond_eq, ↓v1_ifCond_ne, ↓v1_ifCond_lt, ↓v1_ifCond_ge, ↓v1_ifCond_gt, ↓v1_ifCond_le, ↓v1_if_icmp_eq, ↓v1_if_icmp_ne, ↓v1_if_icmp_lt, ↓v1_if_icmp_ge, ↓v1_if_icmp_gt, ↓v1_if_icmp_le, ↓v1_if_acmp_ne, ↓v1_ifnull, ↓v1_ifnonnull, ↓v1_goto, ↓v1_tableswitch_0, ↓v1_return_, ↓v1_ireturn, ↓v1_lreturn, ↓v1_areturn, ↓v1_getfield_0, ↓v1_putfield_0, ↓v1_getstatic, ↓v1_iaload, ↓v1_laload, ↓v1_baload, ↓v1_aaload, ↓v1_iastore, ↓v1_lastore, ↓v1_bastore, ↓v1_aastore_0, ↓v1_arraylength, ↓v1_new_0, ↓v1_newarray, ↓v1_anewarray, ↓v1_invokestatic_0, ↓v1_invokestatic_1, ↓v1_invokestatic_2a, ↓v1_invokevirtual_0, ↓v1_invokespecial_0, ↓v1_invokespecial_1a, ↓v1_invokespecial_1b, ↓vi_ii_e, ↓vi_i_e, ↓vi_jj_e, ↓vi_j_e, ↓vi_ij_e, ↓vi_r_e, ↓vi_rr_e, ↓vi_o_e, ↓vi_ir_e, ↓vi_iir_e, ↓vi_jir_e, ↓vi_rir_e, ↓vi_pop_z, ↓vi_pop_s, ↓vi_sw_n, ↓vi_sw_c, ↓vi_li_z, ↓vi_li_s, ↓vi_ll_z, ↓vi_ll_s, ↓vi_lr_z, ↓vi_lr_s, ↓vi_ret_l, ↓vi_ret_r, vi_sv, vg_set1, vg_set2, vg_lo, List.headD, List.contains_nil, List.contains_cons, Bool.or_false, Bool.false_eq_true, if_false, if_true, Nat.reduceAdd, Nat.reduceBEq, List.nil_append, List.cons_append, List.append_nil, Option.toList, Int32.reduceOfNat, Int64.reduceOfNat, reduceCtorEq, Nat.reduceLeDiff, Nat.le_refl, Nat.zero_le, true_and, and_true, false_or, or_false, or_true, true_or, and_self, not_true_eq_false, not_false_eq_true, forall_const, false_implies, true_implies, Sum.inl.injEq, Sum.inr.injEq, Option.some.injEq, eq_self, oI_1, oI_m, oI_5, oI_L, vi_ws_nil, vi_ws_I, vi_ws_J, vi_ws_R, wi_k, wi_n, wi_r, wi_l, wr_k, wr_n, wr_i, wr_l, wl_k, wl_n, wl_i, wl_r, Nat.reduceSub, Nat.reduceMul, cd_114_0, cd_114_2, cd_114_20, cd_114_21, cd_114_28, cd_114_30, cd_114_47, cd_114_59, cd_114_126, cd_114_134, cd_114_136, cd_114_144, cd_114_167, cd_114_173, at_114_2, at_114_20, at_114_21, at_114_28, at_114_30, at_114_47, at_114_59, at_114_126, at_114_134, at_114_136, at_114_144, at_114_167, at_114_173, mc_114, ms_114, mr_114, mh_114, ml_114, mc_104, ms_104, e1]
    exact vr_less (vr_none 3 rfl) (hQ h hP (by rw [show R + 1 = i by omega]; exact hT))
  | succ n ih =>
    intro i h hi hP hT
    have hM := hP.mx
    have k0 : (h).1 (b + 37) = 11 := hM.1
    have r50 : (h).2.2.2.2.1 (b + 37) 50 = some (ar b 50) := (hM.2.1 50 (by decide)).1
    have k50 : (h).1 (ar b 50) = 100 := (hM.2.1 50 (by decide)).2.1
    have n50 : (h).2.1 (ar b 50) = 56007 := (hM.2.1 50 (by decide)).2.2
    have e1 : ¬ nI R < nI i := nI_nlt (by omega) (by omega)
    have y1 := nI_clamp (show i < 2 ^ 31 by omega)
    have y2 : vp_in (nI i) 56007 := vp_nI (by omega) (by omega)
    refine vi_run ok_114 [2] 40 ?_
    rw [at_114_2]
    simp only [↓reduceIte, vi_go_c, ↓v1_iadd, ↓v1_isub, ↓v1_imul, ↓v1_iand, ↓v1_idiv, ↓v1_irem, ↓v1_ineg, ↓v1_ladd, ↓v1_lsub, ↓v1_land, ↓v1_lcmp, ↓v1_lshl, ↓v1_lshr, ↓v1_i2l, ↓v1_l2i, ↓v1_iconst_0, ↓v1_iconst_m, ↓v1_bipush, ↓v1_sipush, ↓v1_ldc, ↓v1_ldc_w, ↓v1_lconst, ↓v1_ldc2_w, ↓v1_aconst_null, ↓v1_iload, ↓v1_iload_n, ↓v1_lload, ↓v1_lload_n, ↓v1_aload, ↓v1_aload_n, ↓v1_istore, ↓v1_istore_n, ↓v1_lstore, ↓v1_lstore_n, ↓v1_astore, ↓v1_astore_n, ↓v1_iinc, ↓v1_dup, ↓v1_dup2, ↓v1_ifCond_eq, ↓v1_ifCond_ne, ↓v1_ifCond_lt, ↓v1_ifCond_ge, ↓v1_ifCond_gt, ↓v1_ifCond_le, ↓v1_if_icmp_eq, ↓v1_if_icmp_ne, ↓v1_if_icmp_lt, ↓v1_if_icmp_ge, ↓v1_if_icmp_gt, ↓v1_if_icmp_le, ↓v1_if_acmp_ne, ↓v1_ifnull, ↓v1_ifnonnull, ↓v1_goto, ↓v1_tableswitch_0, ↓v1_return_, ↓v1_ireturn, ↓v1_lreturn, ↓v1_areturn, ↓v1_getfield_0, ↓v1_putfield_0, ↓v1_getstatic, ↓v1_iaload, ↓v1_laload, ↓v1_baload, ↓v1_aaload, ↓v1_iastore, ↓v1_lastore, ↓v1_bastore, ↓v1_aastore_0, ↓v1_arraylength, ↓v1_new_0, ↓v1_newarray, ↓v1_anewarray, ↓v1_invokestatic_0, ↓v1_invokestatic_1, ↓v1_invokestatic_2a, ↓v1_invokevirtual_0, ↓v1_invokespecial_0, ↓v1_invokespecial_1a, ↓v1_invokespecial_1b, ↓vi_ii_e, ↓vi_i_e, ↓vi_jj_e, ↓vi_j_e, ↓vi_ij_e, ↓vi_r_e, ↓vi_rr_e, ↓vi_o_e, ↓vi_ir_e, ↓vi_iir_e, ↓vi_jir_e, ↓vi_rir_e, ↓vi_pop_z, ↓vi_pop_s, ↓vi_sw_n, ↓vi_sw_c, ↓vi_li_z, ↓vi_li_s, ↓vi_ll_z, ↓vi_ll_s, ↓vi_lr_z, ↓vi_lr_s, ↓vi_ret_l, ↓vi_ret_r, vi_sv, vg_set1, vg_set2, vg_lo, List.headD, List.contains_nil, List.contains_cons, Bool.or_false, Bool.false_eq_true, if_false, if_true, Nat.reduceAdd, Nat.reduceBEq, List.nil_append, List.cons_append, List.append_nil, Option.toList, Int32.reduceOfNat, Int64.reduceOfNat, reduceCtorEq, Nat.reduceLeDiff, Nat.le_refl, Nat.zero_le, true_and, and_true, false_or, or_false, or_true, true_or, and_self, not_true_eq_false, not_false_eq_true, forall_const, false_implies, true_implies, Sum.inl.injEq, Sum.inr.injEq, Option.some.injEq, eq_self, oI_1, oI_m, oI_5, oI_L, vi_ws_nil, vi_ws_I, vi_ws_J, vi_ws_R, wi_k, wi_n, wi_r, wi_l, wr_k, wr_n, wr_i, wr_l, wl_k, wl_n, wl_i, wl_r, Nat.reduceSub, Nat.reduceMul, cd_114_0, cd_114_2, cd_114_20, cd_114_21, cd_114_28, cd_114_30, cd_114_47, cd_114_59, cd_114_126, cd_114_134, cd_114_136, cd_114_144, cd_114_167, cd_114_173, at_114_2, at_114_20, at_114_21, at_114_28, at_114_30, at_114_47, at_114_59, at_114_126, at_114_134, at_114_136, at_114_144, at_114_167, at_114_173, mc_114, ms_114, mr_114, mh_114, ml_114, mc_104, ms_104, k0, r50, k50, n50, e1, y1, y2]
    have x0 := hT.ext (by omega) (FWn_0 s i)
    rw [show 8001 * 0 + i = i by omega] at x0
    refine ⟨fun e2 v ev => ?_, fun e2 v ev => ?_⟩ <;> (rw [← nI_succ] at ev; subst ev)
    · have ne : ¬ i = 0 := fun z => e2 (by rw [z]; rfl)
      rw [if_neg ne] at x0
      exact ih (i + 1) _ (by omega) (hP.scr 50 (by decide) rfl _ _) x0
    · have ne : i = 0 := by
        rcases Nat.eq_zero_or_pos i with z | z
        · exact z
        · exact absurd (nI_ne0 z (by omega)) e2
      rw [if_pos ne] at x0
      exact ih (i + 1) _ (by omega) (hP.scr 50 (by decide) rfl _ _) x0
set_option maxRecDepth 100000 in
/-- the innermost loop -/
theorem l_114j {S : SS} {q R k sm : Nat} {s : Nat → Nat} (hq : q < 3) (hk : k < 6) (hR : R ≤ 8000) (hsm : sm ≤ R) (hb : ∀ i, i < 6 → S 35 (6 * q + i) = nI (s i) ∧ s i ≤ 500) {h : vg_H} (hP : MP b S w h0 h) (hT : TB b h s k (R + 1)) (hQ : ∀ v, FWn s (k + 1) sm v → vg_A G (MT 114) 0 0 144 [some (.inr (.inr (some (b + 37)))), some (.inl (nI q)), some (.inl (nI R)), some (.inl (nI k)), some (.inl (nI (unN k))), some (.inl (nI sm)), some (.inl (encO v)), none, none] [] h Q) : ∀ (n j : Nat) (v : Option Nat), j + n = s k + 1 → FWj s k sm j v →
    vg_A G (MT 114) 0 0 59 [some (.inr (.inr (some (b + 37)))), some (.inl (nI q)), some (.inl (nI R)), some (.inl (nI k)), some (.inl (nI (unN k))), some (.inl (nI sm)), some (.inl (encO v)), some (.inl (nI j)), none] [] h Q := by
  have hM := hP.mx
  have k0 : (h).1 (b + 37) = 11 := hM.1
  have r35 : (h).2.2.2.2.1 (b + 37) 35 = some (ar b 35) := (hM.2.1 35 (by decide)).1
  have k35 : (h).1 (ar b 35) = 100 := (hM.2.1 35 (by decide)).2.1
  have n35 : (h).2.1 (ar b 35) = 18 := (hM.2.1 35 (by decide)).2.2
  have r50 : (h).2.2.2.2.1 (b + 37) 50 = some (ar b 50) := (hM.2.1 50 (by decide)).1
  have k50 : (h).1 (ar b 50) = 100 := (hM.2.1 50 (by decide)).2.1
  have n50 : (h).2.1 (ar b 50) = 56007 := (hM.2.1 50 (by decide)).2.2
  obtain ⟨g1, g2⟩ := hb k hk
  have ub := unN_b k
  have f35 := hM.2.2.1 35 (6 * q + k) (show _ < 18 by omega) rfl
  rw [g1] at f35
  have y1 := nI_clamp (show 6 * q + k < 2 ^ 31 by omega)
  have y2 : vp_in (nI (6 * q + k)) 18 := vp_nI (by omega) (by omega)
  intro n
  induction n with
  | zero =>
    intro j v hj hv
    refine vi_run ok_114 [144, 75] 40 ?_
    rw [at_114_59]
    simp only [↓reduceIte, vi_go_c, ↓v1_iadd, ↓v1_isub, ↓v1_imul, ↓v1_iand, ↓v1_idiv, ↓v1_irem, ↓v1_ineg, ↓v1_ladd, ↓v1_lsub, ↓v1_land, ↓v1_lcmp, ↓v1_lshl, ↓v1_lshr, ↓v1_i2l, ↓v1_l2i, ↓v1_iconst_0, ↓v1_iconst_m, ↓v1_bipush, ↓v1_sipush, ↓v1_ldc, ↓v1_ldc_w, ↓v1_lconst, ↓v1_ldc2_w, ↓v1_aconst_null, ↓v1_iload, ↓v1_iload_n, ↓v1_lload, ↓v1_lload_n, ↓v1_aload, ↓v1_aload_n, ↓v1_istore, ↓v1_istore_n, ↓v1_lstore, ↓v1_lstore_n, ↓v1_astore, ↓v1_astore_n, ↓v1_iinc, ↓v1_dup, ↓v1_dup2, ↓v1_ifCond_eq, ↓v1_ifCond_ne, ↓v1_ifCond_lt, ↓v1_ifCond_ge, ↓v1_ifCond_gt, ↓v1_ifCond_le, ↓v1_if_icmp_eq, ↓v1_if_icmp_ne, ↓v1_if_icmp_lt, ↓v1_if_icmp_ge, ↓v1_if_icmp_gt, ↓v1_if_icmp_le, ↓v1_if_acmp_ne, ↓v1_ifnull, ↓v1_ifnonnull, ↓v1_goto, ↓v1_tableswitch_0, ↓v1_return_, ↓v1_ireturn, ↓v1_lreturn, ↓v1_areturn, ↓v1_getfield_0, ↓v1_putfield_0, ↓v1_getstatic, ↓v1_iaload, ↓v1_laload, ↓v1_baload, ↓v1_aaload, ↓v1_iastore, ↓v1_lastore, ↓v1_bastore, ↓v1_aastore_0, ↓v1_arraylength, ↓v1_new_0, ↓v1_newarray, ↓v1_anewarray, ↓v1_invokestatic_0, ↓v1_invokestatic_1, ↓v1_invokestatic_2a, ↓v1_invokevirtual_0, ↓v1_invokespecial_0, ↓v1_invokespecial_1a, ↓v1_invokespecial_1b, ↓vi_ii_e, ↓vi_i_e, ↓vi_jj_e, ↓vi_j_e, ↓vi_ij_e, ↓vi_r_e, ↓vi_rr_e, ↓vi_o_e, ↓vi_ir_e, ↓vi_iir_e, ↓vi_jir_e, ↓vi_rir_e, ↓vi_pop_z, ↓vi_pop_s, ↓vi_sw_n, ↓vi_sw_c, ↓vi_li_z, ↓vi_li_s, ↓vi_ll_z, ↓vi_ll_s, ↓vi_lr_z, ↓vi_lr_s, ↓vi_ret_l, ↓vi_ret_r, vi_sv, vg_set1, vg_set2, vg_lo, List.headD, List.contains_nil, List.contains_cons, Bool.or_false, Bool.false_eq_true, if_false, if_true, Nat.reduceAdd, Nat.reduceBEq, List.nil_append, List.cons_append, List.append_nil, Option.toList, Int32.reduceOfNat, Int64.reduceOfNat, reduceCtorEq, Nat.reduceLeDiff, Nat.le_refl, Nat.zero_le, true_and, and_true, false_or, or_false, or_true, true_or, and_self, not_true_eq_false, not_false_eq_true, forall_const, false_implies, true_implies, Sum.inl.injEq, Sum.inr.injEq, Option.some.injEq, eq_self, oI_1, oI_m, oI_5, oI_L, vi_ws_nil, vi_ws_I, vi_ws_J, vi_ws_R, wi_k, wi_n, wi_r, wi_l, wr_k, wr_n, wr_i, wr_l, wl_k, wl_n, wl_i, wl_r, Nat.reduceSub, Nat.reduceMul, cd_114_0, cd_114_2, cd_114_20, cd_114_21, cd_114_28, cd_114_30, cd_114_47, cd_114_59, cd_114_126, cd_114_134, cd_114_136, cd_114_144, cd_114_167, cd_114_173, at_114_2, at_114_20, at_114_21, at_114_28, at_114_30, at_114_47, at_114_59, at_114_126, at_114_134, at_114_136, at_114_144, at_114_167, at_114_173, mc_114, ms_114, mr_114, mh_114, ml_114, mc_104, ms_104, k0, r35, k35, n35]
    intro x1 q1 x2 q2
    rw [show (6 : Int32) = nI 6 from rfl, nI_m] at q1
    subst q1
    rw [nI_add] at q2
    subst q2
    rw [y1, f35]
    refine ⟨y2, fun e => ?_, fun e => absurd (nI_lt (by omega) (by omega)) e⟩
    exact vr_less (vr_none 7 rfl) (hQ v (FWj_end hv (Or.inl (by omega))))
  | succ n ih =>
    intro j v hj hv
    have vs : ∀ a, v = some a → a ≤ 3000 := by
      intro a ha
      rw [ha] at hv
      rcases hv with ⟨z, _⟩ | ⟨x, x1, _, x2, _⟩
      · cases z
      · have e : a = smN x (k + 1) := by injection x2
        rw [e]
        have := smN_le (B := 500) (k + 1) (fun i hi => Nat.le_trans (x1.1 i hi) (hb i (by omega)).2)
        omega
    have jub : j * unN k ≤ 500 * 40 := Nat.mul_le_mul (by omega) ub.2
    have nx : ∀ v', FWj s k sm (j + 1) v' → ∀ (u : Option vg_V), vg_A G (MT 114) 0 0 136 [some (.inr (.inr (some (b + 37)))), some (.inl (nI q)), some (.inl (nI R)), some (.inl (nI k)), some (.inl (nI (unN k))), some (.inl (nI sm)), some (.inl (encO v)), some (.inl (nI j)), u] [.inl (encO v')] h Q := by
      intro v' hv' u
      refine vi_run ok_114 [59] 20 ?_
      rw [at_114_136]
      simp only [↓reduceIte, vi_go_c, ↓v1_iadd, ↓v1_isub, ↓v1_imul, ↓v1_iand, ↓v1_idiv, ↓v1_irem, ↓v1_ineg, ↓v1_ladd, ↓v1_lsub, ↓v1_land, ↓v1_lcmp, ↓v1_lshl, ↓v1_lshr, ↓v1_i2l, ↓v1_l2i, ↓v1_iconst_0, ↓v1_iconst_m, ↓v1_bipush, ↓v1_sipush, ↓v1_ldc, ↓v1_ldc_w, ↓v1_lconst, ↓v1_ldc2_w, ↓v1_aconst_null, ↓v1_iload, ↓v1_iload_n, ↓v1_lload, ↓v1_lload_n, ↓v1_aload, ↓v1_aload_n, ↓v1_istore, ↓v1_istore_n, ↓v1_lstore, ↓v1_lstore_n, ↓v1_astore, ↓v1_astore_n, ↓v1_iinc, ↓v1_dup, ↓v1_dup2, ↓v1_ifCond_eq, ↓v1_ifCond_ne, ↓v1_ifCond_lt, ↓v1_ifCond_ge, ↓v1_ifCond_gt, ↓v1_ifCond_le, ↓v1_if_icmp_eq, ↓v1_if_icmp_ne, ↓v1_if_icmp_lt, ↓v1_if_icmp_ge, ↓v1_if_icmp_gt, ↓v1_if_icmp_le, ↓v1_if_acmp_ne, ↓v1_ifnull, ↓v1_ifnonnull, ↓v1_goto, ↓v1_tableswitch_0, ↓v1_return_, ↓v1_ireturn, ↓v1_lreturn, ↓v1_areturn, ↓v1_getfield_0, ↓v1_putfield_0, ↓v1_getstatic, ↓v1_iaload, ↓v1_laload, ↓v1_baload, ↓v1_aaload, ↓v1_iastore, ↓v1_lastore, ↓v1_bastore, ↓v1_aastore_0, ↓v1_arraylength, ↓v1_new_0, ↓v1_newarray, ↓v1_anewarray, ↓v1_invokestatic_0, ↓v1_invokestatic_1, ↓v1_invokestatic_2a, ↓v1_invokevirtual_0, ↓v1_invokespecial_0, ↓v1_invokespecial_1a, ↓v1_invokespecial_1b, ↓vi_ii_e, ↓vi_i_e, ↓vi_jj_e, ↓vi_j_e, ↓vi_ij_e, ↓vi_r_e, ↓vi_rr_e, ↓vi_o_e, ↓vi_ir_e, ↓vi_iir_e, ↓vi_jir_e, ↓vi_rir_e, ↓vi_pop_z, ↓vi_pop_s, ↓vi_sw_n, ↓vi_sw_c, ↓vi_li_z, ↓vi_li_s, ↓vi_ll_z, ↓vi_ll_s, ↓vi_lr_z, ↓vi_lr_s, ↓vi_ret_l, ↓vi_ret_r, vi_sv, vg_set1, vg_set2, vg_lo, List.headD, List.contains_nil, List.contains_cons, Bool.or_false, Bool.false_eq_true, if_false, if_true, Nat.reduceAdd, Nat.reduceBEq, List.nil_append, List.cons_append, List.append_nil, Option.toList, Int32.reduceOfNat, Int64.reduceOfNat, reduceCtorEq, Nat.reduceLeDiff, Nat.le_refl, Nat.zero_le, true_and, and_true, false_or, or_false, or_true, true_or, and_self, not_true_eq_false, not_false_eq_true, forall_const, false_implies, true_implies, Sum.inl.injEq, Sum.inr.injEq, Option.some.injEq, eq_self, oI_1, oI_m, oI_5, oI_L, vi_ws_nil, vi_ws_I, vi_ws_J, vi_ws_R, wi_k, wi_n, wi_r, wi_l, wr_k, wr_n, wr_i, wr_l, wl_k, wl_n, wl_i, wl_r, Nat.reduceSub, Nat.reduceMul, cd_114_0, cd_114_2, cd_114_20, cd_114_21, cd_114_28, cd_114_30, cd_114_47, cd_114_59, cd_114_126, cd_114_134, cd_114_136, cd_114_144, cd_114_167, cd_114_173, at_114_2, at_114_20, at_114_21, at_114_28, at_114_30, at_114_47, at_114_59, at_114_126, at_114_134, at_114_136, at_114_144, at_114_167, at_114_173, mc_114, ms_114, mr_114, mh_114, ml_114, mc_104, ms_104]
      intro x1 q1
      rw [← nI_succ] at q1; subst q1
      exact vr_less (vr_none 8 rfl) (ih (j + 1) v' (by omega) hv')
    have j85 : j * unN k ≤ sm → vg_A G (MT 114) 0 0 85 [some (.inr (.inr (some (b + 37)))), some (.inl (nI q)), some (.inl (nI R)), some (.inl (nI k)), some (.inl (nI (unN k))), some (.inl (nI sm)), some (.inl (encO v)), some (.inl (nI j)), none] [] h Q := by
      intro hju
      obtain ⟨o, o1, o2⟩ := hT (sm - j * unN k) (by omega)
      refine vi_run ok_114 [136] 40 ?_
      rw [show vi_at cd_114 85 = (85, 1, .aload_n 0, [0]) :: (86, 3, .getfield 137, [10, 50, 2, 946]) :: (89, 3, .sipush 8001, [8001]) :: (92, 1, .iload_n 3, [3]) :: (93, 1, .imul, []) :: (94, 2, .iload 5, [5]) :: (96, 1, .iadd, []) :: (97, 2, .iload 7, [7]) :: (99, 2, .iload 4, [4]) :: (101, 1, .imul, []) :: (102, 1, .isub, []) :: (103, 1, .iaload, []) :: (104, 2, .istore 8, [8]) :: (106, 2, .iload 8, [8]) :: (108, 3, .ifCond .lt 26, [134]) :: (111, 2, .iload 6, [6]) :: (113, 3, .ifCond .lt 13, [126]) :: (116, 2, .iload 8, [8]) :: (118, 2, .iload 7, [7]) :: (120, 1, .iadd, []) :: (121, 2, .iload 6, [6]) :: (123, 3, .if_icmp .ge 11, [134]) :: cd_114_126 from rfl]
      simp only [↓reduceIte, vi_go_c, ↓v1_iadd, ↓v1_isub, ↓v1_imul, ↓v1_iand, ↓v1_idiv, ↓v1_irem, ↓v1_ineg, ↓v1_ladd, ↓v1_lsub, ↓v1_land, ↓v1_lcmp, ↓v1_lshl, ↓v1_lshr, ↓v1_i2l, ↓v1_l2i, ↓v1_iconst_0, ↓v1_iconst_m, ↓v1_bipush, ↓v1_sipush, ↓v1_ldc, ↓v1_ldc_w, ↓v1_lconst, ↓v1_ldc2_w, ↓v1_aconst_null, ↓v1_iload, ↓v1_iload_n, ↓v1_lload, ↓v1_lload_n, ↓v1_aload, ↓v1_aload_n, ↓v1_istore, ↓v1_istore_n, ↓v1_lstore, ↓v1_lstore_n, ↓v1_astore, ↓v1_astore_n, ↓v1_iinc, ↓v1_dup, ↓v1_dup2, ↓v1_ifCond_eq, ↓v1_ifCond_ne, ↓v1_ifCond_lt, ↓v1_ifCond_ge, ↓v1_ifCond_gt, ↓v1_ifCond_le, ↓v1_if_icmp_eq, ↓v1_if_icmp_ne, ↓v1_if_icmp_lt, ↓v1_if_icmp_ge, ↓v1_if_icmp_gt, ↓v1_if_icmp_le, ↓v1_if_acmp_ne, ↓v1_ifnull, ↓v1_ifnonnull, ↓v1_goto, ↓v1_tableswitch_0, ↓v1_return_, ↓v1_ireturn, ↓v1_lreturn, ↓v1_areturn, ↓v1_getfield_0, ↓v1_putfield_0, ↓v1_getstatic, ↓v1_iaload, ↓v1_laload, ↓v1_baload, ↓v1_aaload, ↓v1_iastore, ↓v1_lastore, ↓v1_bastore, ↓v1_aastore_0, ↓v1_arraylength, ↓v1_new_0, ↓v1_newarray, ↓v1_anewarray, ↓v1_invokestatic_0, ↓v1_invokestatic_1, ↓v1_invokestatic_2a, ↓v1_invokevirtual_0, ↓v1_invokespecial_0, ↓v1_invokespecial_1a, ↓v1_invokespecial_1b, ↓vi_ii_e, ↓vi_i_e, ↓vi_jj_e, ↓vi_j_e, ↓vi_ij_e, ↓vi_r_e, ↓vi_rr_e, ↓vi_o_e, ↓vi_ir_e, ↓vi_iir_e, ↓vi_jir_e, ↓vi_rir_e, ↓vi_pop_z, ↓vi_pop_s, ↓vi_sw_n, ↓vi_sw_c, ↓vi_li_z, ↓vi_li_s, ↓vi_ll_z, ↓vi_ll_s, ↓vi_lr_z, ↓vi_lr_s, ↓vi_ret_l, ↓vi_ret_r, vi_sv, vg_set1, vg_set2, vg_lo, List.headD, List.contains_nil, List.contains_cons, Bool.or_false, Bool.false_eq_true, if_false, if_true, Nat.reduceAdd, Nat.reduceBEq, List.nil_append, List.cons_append, List.append_nil, Option.toList, Int32.reduceOfNat, Int64.reduceOfNat, reduceCtorEq, Nat.reduceLeDiff, Nat.le_refl, Nat.zero_le, true_and, and_true, false_or, or_false, or_true, true_or, and_self, not_true_eq_false, not_false_eq_true, forall_const, false_implies, true_implies, Sum.inl.injEq, Sum.inr.injEq, Option.some.injEq, eq_self, oI_1, oI_m, oI_5, oI_L, vi_ws_nil, vi_ws_I, vi_ws_J, vi_ws_R, wi_k, wi_n, wi_r, wi_l, wr_k, wr_n, wr_i, wr_l, wl_k, wl_n, wl_i, wl_r, Nat.reduceSub, Nat.reduceMul, cd_114_0, cd_114_2, cd_114_20, cd_114_21, cd_114_28, cd_114_30, cd_114_47, cd_114_59, cd_114_126, cd_114_134, cd_114_136, cd_114_144, cd_114_167, cd_114_173, at_114_2, at_114_20, at_114_21, at_114_28, at_114_30, at_114_47, at_114_59, at_114_126, at_114_134, at_114_136, at_114_144, at_114_167, at_114_173, mc_114, ms_114, mr_114, mh_114, ml_114, mc_104, ms_104, k0, r50, k50, n50]
      intro x1 q1 x2 q2 x3 q3 x4 q4
      rw [show (8001 : Int32) = nI 8001 from rfl, nI_m] at q1
      subst q1
      rw [nI_add] at q2
      subst q2
      rw [nI_m] at q3
      subst q3
      rw [nI_subN (by omega), show 8001 * k + sm - j * unN k = 8001 * k + (sm - j * unN k) by omega] at q4
      subst q4
      rw [nI_clamp (by omega), o2]
      refine ⟨vp_nI (by omega) (by omega), ?_⟩
      have st := FWj_s hv (by omega) hju o1
      have ob : ∀ a, o = some a → a ≤ 3000 := fun a ha => by
        have := FWn_le (fun i hi => (hb i (by omega)).2) (ha ▸ o1)
        omega
      cases o with
      | none =>
        refine ⟨fun _ => nx v st _, fun e => absurd (by decide) e⟩
      | some a =>
        have a1 := ob a rfl
        refine ⟨fun e => absurd e (nI_pos (by omega)), fun _ => ?_⟩
        cases v with
        | none =>
          refine ⟨fun _ x5 q5 => ?_, fun e => absurd (by decide) e⟩
          rw [show encO (some a) = nI a from rfl, nI_add] at q5
          subst q5
          exact nx (some (a + j)) st _
        | some c =>
          have c1 := vs c rfl
          refine ⟨fun e => absurd e (nI_pos (by omega)), fun _ x5 q5 => ?_⟩
          rw [show encO (some a) = nI a from rfl, nI_add] at q5
          subst q5
          have st2 : FWj s k sm (j + 1) (if a + j < c then some (a + j) else some c) := st
          refine ⟨fun e => ?_, fun e x6 q6 => ?_⟩
          · have : ¬ a + j < c := fun z => nI_ge z (by omega) e
            rw [if_neg this] at st2
            exact nx (some c) st2 _
          · rw [show encO (some a) = nI a from rfl, nI_add] at q6
            subst q6
            have : a + j < c := by
              rcases Nat.lt_or_ge (a + j) c with z | z
              · exact z
              · exact absurd (nI_le z (by omega)) e
            rw [if_pos this] at st2
            exact nx (some (a + j)) st2 _
    refine vi_run ok_114 [144, 85] 40 ?_
    rw [at_114_59]
    simp only [↓reduceIte, vi_go_c, ↓v1_iadd, ↓v1_isub, ↓v1_imul, ↓v1_iand, ↓v1_idiv, ↓v1_irem, ↓v1_ineg, ↓v1_ladd, ↓v1_lsub, ↓v1_land, ↓v1_lcmp, ↓v1_lshl, ↓v1_lshr, ↓v1_i2l, ↓v1_l2i, ↓v1_iconst_0, ↓v1_iconst_m, ↓v1_bipush, ↓v1_sipush, ↓v1_ldc, ↓v1_ldc_w, ↓v1_lconst, ↓v1_ldc2_w, ↓v1_aconst_null, ↓v1_iload, ↓v1_iload_n, ↓v1_lload, ↓v1_lload_n, ↓v1_aload, ↓v1_aload_n, ↓v1_istore, ↓v1_istore_n, ↓v1_lstore, ↓v1_lstore_n, ↓v1_astore, ↓v1_astore_n, ↓v1_iinc, ↓v1_dup, ↓v1_dup2, ↓v1_ifCond_eq, ↓v1_ifCond_ne, ↓v1_ifCond_lt, ↓v1_ifCond_ge, ↓v1_ifCond_gt, ↓v1_ifCond_le, ↓v1_if_icmp_eq, ↓v1_if_icmp_ne, ↓v1_if_icmp_lt, ↓v1_if_icmp_ge, ↓v1_if_icmp_gt, ↓v1_if_icmp_le, ↓v1_if_acmp_ne, ↓v1_ifnull, ↓v1_ifnonnull, ↓v1_goto, ↓v1_tableswitch_0, ↓v1_return_, ↓v1_ireturn, ↓v1_lreturn, ↓v1_areturn, ↓v1_getfield_0, ↓v1_putfield_0, ↓v1_getstatic, ↓v1_iaload, ↓v1_laload, ↓v1_baload, ↓v1_aaload, ↓v1_iastore, ↓v1_lastore, ↓v1_bastore, ↓v1_aastore_0, ↓v1_arraylength, ↓v1_new_0, ↓v1_newarray, ↓v1_anewarray, ↓v1_invokestatic_0, ↓v1_invokestatic_1, ↓v1_invokestatic_2a, ↓v1_invokevirtual_0, ↓v1_invokespecial_0, ↓v1_invokespecial_1a, ↓v1_invokespecial_1b, ↓vi_ii_e, ↓vi_i_e, ↓vi_jj_e, ↓vi_j_e, ↓vi_ij_e, ↓vi_r_e, ↓vi_rr_e, ↓vi_o_e, ↓vi_ir_e, ↓vi_iir_e, ↓vi_jir_e, ↓vi_rir_e, ↓vi_pop_z, ↓vi_pop_s, ↓vi_sw_n, ↓vi_sw_c, ↓vi_li_z, ↓vi_li_s, ↓vi_ll_z, ↓vi_ll_s, ↓vi_lr_z, ↓vi_lr_s, ↓vi_ret_l, ↓vi_ret_r, vi_sv, vg_set1, vg_set2, vg_lo, List.headD, List.contains_nil, List.contains_cons, Bool.or_false, Bool.false_eq_true, if_false, if_true, Nat.reduceAdd, Nat.reduceBEq, List.nil_append, List.cons_append, List.append_nil, Option.toList, Int32.reduceOfNat, Int64.reduceOfNat, reduceCtorEq, Nat.reduceLeDiff, Nat.le_refl, Nat.zero_le, true_and, and_true, false_or, or_false, or_true, true_or, and_self, not_true_eq_false, not_false_eq_true, forall_const, false_implies, true_implies, Sum.inl.injEq, Sum.inr.injEq, Option.some.injEq, eq_self, oI_1, oI_m, oI_5, oI_L, vi_ws_nil, vi_ws_I, vi_ws_J, vi_ws_R, wi_k, wi_n, wi_r, wi_l, wr_k, wr_n, wr_i, wr_l, wl_k, wl_n, wl_i, wl_r, Nat.reduceSub, Nat.reduceMul, cd_114_0, cd_114_2, cd_114_20, cd_114_21, cd_114_28, cd_114_30, cd_114_47, cd_114_59, cd_114_126, cd_114_134, cd_114_136, cd_114_144, cd_114_167, cd_114_173, at_114_2, at_114_20, at_114_21, at_114_28, at_114_30, at_114_47, at_114_59, at_114_126, at_114_134, at_114_136, at_114_144, at_114_167, at_114_173, mc_114, ms_114, mr_114, mh_114, ml_114, mc_104, ms_104, k0, r35, k35, n35]
    intro x1 q1 x2 q2
    rw [show (6 : Int32) = nI 6 from rfl, nI_m] at q1
    subst q1
    rw [nI_add] at q2
    subst q2
    rw [y1, f35]
    refine ⟨y2, fun e => absurd e (nI_nlt (by omega) (by omega)), fun _ x3 q3 => ?_⟩
    rw [nI_m] at q3
    subst q3
    rw [nI_ltI (by omega) (by omega)]
    exact ⟨fun e => vr_less (vr_none 7 rfl) (hQ v (FWj_end hv (Or.inr e))), fun e => j85 (by omega)⟩
set_option maxRecDepth 100000 in
/-- all sums of one kind more -/
theorem l_114s {S : SS} {q R k : Nat} {s : Nat → Nat} (hq : q < 3) (hk : k < 6) (hR : R ≤ 8000) (hb : ∀ i, i < 6 → S 35 (6 * q + i) = nI (s i) ∧ s i ≤ 500) (hQ : ∀ h', MP b S w h0 h' → (∀ i, i ≤ k + 1 → TB b h' s i (R + 1)) → vg_A G (MT 114) 0 0 167 [some (.inr (.inr (some (b + 37)))), some (.inl (nI q)), some (.inl (nI R)), some (.inl (nI k)), none, none, none, none, none] [] h' Q) : ∀ (n sm : Nat) (h : vg_H), sm + n = R + 1 → MP b S w h0 h → (∀ i, i ≤ k → TB b h s i (R + 1)) → TB b h s (k + 1) sm →
    vg_A G (MT 114) 0 0 47 [some (.inr (.inr (some (b + 37)))), some (.inl (nI q)), some (.inl (nI R)), some (.inl (nI k)), some (.inl (nI (unN k))), some (.inl (nI sm)), none, none, none] [] h Q := by
  intro n
  induction n with
  | zero =>
    intro sm h hi hP hT hT2
    have e1 : nI R < nI sm := nI_lt (by omega) (by omega)
    refine vi_run ok_114 [167, 53] 40 ?_
    rw [at_114_47]
    simp only [↓reduceIte, vi_go_c, ↓v1_iadd, ↓v1_isub, ↓v1_imul, ↓v1_iand, ↓v1_idiv, ↓v1_irem, ↓v1_ineg, ↓v1_ladd, ↓v1_lsub, ↓v1_land, ↓v1_lcmp, ↓v1_lshl, ↓v1_lshr, ↓v1_i2l, ↓v1_l2i, ↓v1_iconst_0, ↓v1_iconst_m, ↓v1_bipush, ↓v1_sipush, ↓v1_ldc, ↓v1_ldc_w, ↓v1_lconst, ↓v1_ldc2_w, ↓v1_aconst_null, ↓v1_iload, ↓v1_iload_n, ↓v1_lload, ↓v1_lload_n, ↓v1_aload, ↓v1_aload_n, ↓v1_istore, ↓v1_istore_n, ↓v1_lstore, ↓v1_lstore_n, ↓v1_astore, ↓v1_astore_n, ↓v1_iinc, ↓v1_dup, ↓v1_dup2, ↓v1_ifCond_eq, ↓v1_ifCond_ne, ↓v1_ifCond_lt, ↓v1_ifCond_ge, ↓v1_ifCond_gt, ↓v1_ifCond_le, ↓v1_if_icmp_eq, ↓v1_if_icmp_ne, ↓v1_if_icmp_lt, ↓v1_if_icmp_ge, ↓v1_if_icmp_gt, ↓v1_if_icmp_le, ↓v1_if_acmp_ne, ↓v1_ifnull, ↓v1_ifnonnull, ↓v1_goto, ↓v1_tableswitch_0, ↓v1_return_, ↓v1_ireturn, ↓v1_lreturn, ↓v1_areturn, ↓v1_getfield_0, ↓v1_putfield_0, ↓v1_getstatic, ↓v1_iaload, ↓v1_laload, ↓v1_baload, ↓v1_aaload, ↓v1_iastore, ↓v1_lastore, ↓v1_bastore, ↓v1_aastore_0, ↓v1_arraylength, ↓v1_new_0, ↓v1_newarray, ↓v1_anewarray, ↓v1_invokestatic_0, ↓v1_invokestatic_1, ↓v1_invokestatic_2a, ↓v1_invokevirtual_0, ↓v1_invokespecial_0, ↓v1_invokespecial_1a, ↓v1_invokespecial_1b, ↓vi_ii_e, ↓vi_i_e, ↓vi_jj_e, ↓vi_j_e, ↓vi_ij_e, ↓vi_r_e, ↓vi_rr_e, ↓vi_o_e, ↓vi_ir_e, ↓vi_iir_e, ↓vi_jir_e, ↓vi_rir_e, ↓vi_pop_z, ↓vi_pop_s, ↓vi_sw_n, ↓vi_sw_c, ↓vi_li_z, ↓vi_li_s, ↓vi_ll_z, ↓vi_ll_s, ↓vi_lr_z, ↓vi_lr_s, ↓vi_ret_l, ↓vi_ret_r, vi_sv, vg_set1, vg_set2, vg_lo, List.headD, List.contains_nil, List.contains_cons, Bool.or_false, Bool.false_eq_true, if_false, if_true, Nat.reduceAdd, Nat.reduceBEq, List.nil_append, List.cons_append, List.append_nil, Option.toList, Int32.reduceOfNat, Int64.reduceOfNat, reduceCtorEq, Nat.reduceLeDiff, Nat.le_refl, Nat.zero_le, true_and, and_true, false_or, or_false, or_true, true_or, and_self, not_true_eq_false, not_false_eq_true, forall_const, false_implies, true_implies, Sum.inl.injEq, Sum.inr.injEq, Option.some.injEq, eq_self, oI_1, oI_m, oI_5, oI_L, vi_ws_nil, vi_ws_I, vi_ws_J, vi_ws_R, wi_k, wi_n, wi_r, wi_l, wr_k, wr_n, wr_i, wr_l, wl_k, wl_n, wl_i, wl_r, Nat.reduceSub, Nat.reduceMul, cd_114_0, cd_114_2, cd_114_20, cd_114_21, cd_114_28, cd_114_30, cd_114_47, cd_114_59, cd_114_126, cd_114_134, cd_114_136, cd_114_144, cd_114_167, cd_114_173, at_114_2, at_114_20, at_114_21, at_114_28, at_114_30, at_114_47, at_114_59, at_114_126, at_114_134, at_114_136, at_114_144, at_114_167, at_114_173, mc_114, ms_114, mr_114, mh_114, ml_114, mc_104, ms_104, e1]
    refine vr_less (vr_none 4 rfl) (vr_less (vr_none 5 rfl) (hQ h hP (fun i hi2 => ?_)))
    by_cases e : i = k + 1
    · rw [e, show R + 1 = sm by omega]; exact hT2
    · exact hT i (by omega)
  | succ n ih =>
    intro sm h hi hP hT hT2
    have e1 : ¬ nI R < nI sm := nI_nlt (by omega) (by omega)
    refine vi_run ok_114 [59] 40 ?_
    rw [at_114_47]
    simp only [↓reduceIte, vi_go_c, ↓v1_iadd, ↓v1_isub, ↓v1_imul, ↓v1_iand, ↓v1_idiv, ↓v1_irem, ↓v1_ineg, ↓v1_ladd, ↓v1_lsub, ↓v1_land, ↓v1_lcmp, ↓v1_lshl, ↓v1_lshr, ↓v1_i2l, ↓v1_l2i, ↓v1_iconst_0, ↓v1_iconst_m, ↓v1_bipush, ↓v1_sipush, ↓v1_ldc, ↓v1_ldc_w, ↓v1_lconst, ↓v1_ldc2_w, ↓v1_aconst_null, ↓v1_iload, ↓v1_iload_n, ↓v1_lload, ↓v1_lload_n, ↓v1_aload, ↓v1_aload_n, ↓v1_istore, ↓v1_istore_n, ↓v1_lstore, ↓v1_lstore_n, ↓v1_astore, ↓v1_astore_n, ↓v1_iinc, ↓v1_dup, ↓v1_dup2, ↓v1_ifCond_eq, ↓v1_ifCond_ne, ↓v1_ifCond_lt, ↓v1_ifCond_ge, ↓v1_ifCond_gt, ↓v1_ifCond_le, ↓v1_if_icmp_eq, ↓v1_if_icmp_ne, ↓v1_if_icmp_lt, ↓v1_if_icmp_ge, ↓v1_if_icmp_gt, ↓v1_if_icmp_le, ↓v1_if_acmp_ne, ↓v1_ifnull, ↓v1_ifnonnull, ↓v1_goto, ↓v1_tableswitch_0, ↓v1_return_, ↓v1_ireturn, ↓v1_lreturn, ↓v1_areturn, ↓v1_getfield_0, ↓v1_putfield_0, ↓v1_getstatic, ↓v1_iaload, ↓v1_laload, ↓v1_baload, ↓v1_aaload, ↓v1_iastore, ↓v1_lastore, ↓v1_bastore, ↓v1_aastore_0, ↓v1_arraylength, ↓v1_new_0, ↓v1_newarray, ↓v1_anewarray, ↓v1_invokestatic_0, ↓v1_invokestatic_1, ↓v1_invokestatic_2a, ↓v1_invokevirtual_0, ↓v1_invokespecial_0, ↓v1_invokespecial_1a, ↓v1_invokespecial_1b, ↓vi_ii_e, ↓vi_i_e, ↓vi_jj_e, ↓vi_j_e, ↓vi_ij_e, ↓vi_r_e, ↓vi_rr_e, ↓vi_o_e, ↓vi_ir_e, ↓vi_iir_e, ↓vi_jir_e, ↓vi_rir_e, ↓vi_pop_z, ↓vi_pop_s, ↓vi_sw_n, ↓vi_sw_c, ↓vi_li_z, ↓vi_li_s, ↓vi_ll_z, ↓vi_ll_s, ↓vi_lr_z, ↓vi_lr_s, ↓vi_ret_l, ↓vi_ret_r, vi_sv, vg_set1, vg_set2, vg_lo, List.headD, List.contains_nil, List.contains_cons, Bool.or_false, Bool.false_eq_true, if_false, if_true, Nat.reduceAdd, Nat.reduceBEq, List.nil_append, List.cons_append, List.append_nil, Option.toList, Int32.reduceOfNat, Int64.reduceOfNat, reduceCtorEq, Nat.reduceLeDiff, Nat.le_refl, Nat.zero_le, true_and, and_true, false_or, or_false, or_true, true_or, and_self, not_true_eq_false, not_false_eq_true, forall_const, false_implies, true_implies, Sum.inl.injEq, Sum.inr.injEq, Option.some.injEq, eq_self, oI_1, oI_m, oI_5, oI_L, vi_ws_nil, vi_ws_I, vi_ws_J, vi_ws_R, wi_k, wi_n, wi_r, wi_l, wr_k, wr_n, wr_i, wr_l, wl_k, wl_n, wl_i, wl_r, Nat.reduceSub, Nat.reduceMul, cd_114_0, cd_114_2, cd_114_20, cd_114_21, cd_114_28, cd_114_30, cd_114_47, cd_114_59, cd_114_126, cd_114_134, cd_114_136, cd_114_144, cd_114_167, cd_114_173, at_114_2, at_114_20, at_114_21, at_114_28, at_114_30, at_114_47, at_114_59, at_114_126, at_114_134, at_114_136, at_114_144, at_114_167, at_114_173, mc_114, ms_114, mr_114, mh_114, ml_114, mc_104, ms_104, e1]
    refine l_114j (b := b) hq hk hR (by omega) hb hP (hT k (by omega)) (fun v hv => ?_) (s k + 1) 0 none (by omega) (FWj_0 s k sm)
    have hM := hP.mx
    have k0 : (h).1 (b + 37) = 11 := hM.1
    have r50 : (h).2.2.2.2.1 (b + 37) 50 = some (ar b 50) := (hM.2.1 50 (by decide)).1
    have k50 : (h).1 (ar b 50) = 100 := (hM.2.1 50 (by decide)).2.1
    have n50 : (h).2.1 (ar b 50) = 56007 := (hM.2.1 50 (by decide)).2.2
    refine vi_run ok_114 [47] 40 ?_
    rw [at_114_144]
    simp only [↓reduceIte, vi_go_c, ↓v1_iadd, ↓v1_isub, ↓v1_imul, ↓v1_iand, ↓v1_idiv, ↓v1_irem, ↓v1_ineg, ↓v1_ladd, ↓v1_lsub, ↓v1_land, ↓v1_lcmp, ↓v1_lshl, ↓v1_lshr, ↓v1_i2l, ↓v1_l2i, ↓v1_iconst_0, ↓v1_iconst_m, ↓v1_bipush, ↓v1_sipush, ↓v1_ldc, ↓v1_ldc_w, ↓v1_lconst, ↓v1_ldc2_w, ↓v1_aconst_null, ↓v1_iload, ↓v1_iload_n, ↓v1_lload, ↓v1_lload_n, ↓v1_aload, ↓v1_aload_n, ↓v1_istore, ↓v1_istore_n, ↓v1_lstore, ↓v1_lstore_n, ↓v1_astore, ↓v1_astore_n, ↓v1_iinc, ↓v1_dup, ↓v1_dup2, ↓v1_ifCond_eq, ↓v1_ifCond_ne, ↓v1_ifCond_lt, ↓v1_ifCond_ge, ↓v1_ifCond_gt, ↓v1_ifCond_le, ↓v1_if_icmp_eq, ↓v1_if_icmp_ne, ↓v1_if_icmp_lt, ↓v1_if_icmp_ge, ↓v1_if_icmp_gt, ↓v1_if_icmp_le, ↓v1_if_acmp_ne, ↓v1_ifnull, ↓v1_ifnonnull, ↓v1_goto, ↓v1_tableswitch_0, ↓v1_return_, ↓v1_ireturn, ↓v1_lreturn, ↓v1_areturn, ↓v1_getfield_0, ↓v1_putfield_0, ↓v1_getstatic, ↓v1_iaload, ↓v1_laload, ↓v1_baload, ↓v1_aaload, ↓v1_iastore, ↓v1_lastore, ↓v1_bastore, ↓v1_aastore_0, ↓v1_arraylength, ↓v1_new_0, ↓v1_newarray, ↓v1_anewarray, ↓v1_invokestatic_0, ↓v1_invokestatic_1, ↓v1_invokestatic_2a, ↓v1_invokevirtual_0, ↓v1_invokespecial_0, ↓v1_invokespecial_1a, ↓v1_invokespecial_1b, ↓vi_ii_e, ↓vi_i_e, ↓vi_jj_e, ↓vi_j_e, ↓vi_ij_e, ↓vi_r_e, ↓vi_rr_e, ↓vi_o_e, ↓vi_ir_e, ↓vi_iir_e, ↓vi_jir_e, ↓vi_rir_e, ↓vi_pop_z, ↓vi_pop_s, ↓vi_sw_n, ↓vi_sw_c, ↓vi_li_z, ↓vi_li_s, ↓vi_ll_z, ↓vi_ll_s, ↓vi_lr_z, ↓vi_lr_s, ↓vi_ret_l, ↓vi_ret_r, vi_sv, vg_set1, vg_set2, vg_lo, List.headD, List.contains_nil, List.contains_cons, Bool.or_false, Bool.false_eq_true, if_false, if_true, Nat.reduceAdd, Nat.reduceBEq, List.nil_append, List.cons_append, List.append_nil, Option.toList, Int32.reduceOfNat, Int64.reduceOfNat, reduceCtorEq, Nat.reduceLeDiff, Nat.le_refl, Nat.zero_le, true_and, and_true, false_or, or_false, or_true, true_or, and_self, not_true_eq_false, not_false_eq_true, forall_const, false_implies, true_implies, Sum.inl.injEq, Sum.inr.injEq, Option.some.injEq, eq_self, oI_1, oI_m, oI_5, oI_L, vi_ws_nil, vi_ws_I, vi_ws_J, vi_ws_R, wi_k, wi_n, wi_r, wi_l, wr_k, wr_n, wr_i, wr_l, wl_k, wl_n, wl_i, wl_r, Nat.reduceSub, Nat.reduceMul, cd_114_0, cd_114_2, cd_114_20, cd_114_21, cd_114_28, cd_114_30, cd_114_47, cd_114_59, cd_114_126, cd_114_134, cd_114_136, cd_114_144, cd_114_167, cd_114_173, at_114_2, at_114_20, at_114_21, at_114_28, at_114_30, at_114_47, at_114_59, at_114_126, at_114_134, at_114_136, at_114_144, at_114_167, at_114_173, mc_114, ms_114, mr_114, mh_114, ml_114, mc_104, ms_104, k0, r50, k50, n50]
    intro x1 q1 x2 q2 x3 q3
    rw [nI_1] at q1
    subst q1
    rw [show (8001 : Int32) = nI 8001 from rfl, nI_m] at q2
    subst q2
    rw [nI_add] at q3
    subst q3
    rw [nI_clamp (by omega)]
    refine ⟨vp_nI (by omega) (by omega), fun x4 q4 => ?_⟩
    rw [← nI_succ] at q4; subst q4
    exact vr_less (vr_none 6 rfl) (ih (sm + 1) _ (by omega) (hP.scr 50 (by decide) rfl _ _) (fun i hi2 => (hT i hi2).set (by omega) (by omega) (Or.inl (by omega)) _) (hT2.ext (by omega) hv))
set_option maxRecDepth 100000 in
theorem l_114k {S : SS} {q R : Nat} {s : Nat → Nat} (hq : q < 3) (hR : R ≤ 8000) (hb : ∀ i, i < 6 → S 35 (6 * q + i) = nI (s i) ∧ s i ≤ 500) (hQ : ∀ h', MP b S w h0 h' → (∀ i, i ≤ 6 → TB b h' s i (R + 1)) → Q (.inl none) h') : ∀ (n k : Nat) (h : vg_H), k + n = 6 → MP b S w h0 h → (∀ i, i ≤ k → TB b h s i (R + 1)) →
    vg_A G (MT 114) 0 0 30 [some (.inr (.inr (some (b + 37)))), some (.inl (nI q)), some (.inl (nI R)), some (.inl (nI k)), none, none, none, none, none] [] h Q := by
  intro n
  induction n with
  | zero =>
    intro k h hk hP hT
    have e1 : (6 : Int32) ≤ nI k := by rw [show (6 : Int32) = nI 6 from rfl]; exact nI_le (by omega) (by omega)
    refine vi_run ok_114 [36] 40 ?_
    rw [at_114_30]
    simp only [↓reduceIte, vi_go_c, ↓v1_iadd, ↓v1_isub, ↓v1_imul, ↓v1_iand, ↓v1_idiv, ↓v1_irem, ↓v1_ineg, ↓v1_ladd, ↓v1_lsub, ↓v1_land, ↓v1_lcmp, ↓v1_lshl, ↓v1_lshr, ↓v1_i2l, ↓v1_l2i, ↓v1_iconst_0, ↓v1_iconst_m, ↓v1_bipush, ↓v1_sipush, ↓v1_ldc, ↓v1_ldc_w, ↓v1_lconst, ↓v1_ldc2_w, ↓v1_aconst_null, ↓v1_iload, ↓v1_iload_n, ↓v1_lload, ↓v1_lload_n, ↓v1_aload, ↓v1_aload_n, ↓v1_istore, ↓v1_istore_n, ↓v1_lstore, ↓v1_lstore_n, ↓v1_astore, ↓v1_astore_n, ↓v1_iinc, ↓v1_dup, ↓v1_dup2, ↓v1_ifCond_eq, ↓v1_ifCond_ne, ↓v1_ifCond_lt, ↓v1_ifCond_ge, ↓v1_ifCond_gt, ↓v1_ifCond_le, ↓v1_if_icmp_eq, ↓v1_if_icmp_ne, ↓v1_if_icmp_lt, ↓v1_if_icmp_ge, ↓v1_if_icmp_gt, ↓v1_if_icmp_le, ↓v1_if_acmp_ne, ↓v1_ifnull, ↓v1_ifnonnull, ↓v1_goto, ↓v1_tableswitch_0, ↓v1_return_, ↓v1_ireturn, ↓v1_lreturn, ↓v1_areturn, ↓v1_getfield_0, ↓v1_putfield_0, ↓v1_getstatic, ↓v1_iaload, ↓v1_laload, ↓v1_baload, ↓v1_aaload, ↓v1_iastore, ↓v1_lastore, ↓v1_bastore, ↓v1_aastore_0, ↓v1_arraylength, ↓v1_new_0, ↓v1_newarray, ↓v1_anewarray, ↓v1_invokestatic_0, ↓v1_invokestatic_1, ↓v1_invokestatic_2a, ↓v1_invokevirtual_0, ↓v1_invokespecial_0, ↓v1_invokespecial_1a, ↓v1_invokespecial_1b, ↓vi_ii_e, ↓vi_i_e, ↓vi_jj_e, ↓vi_j_e, ↓vi_ij_e, ↓vi_r_e, ↓vi_rr_e, ↓vi_o_e, ↓vi_ir_e, ↓vi_iir_e, ↓vi_jir_e, ↓vi_rir_e, ↓vi_pop_z, ↓vi_pop_s, ↓vi_sw_n, ↓vi_sw_c, ↓vi_li_z, ↓vi_li_s, ↓vi_ll_z, ↓vi_ll_s, ↓vi_lr_z, ↓vi_lr_s, ↓vi_ret_l, ↓vi_ret_r, vi_sv, vg_set1, vg_set2, vg_lo, List.headD, List.contains_nil, List.contains_cons, Bool.or_false, Bool.false_eq_true, if_false, if_true, Nat.reduceAdd, Nat.reduceBEq, List.nil_append, List.cons_append, List.append_nil, Option.toList, Int32.reduceOfNat, Int64.reduceOfNat, reduceCtorEq, Nat.reduceLeDiff, Nat.le_refl, Nat.zero_le, true_and, and_true, false_or, or_false, or_true, true_or, and_self, not_true_eq_false, not_false_eq_true, forall_const, false_implies, true_implies, Sum.inl.injEq, Sum.inr.injEq, Option.some.injEq, eq_self, oI_1, oI_m, oI_5, oI_L, vi_ws_nil, vi_ws_I, vi_ws_J, vi_ws_R, wi_k, wi_n, wi_r, wi_l, wr_k, wr_n, wr_i, wr_l, wl_k, wl_n, wl_i, wl_r, Nat.reduceSub, Nat.reduceMul, cd_114_0, cd_114_2, cd_114_20, cd_114_21, cd_114_28, cd_114_30, cd_114_47, cd_114_59, cd_114_126, cd_114_134, cd_114_136, cd_114_144, cd_114_167, cd_114_173, at_114_2, at_114_20, at_114_21, at_114_28, at_114_30, at_114_47, at_114_59, at_114_126, at_114_134, at_114_136, at_114_144, at_114_167, at_114_173, mc_114, ms_114, mr_114, mh_114, ml_114, mc_104, ms_104, e1]
    exact hQ h hP (fun i hi => hT i (by omega))
  | succ n ih =>
    intro k h hk hP hT
    have e1 : ¬ (6 : Int32) ≤ nI k := by rw [show (6 : Int32) = nI 6 from rfl]; exact nI_ge (by omega) (by omega)
    refine vi_run ok_114 [47] 40 ?_
    rw [at_114_30]
    simp only [↓reduceIte, vi_go_c, ↓v1_iadd, ↓v1_isub, ↓v1_imul, ↓v1_iand, ↓v1_idiv, ↓v1_irem, ↓v1_ineg, ↓v1_ladd, ↓v1_lsub, ↓v1_land, ↓v1_lcmp, ↓v1_lshl, ↓v1_lshr, ↓v1_i2l, ↓v1_l2i, ↓v1_iconst_0, ↓v1_iconst_m, ↓v1_bipush, ↓v1_sipush, ↓v1_ldc, ↓v1_ldc_w, ↓v1_lconst, ↓v1_ldc2_w, ↓v1_aconst_null, ↓v1_iload, ↓v1_iload_n, ↓v1_lload, ↓v1_lload_n, ↓v1_aload, ↓v1_aload_n, ↓v1_istore, ↓v1_istore_n, ↓v1_lstore, ↓v1_lstore_n, ↓v1_astore, ↓v1_astore_n, ↓v1_iinc, ↓v1_dup, ↓v1_dup2, ↓v1_ifCond_eq, ↓v1_ifCond_ne, ↓v1_ifCond_lt, ↓v1_ifCond_ge, ↓v1_ifCond_gt, ↓v1_ifCond_le, ↓v1_if_icmp_eq, ↓v1_if_icmp_ne, ↓v1_if_icmp_lt, ↓v1_if_icmp_ge, ↓v1_if_icmp_gt, ↓v1_if_icmp_le, ↓v1_if_acmp_ne, ↓v1_ifnull, ↓v1_ifnonnull, ↓v1_goto, ↓v1_tableswitch_0, ↓v1_return_, ↓v1_ireturn, ↓v1_lreturn, ↓v1_areturn, ↓v1_getfield_0, ↓v1_putfield_0, ↓v1_getstatic, ↓v1_iaload, ↓v1_laload, ↓v1_baload, ↓v1_aaload, ↓v1_iastore, ↓v1_lastore, ↓v1_bastore, ↓v1_aastore_0, ↓v1_arraylength, ↓v1_new_0, ↓v1_newarray, ↓v1_anewarray, ↓v1_invokestatic_0, ↓v1_invokestatic_1, ↓v1_invokestatic_2a, ↓v1_invokevirtual_0, ↓v1_invokespecial_0, ↓v1_invokespecial_1a, ↓v1_invokespecial_1b, ↓vi_ii_e, ↓vi_i_e, ↓vi_jj_e, ↓vi_j_e, ↓vi_ij_e, ↓vi_r_e, ↓vi_rr_e, ↓vi_o_e, ↓vi_ir_e, ↓vi_iir_e, ↓vi_jir_e, ↓vi_rir_e, ↓vi_pop_z, ↓vi_pop_s, ↓vi_sw_n, ↓vi_sw_c, ↓vi_li_z, ↓vi_li_s, ↓vi_ll_z, ↓vi_ll_s, ↓vi_lr_z, ↓vi_lr_s, ↓vi_ret_l, ↓vi_ret_r, vi_sv, vg_set1, vg_set2, vg_lo, List.headD, List.contains_nil, List.contains_cons, Bool.or_false, Bool.false_eq_true, if_false, if_true, Nat.reduceAdd, Nat.reduceBEq, List.nil_append, List.cons_append, List.append_nil, Option.toList, Int32.reduceOfNat, Int64.reduceOfNat, reduceCtorEq, Nat.reduceLeDiff, Nat.le_refl, Nat.zero_le, true_and, and_true, false_or, or_false, or_true, true_or, and_self, not_true_eq_false, not_false_eq_true, forall_const, false_implies, true_implies, Sum.inl.injEq, Sum.inr.injEq, Option.some.injEq, eq_self, oI_1, oI_m, oI_5, oI_L, vi_ws_nil, vi_ws_I, vi_ws_J, vi_ws_R, wi_k, wi_n, wi_r, wi_l, wr_k, wr_n, wr_i, wr_l, wl_k, wl_n, wl_i, wl_r, Nat.reduceSub, Nat.reduceMul, cd_114_0, cd_114_2, cd_114_20, cd_114_21, cd_114_28, cd_114_30, cd_114_47, cd_114_59, cd_114_126, cd_114_134, cd_114_136, cd_114_144, cd_114_167, cd_114_173, at_114_2, at_114_20, at_114_21, at_114_28, at_114_30, at_114_47, at_114_59, at_114_126, at_114_134, at_114_136, at_114_144, at_114_167, at_114_173, mc_114, ms_114, mr_114, mh_114, ml_114, mc_104, ms_104, e1]
    refine c_104 (k := k) (by omega) ?_
    simp only [↓reduceIte, vi_go_c, ↓v1_iadd, ↓v1_isub, ↓v1_imul, ↓v1_iand, ↓v1_idiv, ↓v1_irem, ↓v1_ineg, ↓v1_ladd, ↓v1_lsub, ↓v1_land, ↓v1_lcmp, ↓v1_lshl, ↓v1_lshr, ↓v1_i2l, ↓v1_l2i, ↓v1_iconst_0, ↓v1_iconst_m, ↓v1_bipush, ↓v1_sipush, ↓v1_ldc, ↓v1_ldc_w, ↓v1_lconst, ↓v1_ldc2_w, ↓v1_aconst_null, ↓v1_iload, ↓v1_iload_n, ↓v1_lload, ↓v1_lload_n, ↓v1_aload, ↓v1_aload_n, ↓v1_istore, ↓v1_istore_n, ↓v1_lstore, ↓v1_lstore_n, ↓v1_astore, ↓v1_astore_n, ↓v1_iinc, ↓v1_dup, ↓v1_dup2, ↓v1_ifCond_eq, ↓v1_ifCond_ne, ↓v1_ifCond_lt, ↓v1_ifCond_ge, ↓v1_ifCond_gt, ↓v1_ifCond_le, ↓v1_if_icmp_eq, ↓v1_if_icmp_ne, ↓v1_if_icmp_lt, ↓v1_if_icmp_ge, ↓v1_if_icmp_gt, ↓v1_if_icmp_le, ↓v1_if_acmp_ne, ↓v1_ifnull, ↓v1_ifnonnull, ↓v1_goto, ↓v1_tableswitch_0, ↓v1_return_, ↓v1_ireturn, ↓v1_lreturn, ↓v1_areturn, ↓v1_getfield_0, ↓v1_putfield_0, ↓v1_getstatic, ↓v1_iaload, ↓v1_laload, ↓v1_baload, ↓v1_aaload, ↓v1_iastore, ↓v1_lastore, ↓v1_bastore, ↓v1_aastore_0, ↓v1_arraylength, ↓v1_new_0, ↓v1_newarray, ↓v1_anewarray, ↓v1_invokestatic_0, ↓v1_invokestatic_1, ↓v1_invokestatic_2a, ↓v1_invokevirtual_0, ↓v1_invokespecial_0, ↓v1_invokespecial_1a, ↓v1_invokespecial_1b, ↓vi_ii_e, ↓vi_i_e, ↓vi_jj_e, ↓vi_j_e, ↓vi_ij_e, ↓vi_r_e, ↓vi_rr_e, ↓vi_o_e, ↓vi_ir_e, ↓vi_iir_e, ↓vi_jir_e, ↓vi_rir_e, ↓vi_pop_z, ↓vi_pop_s, ↓vi_sw_n, ↓vi_sw_c, ↓vi_li_z, ↓vi_li_s, ↓vi_ll_z, ↓vi_ll_s, ↓vi_lr_z, ↓vi_lr_s, ↓vi_ret_l, ↓vi_ret_r, vi_sv, vg_set1, vg_set2, vg_lo, List.headD, List.contains_nil, List.contains_cons, Bool.or_false, Bool.false_eq_true, if_false, if_true, Nat.reduceAdd, Nat.reduceBEq, List.nil_append, List.cons_append, List.append_nil, Option.toList, Int32.reduceOfNat, Int64.reduceOfNat, reduceCtorEq, Nat.reduceLeDiff, Nat.le_refl, Nat.zero_le, true_and, and_true, false_or, or_false, or_true, true_or, and_self, not_true_eq_false, not_false_eq_true, forall_const, false_implies, true_implies, Sum.inl.injEq, Sum.inr.injEq, Option.some.injEq, eq_self, oI_1, oI_m, oI_5, oI_L, vi_ws_nil, vi_ws_I, vi_ws_J, vi_ws_R, wi_k, wi_n, wi_r, wi_l, wr_k, wr_n, wr_i, wr_l, wl_k, wl_n, wl_i, wl_r, Nat.reduceSub, Nat.reduceMul, cd_114_0, cd_114_2, cd_114_20, cd_114_21, cd_114_28, cd_114_30, cd_114_47, cd_114_59, cd_114_126, cd_114_134, cd_114_136, cd_114_144, cd_114_167, cd_114_173, at_114_2, at_114_20, at_114_21, at_114_28, at_114_30, at_114_47, at_114_59, at_114_126, at_114_134, at_114_136, at_114_144, at_114_167, at_114_173, mc_114, ms_114, mr_114, mh_114, ml_114, mc_104, ms_104]
    refine ⟨by decide, fun x1 q1 => ?_⟩
    rw [coM_un k (by omega)] at q1
    subst q1
    refine l_114s (b := b) hq (by omega) hR hb (fun h' p1 p2 => ?_) (R + 1) 0 h (by omega) hP hT (fun r hr => by omega)
    refine vi_run ok_114 [30] 40 ?_
    rw [at_114_167]
    simp only [↓reduceIte, vi_go_c, ↓v1_iadd, ↓v1_isub, ↓v1_imul, ↓v1_iand, ↓v1_idiv, ↓v1_irem, ↓v1_ineg, ↓v1_ladd, ↓v1_lsub, ↓v1_land, ↓v1_lcmp, ↓v1_lshl, ↓v1_lshr, ↓v1_i2l, ↓v1_l2i, ↓v1_iconst_0, ↓v1_iconst_m, ↓v1_bipush, ↓v1_sipush, ↓v1_ldc, ↓v1_ldc_w, ↓v1_lconst, ↓v1_ldc2_w, ↓v1_aconst_null, ↓v1_iload, ↓v1_iload_n, ↓v1_lload, ↓v1_lload_n, ↓v1_aload, ↓v1_aload_n, ↓v1_istore, ↓v1_istore_n, ↓v1_lstore, ↓v1_lstore_n, ↓v1_astore, ↓v1_astore_n, ↓v1_iinc, ↓v1_dup, ↓v1_dup2, ↓v1_ifCond_eq, ↓v1_ifCond_ne, ↓v1_ifCond_lt, ↓v1_ifCond_ge, ↓v1_ifCond_gt, ↓v1_ifCond_le, ↓v1_if_icmp_eq, ↓v1_if_icmp_ne, ↓v1_if_icmp_lt, ↓v1_if_icmp_ge, ↓v1_if_icmp_gt, ↓v1_if_icmp_le, ↓v1_if_acmp_ne, ↓v1_ifnull, ↓v1_ifnonnull, ↓v1_goto, ↓v1_tableswitch_0, ↓v1_return_, ↓v1_ireturn, ↓v1_lreturn, ↓v1_areturn, ↓v1_getfield_0, ↓v1_putfield_0, ↓v1_getstatic, ↓v1_iaload, ↓v1_laload, ↓v1_baload, ↓v1_aaload, ↓v1_iastore, ↓v1_lastore, ↓v1_bastore, ↓v1_aastore_0, ↓v1_arraylength, ↓v1_new_0, ↓v1_newarray, ↓v1_anewarray, ↓v1_invokestatic_0, ↓v1_invokestatic_1, ↓v1_invokestatic_2a, ↓v1_invokevirtual_0, ↓v1_invokespecial_0, ↓v1_invokespecial_1a, ↓v1_invokespecial_1b, ↓vi_ii_e, ↓vi_i_e, ↓vi_jj_e, ↓vi_j_e, ↓vi_ij_e, ↓vi_r_e, ↓vi_rr_e, ↓vi_o_e, ↓vi_ir_e, ↓vi_iir_e, ↓vi_jir_e, ↓vi_rir_e, ↓vi_pop_z, ↓vi_pop_s, ↓vi_sw_n, ↓vi_sw_c, ↓vi_li_z, ↓vi_li_s, ↓vi_ll_z, ↓vi_ll_s, ↓vi_lr_z, ↓vi_lr_s, ↓vi_ret_l, ↓vi_ret_r, vi_sv, vg_set1, vg_set2, vg_lo, List.headD, List.contains_nil, List.contains_cons, Bool.or_false, Bool.false_eq_true, if_false, if_true, Nat.reduceAdd, Nat.reduceBEq, List.nil_append, List.cons_append, List.append_nil, Option.toList, Int32.reduceOfNat, Int64.reduceOfNat, reduceCtorEq, Nat.reduceLeDiff, Nat.le_refl, Nat.zero_le, true_and, and_true, false_or, or_false, or_true, true_or, and_self, not_true_eq_false, not_false_eq_true, forall_const, false_implies, true_implies, Sum.inl.injEq, Sum.inr.injEq, Option.some.injEq, eq_self, oI_1, oI_m, oI_5, oI_L, vi_ws_nil, vi_ws_I, vi_ws_J, vi_ws_R, wi_k, wi_n, wi_r, wi_l, wr_k, wr_n, wr_i, wr_l, wl_k, wl_n, wl_i, wl_r, Nat.reduceSub, Nat.reduceMul, cd_114_0, cd_114_2, cd_114_20, cd_114_21, cd_114_28, cd_114_30, cd_114_47, cd_114_59, cd_114_126, cd_114_134, cd_114_136, cd_114_144, cd_114_167, cd_114_173, at_114_2, at_114_20, at_114_21, at_114_28, at_114_30, at_114_47, at_114_59, at_114_126, at_114_134, at_114_136, at_114_144, at_114_167, at_114_173, mc_114, ms_114, mr_114, mh_114, ml_114, mc_104, ms_104]
    intro x4 q4
    rw [← nI_succ] at q4; subst q4
    exact ih (k + 1) h' (by omega) p1 p2
set_option maxRecDepth 100000 in
theorem c_114 {S : SS} {h : vg_H} {q R : Nat} {s : Nat → Nat} (hq : q < 3) (hR : R ≤ 8000) (hb : ∀ i, i < 6 → S 35 (6 * q + i) = nI (s i) ∧ s i ≤ 500) (hP : MP b S w h0 h) (hQ : ∀ h', MP b S w h0 h' → (∀ i, i ≤ 6 → TB b h' s i (R + 1)) → Q (.inl none) h') : vg_C G (MT 114) [.inr (.inr (some (b + 37))), .inl (nI q), .inl (nI R)] h Q := by
  refine vg_C_of rfl (by decide +kernel) (Nat.le_of_ble_eq_true rfl) ?_
  refine vi_run ok_114 [2] 40 ?_
  rw [at_114_0]
  simp only [vg_ent, vg_en, List.length_cons, List.length_nil, Nat.reduceAdd, Nat.reduceSub, List.replicate, List.append_nil, List.nil_append, List.cons_append, mn_114]
  simp only [↓reduceIte, vi_go_c, ↓v1_iadd, ↓v1_isub, ↓v1_imul, ↓v1_iand, ↓v1_idiv, ↓v1_irem, ↓v1_ineg, ↓v1_ladd, ↓v1_lsub, ↓v1_land, ↓v1_lcmp, ↓v1_lshl, ↓v1_lshr, ↓v1_i2l, ↓v1_l2i, ↓v1_iconst_0, ↓v1_iconst_m, ↓v1_bipush, ↓v1_sipush, ↓v1_ldc, ↓v1_ldc_w, ↓v1_lconst, ↓v1_ldc2_w, ↓v1_aconst_null, ↓v1_iload, ↓v1_iload_n, ↓v1_lload, ↓v1_lload_n, ↓v1_aload, ↓v1_aload_n, ↓v1_istore, ↓v1_istore_n, ↓v1_lstore, ↓v1_lstore_n, ↓v1_astore, ↓v1_astore_n, ↓v1_iinc, ↓v1_dup, ↓v1_dup2, ↓v1_ifCond_eq, ↓v1_ifCond_ne, ↓v1_ifCond_lt, ↓v1_ifCond_ge, ↓v1_ifCond_gt, ↓v1_ifCond_le, ↓v1_if_icmp_eq, ↓v1_if_icmp_ne, ↓v1_if_icmp_lt, ↓v1_if_icmp_ge, ↓v1_if_icmp_gt, ↓v1_if_icmp_le, ↓v1_if_acmp_ne, ↓v1_ifnull, ↓v1_ifnonnull, ↓v1_goto, ↓v1_tableswitch_0, ↓v1_return_, ↓v1_ireturn, ↓v1_lreturn, ↓v1_areturn, ↓v1_getfield_0, ↓v1_putfield_0, ↓v1_getstatic, ↓v1_iaload, ↓v1_laload, ↓v1_baload, ↓v1_aaload, ↓v1_iastore, ↓v1_lastore, ↓v1_bastore, ↓v1_aastore_0, ↓v1_arraylength, ↓v1_new_0, ↓v1_newarray, ↓v1_anewarray, ↓v1_invokestatic_0, ↓v1_invokestatic_1, ↓v1_invokestatic_2a, ↓v1_invokevirtual_0, ↓v1_invokespecial_0, ↓v1_invokespecial_1a, ↓v1_invokespecial_1b, ↓vi_ii_e, ↓vi_i_e, ↓vi_jj_e, ↓vi_j_e, ↓vi_ij_e, ↓vi_r_e, ↓vi_rr_e, ↓vi_o_e, ↓vi_ir_e, ↓vi_iir_e, ↓vi_jir_e, ↓vi_rir_e, ↓vi_pop_z, ↓vi_pop_s, ↓vi_sw_n, ↓vi_sw_c, ↓vi_li_z, ↓vi_li_s, ↓vi_ll_z, ↓vi_ll_s, ↓vi_lr_z, ↓vi_lr_s, ↓vi_ret_l, ↓vi_ret_r, vi_sv, vg_set1, vg_set2, vg_lo, List.headD, List.contains_nil, List.contains_cons, Bool.or_false, Bool.false_eq_true, if_false, if_true, Nat.reduceAdd, Nat.reduceBEq, List.nil_append, List.cons_append, List.append_nil, Option.toList, Int32.reduceOfNat, Int64.reduceOfNat, reduceCtorEq, Nat.reduceLeDiff, Nat.le_refl, Nat.zero_le, true_and, and_true, false_or, or_false, or_true, true_or, and_self, not_true_eq_false, not_false_eq_true, forall_const, false_implies, true_implies, Sum.inl.injEq, Sum.inr.injEq, Option.some.injEq, eq_self, oI_1, oI_m, oI_5, oI_L, vi_ws_nil, vi_ws_I, vi_ws_J, vi_ws_R, wi_k, wi_n, wi_r, wi_l, wr_k, wr_n, wr_i, wr_l, wl_k, wl_n, wl_i, wl_r, Nat.reduceSub, Nat.reduceMul, cd_114_0, cd_114_2, cd_114_20, cd_114_21, cd_114_28, cd_114_30, cd_114_47, cd_114_59, cd_114_126, cd_114_134, cd_114_136, cd_114_144, cd_114_167, cd_114_173, at_114_2, at_114_20, at_114_21, at_114_28, at_114_30, at_114_47, at_114_59, at_114_126, at_114_134, at_114_136, at_114_144, at_114_167, at_114_173, mc_114, ms_114, mr_114, mh_114, ml_114, mc_104, ms_104]
  refine l_114a hR (s := s) (fun h' p1 p2 => ?_) (R + 1) 0 h (by omega) hP (fun r hr => by omega)
  refine vi_run ok_114 [30] 40 ?_
  rw [at_114_28]
  simp only [↓reduceIte, vi_go_c, ↓v1_iadd, ↓v1_isub, ↓v1_imul, ↓v1_iand, ↓v1_idiv, ↓v1_irem, ↓v1_ineg, ↓v1_ladd, ↓v1_lsub, ↓v1_land, ↓v1_lcmp, ↓v1_lshl, ↓v1_lshr, ↓v1_i2l, ↓v1_l2i, ↓v1_iconst_0, ↓v1_iconst_m, ↓v1_bipush, ↓v1_sipush, ↓v1_ldc, ↓v1_ldc_w, ↓v1_lconst, ↓v1_ldc2_w, ↓v1_aconst_null, ↓v1_iload, ↓v1_iload_n, ↓v1_lload, ↓v1_lload_n, ↓v1_aload, ↓v1_aload_n, ↓v1_istore, ↓v1_istore_n, ↓v1_lstore, ↓v1_lstore_n, ↓v1_astore, ↓v1_astore_n, ↓v1_iinc, ↓v1_dup, ↓v1_dup2, ↓v1_ifCond_eq, ↓v1_ifCond_ne, ↓v1_ifCond_lt, ↓v1_ifCond_ge, ↓v1_ifCond_gt, ↓v1_ifCond_le, ↓v1_if_icmp_eq, ↓v1_if_icmp_ne, ↓v1_if_icmp_lt, ↓v1_if_icmp_ge, ↓v1_if_icmp_gt, ↓v1_if_icmp_le, ↓v1_if_acmp_ne, ↓v1_ifnull, ↓v1_ifnonnull, ↓v1_goto, ↓v1_tableswitch_0, ↓v1_return_, ↓v1_ireturn, ↓v1_lreturn, ↓v1_areturn, ↓v1_getfield_0, ↓v1_putfield_0, ↓v1_getstatic, ↓v1_iaload, ↓v1_laload, ↓v1_baload, ↓v1_aaload, ↓v1_iastore, ↓v1_lastore, ↓v1_bastore, ↓v1_aastore_0, ↓v1_arraylength, ↓v1_new_0, ↓v1_newarray, ↓v1_anewarray, ↓v1_invokestatic_0, ↓v1_invokestatic_1, ↓v1_invokestatic_2a, ↓v1_invokevirtual_0, ↓v1_invokespecial_0, ↓v1_invokespecial_1a, ↓v1_invokespecial_1b, ↓vi_ii_e, ↓vi_i_e, ↓vi_jj_e, ↓vi_j_e, ↓vi_ij_e, ↓vi_r_e, ↓vi_rr_e, ↓vi_o_e, ↓vi_ir_e, ↓vi_iir_e, ↓vi_jir_e, ↓vi_rir_e, ↓vi_pop_z, ↓vi_pop_s, ↓vi_sw_n, ↓vi_sw_c, ↓vi_li_z, ↓vi_li_s, ↓vi_ll_z, ↓vi_ll_s, ↓vi_lr_z, ↓vi_lr_s, ↓vi_ret_l, ↓vi_ret_r, vi_sv, vg_set1, vg_set2, vg_lo, List.headD, List.contains_nil, List.contains_cons, Bool.or_false, Bool.false_eq_true, if_false, if_true, Nat.reduceAdd, Nat.reduceBEq, List.nil_append, List.cons_append, List.append_nil, Option.toList, Int32.reduceOfNat, Int64.reduceOfNat, reduceCtorEq, Nat.reduceLeDiff, Nat.le_refl, Nat.zero_le, true_and, and_true, false_or, or_false, or_true, true_or, and_self, not_true_eq_false, not_false_eq_true, forall_const, false_implies, true_implies, Sum.inl.injEq, Sum.inr.injEq, Option.some.injEq, eq_self, oI_1, oI_m, oI_5, oI_L, vi_ws_nil, vi_ws_I, vi_ws_J, vi_ws_R, wi_k, wi_n, wi_r, wi_l, wr_k, wr_n, wr_i, wr_l, wl_k, wl_n, wl_i, wl_r, Nat.reduceSub, Nat.reduceMul, cd_114_0, cd_114_2, cd_114_20, cd_114_21, cd_114_28, cd_114_30, cd_114_47, cd_114_59, cd_114_126, cd_114_134, cd_114_136, cd_114_144, cd_114_167, cd_114_173, at_114_2, at_114_20, at_114_21, at_114_28, at_114_30, at_114_47, at_114_59, at_114_126, at_114_134, at_114_136, at_114_144, at_114_167, at_114_173, mc_114, ms_114, mr_114, mh_114, ml_114, mc_104, ms_104]
  exact l_114k hq hR hb hQ 6 0 h' (by omega) p1 (fun i hi => by rw [show i = 0 by omega]; exact p2)
end MK
/-- the machine gives x: kinds below k -/
def gG (q : Nat) (x : Nat → Nat) : Nat → SS → SS
  | 0, S => S
  | k + 1, S => gG q x k (up (up S 37 (6 * q + k) (nI (x k))) 35 (6 * q + k) (S 35 (6 * q + k) - nI (x k)))
theorem gG_congr {q : Nat} {x y : Nat → Nat} : ∀ (k : Nat) (S : SS), (∀ i, i < k → x i = y i) → gG q x k S = gG q y k S
  | 0, _, _ => rfl
  | k + 1, S, h => by rw [gG, gG, h k (by omega), gG_congr k _ (fun i hi => h i (by omega))]
section ML2
variable {G : vg_G} {b : Nat} {h0 : vg_H} {w : Int32} {Q : vg_O → vg_H → Prop}
/-- j is the most of kind k below J with which d coins do, or 0 -/
def mstJ (s : Nat → Nat) (k sm d J m : Nat) : Prop := (∀ i, i < J → m < i → ∀ a, FWn s k (sm - i * unN k) (some a) → ¬ a + i = d) ∧ (m < J ∨ m = 0) ∧ ((∃ i, i < J ∧ ∃ a, FWn s k (sm - i * unN k) (some a) ∧ a + i = d) → m < J ∧ ∃ a, FWn s k (sm - m * unN k) (some a) ∧ a + m = d)
set_option maxRecDepth 100000 in
theorem l_117j {S : SS} {q R k sm d : Nat} {x : Option vg_V} {s : Nat → Nat} (hq : q < 3) (hk : k < 6) (hR : R ≤ 8000) (hsm : sm ≤ R) (hd : d ≤ 3000) (hb : S 35 (6 * q + k) = nI (s k)) (hs : ∀ i, i < 6 → s i ≤ 500) {h : vg_H} (hP : MP b S w h0 h) (hT : TB b h s k (R + 1)) (hQ : ∀ J m, (s k < J ∨ sm < J * unN k) → (∀ i, i < J → i ≤ s k ∧ i * unN k ≤ sm) → mstJ s k sm d J m → vg_A G (MT 117) 0 0 119 [some (.inr (.inr (some (b + 37)))), some (.inl (nI q)), x, some (.inl (nI sm)), some (.inl (nI k)), some (.inl (nI (unN k))), none, some (.inl (nI m)), none, none] [] h Q) : ∀ (n j m : Nat), j + n = s k + 1 → (∀ i, i < j → i ≤ s k ∧ i * unN k ≤ sm) → mstJ s k sm d j m →
    vg_A G (MT 117) 0 0 42 [some (.inr (.inr (some (b + 37)))), some (.inl (nI q)), x, some (.inl (nI sm)), some (.inl (nI k)), some (.inl (nI (unN k))), some (.inl (nI d)), some (.inl (nI m)), some (.inl (nI j)), none] [] h Q := by
  have hM := hP.mx
  have k0 : (h).1 (b + 37) = 11 := hM.1
  have r35 : (h).2.2.2.2.1 (b + 37) 35 = some (ar b 35) := (hM.2.1 35 (by decide)).1
  have k35 : (h).1 (ar b 35) = 100 := (hM.2.1 35 (by decide)).2.1
  have n35 : (h).2.1 (ar b 35) = 18 := (hM.2.1 35 (by decide)).2.2
  have r50 : (h).2.2.2.2.1 (b + 37) 50 = some (ar b 50) := (hM.2.1 50 (by decide)).1
  have k50 : (h).1 (ar b 50) = 100 := (hM.2.1 50 (by decide)).2.1
  have n50 : (h).2.1 (ar b 50) = 56007 := (hM.2.1 50 (by decide)).2.2
  have g2 := hs k hk
  have ub := unN_b k
  have f35 := hM.2.2.1 35 (6 * q + k) (show _ < 18 by omega) rfl
  rw [hb] at f35
  have y1 := nI_clamp (show 6 * q + k < 2 ^ 31 by omega)
  have y2 : vp_in (nI (6 * q + k)) 18 := vp_nI (by omega) (by omega)
  intro n
  induction n with
  | zero =>
    intro j m hj hlt hv
    refine vi_run ok_117 [119, 59] 40 ?_
    rw [at_117_42]
    simp only [↓reduceIte, vi_go_c, ↓v1_iadd, ↓v1_isub, ↓v1_imul, ↓v1_iand, ↓v1_idiv, ↓v1_irem, ↓v1_ineg, ↓v1_ladd, ↓v1_lsub, ↓v1_land, ↓v1_lcmp, ↓v1_lshl, ↓v1_lshr, ↓v1_i2l, ↓v1_l2i, ↓v1_iconst_0, ↓v1_iconst_m, ↓v1_bipush, ↓v1_sipush, ↓v1_ldc, ↓v1_ldc_w, ↓v1_lconst, ↓v1_ldc2_w, ↓v1_aconst_null, ↓v1_iload, ↓v1_iload_n, ↓v1_lload, ↓v1_lload_n, ↓v1_aload, ↓v1_aload_n, ↓v1_istore, ↓v1_istore_n, ↓v1_lstore, ↓v1_lstore_n, ↓v1_astore, ↓v1_astore_n, ↓v1_iinc, ↓v1_dup, ↓v1_dup2, ↓v1_ifCond_eq, ↓v1_ifCond_ne, ↓v1_ifCond_lt, ↓v1_ifCond_ge, ↓v1_ifCond_gt, ↓v1_ifCond_le, ↓v1_if_icmp_eq, ↓v1_if_icmp_ne, ↓v1_if_icmp_lt, ↓v1_if_icmp_ge, ↓v1_if_icmp_gt, ↓v1_if_icmp_le, ↓v1_if_acmp_ne, ↓v1_ifnull, ↓v1_ifnonnull, ↓v1_goto, ↓v1_tableswitch_0, ↓v1_return_, ↓v1_ireturn, ↓v1_lreturn, ↓v1_areturn, ↓v1_getfield_0, ↓v1_putfield_0, ↓v1_getstatic, ↓v1_iaload, ↓v1_laload, ↓v1_baload, ↓v1_aaload, ↓v1_iastore, ↓v1_lastore, ↓v1_bastore, ↓v1_aastore_0, ↓v1_arraylength, ↓v1_new_0, ↓v1_newarray, ↓v1_anewarray, ↓v1_invokestatic_0, ↓v1_invokestatic_1, ↓v1_invokestatic_2a, ↓v1_invokevirtual_0, ↓v1_invokespecial_0, ↓v1_invokespecial_1a, ↓v1_invokespecial_1b, ↓vi_ii_e, ↓vi_i_e, ↓vi_jj_e, ↓vi_j_e, ↓vi_ij_e, ↓vi_r_e, ↓vi_rr_e, ↓vi_o_e, ↓vi_ir_e, ↓vi_iir_e, ↓vi_jir_e, ↓vi_rir_e, ↓vi_pop_z, ↓vi_pop_s, ↓vi_sw_n, ↓vi_sw_c, ↓vi_li_z, ↓vi_li_s, ↓vi_ll_z, ↓vi_ll_s, ↓vi_lr_z, ↓vi_lr_s, ↓vi_ret_l, ↓vi_ret_r, vi_sv, vg_set1, vg_set2, vg_lo, List.headD, List.contains_nil, List.contains_cons, Bool.or_false, Bool.false_eq_true, if_false, if_true, Nat.reduceAdd, Nat.reduceBEq, List.nil_append, List.cons_append, List.append_nil, Option.toList, Int32.reduceOfNat, Int64.reduceOfNat, reduceCtorEq, Nat.reduceLeDiff, Nat.le_refl, Nat.zero_le, true_and, and_true, false_or, or_false, or_true, true_or, and_self, not_true_eq_false, not_false_eq_true, forall_const, false_implies, true_implies, Sum.inl.injEq, Sum.inr.injEq, Option.some.injEq, eq_self, oI_1, oI_m, oI_5, oI_L, vi_ws_nil, vi_ws_I, vi_ws_J, vi_ws_R, wi_k, wi_n, wi_r, wi_l, wr_k, wr_n, wr_i, wr_l, wl_k, wl_n, wl_i, wl_r, Nat.reduceSub, Nat.reduceMul, cd_117_0, cd_117_5, cd_117_42, cd_117_109, cd_117_111, cd_117_119, cd_117_174, at_117_5, at_117_42, at_117_109, at_117_111, at_117_119, at_117_174, mc_117, ms_117, mr_117, mh_117, ml_117, mc_104, ms_104, k0, r35, k35, n35]
    intro x1 q1 x2 q2
    rw [show (6 : Int32) = nI 6 from rfl, nI_m] at q1
    subst q1
    rw [nI_add] at q2
    subst q2
    rw [y1, f35]
    refine ⟨y2, fun e => ?_, fun e => absurd (nI_lt (by omega) (by omega)) e⟩
    exact vr_less (vr_none 6 rfl) (vr_less (vr_none 8 rfl) (hQ j m (Or.inl (by omega)) hlt hv))
  | succ n ih =>
    intro j m hj hlt hv
    have jub : j * unN k ≤ 500 * 40 := Nat.mul_le_mul (by omega) ub.2
    have nx : j * unN k ≤ sm → ∀ m', mstJ s k sm d (j + 1) m' → ∀ (u : Option vg_V), vg_A G (MT 117) 0 0 111 [some (.inr (.inr (some (b + 37)))), some (.inl (nI q)), x, some (.inl (nI sm)), some (.inl (nI k)), some (.inl (nI (unN k))), some (.inl (nI d)), some (.inl (nI m)), some (.inl (nI j)), u] [.inl (nI m')] h Q := by
      intro hju m' hv' u
      refine vi_run ok_117 [42] 20 ?_
      rw [at_117_111]
      simp only [↓reduceIte, vi_go_c, ↓v1_iadd, ↓v1_isub, ↓v1_imul, ↓v1_iand, ↓v1_idiv, ↓v1_irem, ↓v1_ineg, ↓v1_ladd, ↓v1_lsub, ↓v1_land, ↓v1_lcmp, ↓v1_lshl, ↓v1_lshr, ↓v1_i2l, ↓v1_l2i, ↓v1_iconst_0, ↓v1_iconst_m, ↓v1_bipush, ↓v1_sipush, ↓v1_ldc, ↓v1_ldc_w, ↓v1_lconst, ↓v1_ldc2_w, ↓v1_aconst_null, ↓v1_iload, ↓v1_iload_n, ↓v1_lload, ↓v1_lload_n, ↓v1_aload, ↓v1_aload_n, ↓v1_istore, ↓v1_istore_n, ↓v1_lstore, ↓v1_lstore_n, ↓v1_astore, ↓v1_astore_n, ↓v1_iinc, ↓v1_dup, ↓v1_dup2, ↓v1_ifCond_eq, ↓v1_ifCond_ne, ↓v1_ifCond_lt, ↓v1_ifCond_ge, ↓v1_ifCond_gt, ↓v1_ifCond_le, ↓v1_if_icmp_eq, ↓v1_if_icmp_ne, ↓v1_if_icmp_lt, ↓v1_if_icmp_ge, ↓v1_if_icmp_gt, ↓v1_if_icmp_le, ↓v1_if_acmp_ne, ↓v1_ifnull, ↓v1_ifnonnull, ↓v1_goto, ↓v1_tableswitch_0, ↓v1_return_, ↓v1_ireturn, ↓v1_lreturn, ↓v1_areturn, ↓v1_getfield_0, ↓v1_putfield_0, ↓v1_getstatic, ↓v1_iaload, ↓v1_laload, ↓v1_baload, ↓v1_aaload, ↓v1_iastore, ↓v1_lastore, ↓v1_bastore, ↓v1_aastore_0, ↓v1_arraylength, ↓v1_new_0, ↓v1_newarray, ↓v1_anewarray, ↓v1_invokestatic_0, ↓v1_invokestatic_1, ↓v1_invokestatic_2a, ↓v1_invokevirtual_0, ↓v1_invokespecial_0, ↓v1_invokespecial_1a, ↓v1_invokespecial_1b, ↓vi_ii_e, ↓vi_i_e, ↓vi_jj_e, ↓vi_j_e, ↓vi_ij_e, ↓vi_r_e, ↓vi_rr_e, ↓vi_o_e, ↓vi_ir_e, ↓vi_iir_e, ↓vi_jir_e, ↓vi_rir_e, ↓vi_pop_z, ↓vi_pop_s, ↓vi_sw_n, ↓vi_sw_c, ↓vi_li_z, ↓vi_li_s, ↓vi_ll_z, ↓vi_ll_s, ↓vi_lr_z, ↓vi_lr_s, ↓vi_ret_l, ↓vi_ret_r, vi_sv, vg_set1, vg_set2, vg_lo, List.headD, List.contains_nil, List.contains_cons, Bool.or_false, Bool.false_eq_true, if_false, if_true, Nat.reduceAdd, Nat.reduceBEq, List.nil_append, List.cons_append, List.append_nil, Option.toList, Int32.reduceOfNat, Int64.reduceOfNat, reduceCtorEq, Nat.reduceLeDiff, Nat.le_refl, Nat.zero_le, true_and, and_true, false_or, or_false, or_true, true_or, and_self, not_true_eq_false, not_false_eq_true, forall_const, false_implies, true_implies, Sum.inl.injEq, Sum.inr.injEq, Option.some.injEq, eq_self, oI_1, oI_m, oI_5, oI_L, vi_ws_nil, vi_ws_I, vi_ws_J, vi_ws_R, wi_k, wi_n, wi_r, wi_l, wr_k, wr_n, wr_i, wr_l, wl_k, wl_n, wl_i, wl_r, Nat.reduceSub, Nat.reduceMul, cd_117_0, cd_117_5, cd_117_42, cd_117_109, cd_117_111, cd_117_119, cd_117_174, at_117_5, at_117_42, at_117_109, at_117_111, at_117_119, at_117_174, mc_117, ms_117, mr_117, mh_117, ml_117, mc_104, ms_104]
      intro x1 q1
      rw [← nI_succ] at q1; subst q1
      exact vr_less (vr_none 9 rfl) (ih (j + 1) m' (by omega) (fun i hi => if e : i = j then by subst e; exact ⟨by omega, hju⟩ else hlt i (by omega)) hv')
    have stay : (∀ a, FWn s k (sm - j * unN k) (some a) → ¬ a + j = d) → mstJ s k sm d (j + 1) m := by
      intro hn
      obtain ⟨m1, m2, m3⟩ := hv
      refine ⟨fun i hi hm => if e : i = j then by subst e; exact hn else m1 i (by omega) hm, m2.elim (fun z => Or.inl (by omega)) Or.inr, ?_⟩
      rintro ⟨i, i1, a, i2, i3⟩
      by_cases e : i = j
      · subst e; exact absurd i3 (hn a i2)
      · obtain ⟨z1, z2⟩ := m3 ⟨i, by omega, a, i2, i3⟩
        exact ⟨by omega, z2⟩
    have take : (∃ a, FWn s k (sm - j * unN k) (some a) ∧ a + j = d) → mstJ s k sm d (j + 1) j := by
      intro hn
      exact ⟨fun i hi hm => by omega, Or.inl (by omega), fun _ => ⟨by omega, hn⟩⟩
    have j68 : j * unN k ≤ sm → vg_A G (MT 117) 0 0 68 [some (.inr (.inr (some (b + 37)))), some (.inl (nI q)), x, some (.inl (nI sm)), some (.inl (nI k)), some (.inl (nI (unN k))), some (.inl (nI d)), some (.inl (nI m)), some (.inl (nI j)), none] [] h Q := by
      intro hju
      obtain ⟨o, o1, o2⟩ := hT (sm - j * unN k) (by omega)
      refine vi_run ok_117 [111] 40 ?_
      rw [show vi_at cd_117 68 = (68, 1, .aload_n 0, [0]) :: (69, 3, .getfield 137, [10, 50, 2, 946]) :: (72, 3, .sipush 8001, [8001]) :: (75, 2, .iload 4, [4]) :: (77, 1, .imul, []) :: (78, 1, .iload_n 3, [3]) :: (79, 1, .iadd, []) :: (80, 2, .iload 8, [8]) :: (82, 2, .iload 5, [5]) :: (84, 1, .imul, []) :: (85, 1, .isub, []) :: (86, 1, .iaload, []) :: (87, 2, .istore 9, [9]) :: (89, 2, .iload 9, [9]) :: (91, 3, .ifCond .lt 18, [109]) :: (94, 2, .iload 9, [9]) :: (96, 2, .iload 8, [8]) :: (98, 1, .iadd, []) :: (99, 2, .iload 6, [6]) :: (101, 3, .if_icmp .ne 8, [109]) :: (104, 2, .iload 8, [8]) :: (106, 3, .goto 5, [111]) :: cd_117_109 from rfl]
      simp only [↓reduceIte, vi_go_c, ↓v1_iadd, ↓v1_isub, ↓v1_imul, ↓v1_iand, ↓v1_idiv, ↓v1_irem, ↓v1_ineg, ↓v1_ladd, ↓v1_lsub, ↓v1_land, ↓v1_lcmp, ↓v1_lshl, ↓v1_lshr, ↓v1_i2l, ↓v1_l2i, ↓v1_iconst_0, ↓v1_iconst_m, ↓v1_bipush, ↓v1_sipush, ↓v1_ldc, ↓v1_ldc_w, ↓v1_lconst, ↓v1_ldc2_w, ↓v1_aconst_null, ↓v1_iload, ↓v1_iload_n, ↓v1_lload, ↓v1_lload_n, ↓v1_aload, ↓v1_aload_n, ↓v1_istore, ↓v1_istore_n, ↓v1_lstore, ↓v1_lstore_n, ↓v1_astore, ↓v1_astore_n, ↓v1_iinc, ↓v1_dup, ↓v1_dup2, ↓v1_ifCond_eq, ↓v1_ifCond_ne, ↓v1_ifCond_lt, ↓v1_ifCond_ge, ↓v1_ifCond_gt, ↓v1_ifCond_le, ↓v1_if_icmp_eq, ↓v1_if_icmp_ne, ↓v1_if_icmp_lt, ↓v1_if_icmp_ge, ↓v1_if_icmp_gt, ↓v1_if_icmp_le, ↓v1_if_acmp_ne, ↓v1_ifnull, ↓v1_ifnonnull, ↓v1_goto, ↓v1_tableswitch_0, ↓v1_return_, ↓v1_ireturn, ↓v1_lreturn, ↓v1_areturn, ↓v1_getfield_0, ↓v1_putfield_0, ↓v1_getstatic, ↓v1_iaload, ↓v1_laload, ↓v1_baload, ↓v1_aaload, ↓v1_iastore, ↓v1_lastore, ↓v1_bastore, ↓v1_aastore_0, ↓v1_arraylength, ↓v1_new_0, ↓v1_newarray, ↓v1_anewarray, ↓v1_invokestatic_0, ↓v1_invokestatic_1, ↓v1_invokestatic_2a, ↓v1_invokevirtual_0, ↓v1_invokespecial_0, ↓v1_invokespecial_1a, ↓v1_invokespecial_1b, ↓vi_ii_e, ↓vi_i_e, ↓vi_jj_e, ↓vi_j_e, ↓vi_ij_e, ↓vi_r_e, ↓vi_rr_e, ↓vi_o_e, ↓vi_ir_e, ↓vi_iir_e, ↓vi_jir_e, ↓vi_rir_e, ↓vi_pop_z, ↓vi_pop_s, ↓vi_sw_n, ↓vi_sw_c, ↓vi_li_z, ↓vi_li_s, ↓vi_ll_z, ↓vi_ll_s, ↓vi_lr_z, ↓vi_lr_s, ↓vi_ret_l, ↓vi_ret_r, vi_sv, vg_set1, vg_set2, vg_lo, List.headD, List.contains_nil, List.contains_cons, Bool.or_false, Bool.false_eq_true, if_false, if_true, Nat.reduceAdd, Nat.reduceBEq, List.nil_append, List.cons_append, List.append_nil, Option.toList, Int32.reduceOfNat, Int64.reduceOfNat, reduceCtorEq, Nat.reduceLeDiff, Nat.le_refl, Nat.zero_le, true_and, and_true, false_or, or_false, or_true, true_or, and_self, not_true_eq_false, not_false_eq_true, forall_const, false_implies, true_implies, Sum.inl.injEq, Sum.inr.injEq, Option.some.injEq, eq_self, oI_1, oI_m, oI_5, oI_L, vi_ws_nil, vi_ws_I, vi_ws_J, vi_ws_R, wi_k, wi_n, wi_r, wi_l, wr_k, wr_n, wr_i, wr_l, wl_k, wl_n, wl_i, wl_r, Nat.reduceSub, Nat.reduceMul, cd_117_0, cd_117_5, cd_117_42, cd_117_109, cd_117_111, cd_117_119, cd_117_174, at_117_5, at_117_42, at_117_109, at_117_111, at_117_119, at_117_174, mc_117, ms_117, mr_117, mh_117, ml_117, mc_104, ms_104, k0, r50, k50, n50]
      intro x1 q1 x2 q2 x3 q3 x4 q4
      rw [show (8001 : Int32) = nI 8001 from rfl, nI_m] at q1
      subst q1
      rw [nI_add] at q2
      subst q2
      rw [nI_m] at q3
      subst q3
      rw [nI_subN (by omega), show 8001 * k + sm - j * unN k = 8001 * k + (sm - j * unN k) by omega] at q4
      subst q4
      rw [nI_clamp (by omega), o2]
      refine ⟨vp_nI (by omega) (by omega), ?_⟩
      cases o with
      | none =>
        refine ⟨fun _ => nx hju m (stay (fun a ha => by have := FWn_uniq o1 ha; cases this)) _, fun e => absurd (by decide) e⟩
      | some a =>
        have a1 : a ≤ 3000 := by
          have := FWn_le (fun i hi => hs i (by omega)) o1
          omega
        refine ⟨fun e => absurd e (nI_pos (by omega)), fun _ x5 q5 => ?_⟩
        rw [show encO (some a) = nI a from rfl, nI_add] at q5
        subst q5
        rw [nI_eq (by omega) (by omega)]
        refine ⟨fun e => nx hju m (stay (fun a' ha => ?_)) _, fun e => nx hju j (take ⟨a, o1, Classical.not_not.mp e⟩) _⟩
        have := FWn_uniq o1 ha
        injection this with this
        subst this
        exact e
    refine vi_run ok_117 [119, 68] 40 ?_
    rw [at_117_42]
    simp only [↓reduceIte, vi_go_c, ↓v1_iadd, ↓v1_isub, ↓v1_imul, ↓v1_iand, ↓v1_idiv, ↓v1_irem, ↓v1_ineg, ↓v1_ladd, ↓v1_lsub, ↓v1_land, ↓v1_lcmp, ↓v1_lshl, ↓v1_lshr, ↓v1_i2l, ↓v1_l2i, ↓v1_iconst_0, ↓v1_iconst_m, ↓v1_bipush, ↓v1_sipush, ↓v1_ldc, ↓v1_ldc_w, ↓v1_lconst, ↓v1_ldc2_w, ↓v1_aconst_null, ↓v1_iload, ↓v1_iload_n, ↓v1_lload, ↓v1_lload_n, ↓v1_aload, ↓v1_aload_n, ↓v1_istore, ↓v1_istore_n, ↓v1_lstore, ↓v1_lstore_n, ↓v1_astore, ↓v1_astore_n, ↓v1_iinc, ↓v1_dup, ↓v1_dup2, ↓v1_ifCond_eq, ↓v1_ifCond_ne, ↓v1_ifCond_lt, ↓v1_ifCond_ge, ↓v1_ifCond_gt, ↓v1_ifCond_le, ↓v1_if_icmp_eq, ↓v1_if_icmp_ne, ↓v1_if_icmp_lt, ↓v1_if_icmp_ge, ↓v1_if_icmp_gt, ↓v1_if_icmp_le, ↓v1_if_acmp_ne, ↓v1_ifnull, ↓v1_ifnonnull, ↓v1_goto, ↓v1_tableswitch_0, ↓v1_return_, ↓v1_ireturn, ↓v1_lreturn, ↓v1_areturn, ↓v1_getfield_0, ↓v1_putfield_0, ↓v1_getstatic, ↓v1_iaload, ↓v1_laload, ↓v1_baload, ↓v1_aaload, ↓v1_iastore, ↓v1_lastore, ↓v1_bastore, ↓v1_aastore_0, ↓v1_arraylength, ↓v1_new_0, ↓v1_newarray, ↓v1_anewarray, ↓v1_invokestatic_0, ↓v1_invokestatic_1, ↓v1_invokestatic_2a, ↓v1_invokevirtual_0, ↓v1_invokespecial_0, ↓v1_invokespecial_1a, ↓v1_invokespecial_1b, ↓vi_ii_e, ↓vi_i_e, ↓vi_jj_e, ↓vi_j_e, ↓vi_ij_e, ↓vi_r_e, ↓vi_rr_e, ↓vi_o_e, ↓vi_ir_e, ↓vi_iir_e, ↓vi_jir_e, ↓vi_rir_e, ↓vi_pop_z, ↓vi_pop_s, ↓vi_sw_n, ↓vi_sw_c, ↓vi_li_z, ↓vi_li_s, ↓vi_ll_z, ↓vi_ll_s, ↓vi_lr_z, ↓vi_lr_s, ↓vi_ret_l, ↓vi_ret_r, vi_sv, vg_set1, vg_set2, vg_lo, List.headD, List.contains_nil, List.contains_cons, Bool.or_false, Bool.false_eq_true, if_false, if_true, Nat.reduceAdd, Nat.reduceBEq, List.nil_append, List.cons_append, List.append_nil, Option.toList, Int32.reduceOfNat, Int64.reduceOfNat, reduceCtorEq, Nat.reduceLeDiff, Nat.le_refl, Nat.zero_le, true_and, and_true, false_or, or_false, or_true, true_or, and_self, not_true_eq_false, not_false_eq_true, forall_const, false_implies, true_implies, Sum.inl.injEq, Sum.inr.injEq, Option.some.injEq, eq_self, oI_1, oI_m, oI_5, oI_L, vi_ws_nil, vi_ws_I, vi_ws_J, vi_ws_R, wi_k, wi_n, wi_r, wi_l, wr_k, wr_n, wr_i, wr_l, wl_k, wl_n, wl_i, wl_r, Nat.reduceSub, Nat.reduceMul, cd_117_0, cd_117_5, cd_117_42, cd_117_109, cd_117_111, cd_117_119, cd_117_174, at_117_5, at_117_42, at_117_109, at_117_111, at_117_119, at_117_174, mc_117, ms_117, mr_117, mh_117, ml_117, mc_104, ms_104, k0, r35, k35, n35]
    intro x1 q1 x2 q2
    rw [show (6 : Int32) = nI 6 from rfl, nI_m] at q1
    subst q1
    rw [nI_add] at q2
    subst q2
    rw [y1, f35]
    refine ⟨y2, fun e => absurd e (nI_nlt (by omega) (by omega)), fun _ x3 q3 => ?_⟩
    rw [nI_m] at q3
    subst q3
    rw [nI_ltI (by omega) (by omega)]
    exact ⟨fun e => vr_less (vr_none 6 rfl) (vr_less (vr_none 8 rfl) (hQ j m (Or.inr e) hlt hv)), fun e => j68 (by omega)⟩
set_option maxRecDepth 100000 in
theorem l_117 {q R : Nat} {x : Int32} {s : Nat → Nat} (hq : q < 3) (hR : R ≤ 8000) (hs : ∀ i, i < 6 → s i ≤ 500) : ∀ (k sm : Nat) (S : SS) (h : vg_H), k ≤ 6 → sm ≤ R → (∀ i, i < k → S 35 (6 * q + i) = nI (s i)) → MP b S w h0 h → (∀ i, i ≤ 6 → TB b h s i (R + 1)) → (∃ d, FWn s k sm (some d)) → (∀ x h', Opt s k sm x → MP b (gG q x k S) w h0 h' → Q (.inl none) h') →
    vg_A G (MT 117) 0 0 5 [some (.inr (.inr (some (b + 37)))), some (.inl (nI q)), some (.inl x), some (.inl (nI sm)), some (.inl (nI k + -1)), none, none, none, none, none] [] h Q := by
  intro k
  induction k with
  | zero =>
    intro sm S h hk hsm hb hP hT hd hQ
    have e1 : nI 0 + -1 < 0 := by decide
    refine vi_run ok_117 [10] 40 ?_
    rw [at_117_5]
    simp only [↓reduceIte, vi_go_c, ↓v1_iadd, ↓v1_isub, ↓v1_imul, ↓v1_iand, ↓v1_idiv, ↓v1_irem, ↓v1_ineg, ↓v1_ladd, ↓v1_lsub, ↓v1_land, ↓v1_lcmp, ↓v1_lshl, ↓v1_lshr, ↓v1_i2l, ↓v1_l2i, ↓v1_iconst_0, ↓v1_iconst_m, ↓v1_bipush, ↓v1_sipush, ↓v1_ldc, ↓v1_ldc_w, ↓v1_lconst, ↓v1_ldc2_w, ↓v1_aconst_null, ↓v1_iload, ↓v1_iload_n, ↓v1_lload, ↓v1_lload_n, ↓v1_aload, ↓v1_aload_n, ↓v1_istore, ↓v1_istore_n, ↓v1_lstore, ↓v1_lstore_n, ↓v1_astore, ↓v1_astore_n, ↓v1_iinc, ↓v1_dup, ↓v1_dup2, ↓v1_ifCond_eq, ↓v1_ifCond_ne, ↓v1_ifCond_lt, ↓v1_ifCond_ge, ↓v1_ifCond_gt, ↓v1_ifCond_le, ↓v1_if_icmp_eq, ↓v1_if_icmp_ne, ↓v1_if_icmp_lt, ↓v1_if_icmp_ge, ↓v1_if_icmp_gt, ↓v1_if_icmp_le, ↓v1_if_acmp_ne, ↓v1_ifnull, ↓v1_ifnonnull, ↓v1_goto, ↓v1_tableswitch_0, ↓v1_return_, ↓v1_ireturn, ↓v1_lreturn, ↓v1_areturn, ↓v1_getfield_0, ↓v1_putfield_0, ↓v1_getstatic, ↓v1_iaload, ↓v1_laload, ↓v1_baload, ↓v1_aaload, ↓v1_iastore, ↓v1_lastore, ↓v1_bastore, ↓v1_aastore_0, ↓v1_arraylength, ↓v1_new_0, ↓v1_newarray, ↓v1_anewarray, ↓v1_invokestatic_0, ↓v1_invokestatic_1, ↓v1_invokestatic_2a, ↓v1_invokevirtual_0, ↓v1_invokespecial_0, ↓v1_invokespecial_1a, ↓v1_invokespecial_1b, ↓vi_ii_e, ↓vi_i_e, ↓vi_jj_e, ↓vi_j_e, ↓vi_ij_e, ↓vi_r_e, ↓vi_rr_e, ↓vi_o_e, ↓vi_ir_e, ↓vi_iir_e, ↓vi_jir_e, ↓vi_rir_e, ↓vi_pop_z, ↓vi_pop_s, ↓vi_sw_n, ↓vi_sw_c, ↓vi_li_z, ↓vi_li_s, ↓vi_ll_z, ↓vi_ll_s, ↓vi_lr_z, ↓vi_lr_s, ↓vi_ret_l, ↓vi_ret_r, vi_sv, vg_set1, vg_set2, vg_lo, List.headD, List.contains_nil, List.contains_cons, Bool.or_false, Bool.false_eq_true, if_false, if_true, Nat.reduceAdd, Nat.reduceBEq, List.nil_append, List.cons_append, List.append_nil, Option.toList, Int32.reduceOfNat, Int64.reduceOfNat, reduceCtorEq, Nat.reduceLeDiff, Nat.le_refl, Nat.zero_le, true_and, and_true, false_or, or_false, or_true, true_or, and_self, not_true_eq_false, not_false_eq_true, forall_const, false_implies, true_implies, Sum.inl.injEq, Sum.inr.injEq, Option.some.injEq, eq_self, oI_1, oI_m, oI_5, oI_L, vi_ws_nil, vi_ws_I, vi_ws_J, vi_ws_R, wi_k, wi_n, wi_r, wi_l, wr_k, wr_n, wr_i, wr_l, wl_k, wl_n, wl_i, wl_r, Nat.reduceSub, Nat.reduceMul, cd_117_0, cd_117_5, cd_117_42, cd_117_109, cd_117_111, cd_117_119, cd_117_174, at_117_5, at_117_42, at_117_109, at_117_111, at_117_119, at_117_174, mc_117, ms_117, mr_117, mh_117, ml_117, mc_104, ms_104, e1]
    obtain ⟨d, hd⟩ := hd
    refine hQ (fun _ => 0) h ⟨?_, fun y hy => Or.inr ⟨rfl, Or.inl (fun i hi => by omega)⟩⟩ hP
    rcases hd with ⟨z, _⟩ | ⟨y, y1, _⟩
    · cases z
    · exact Fe.congr (fun i hi => by omega) y1
  | succ k ih =>
    intro sm S h hk hsm hb hP hT hd hQ
    obtain ⟨d, hd⟩ := hd
    have dk : nI (k + 1) + -1 = nI k := nI_dec (by omega)
    rw [dk]
    have e1 : ¬ nI k < 0 := nI_pos (by omega)
    have hM := hP.mx
    have k0 : (h).1 (b + 37) = 11 := hM.1
    have r50 : (h).2.2.2.2.1 (b + 37) 50 = some (ar b 50) := (hM.2.1 50 (by decide)).1
    have k50 : (h).1 (ar b 50) = 100 := (hM.2.1 50 (by decide)).2.1
    have n50 : (h).2.1 (ar b 50) = 56007 := (hM.2.1 50 (by decide)).2.2
    have db : d ≤ 3000 := by
      have := FWn_le (fun i hi => hs i (by omega)) hd
      omega
    refine vi_run ok_117 [42] 40 ?_
    rw [at_117_5]
    simp only [↓reduceIte, vi_go_c, ↓v1_iadd, ↓v1_isub, ↓v1_imul, ↓v1_iand, ↓v1_idiv, ↓v1_irem, ↓v1_ineg, ↓v1_ladd, ↓v1_lsub, ↓v1_land, ↓v1_lcmp, ↓v1_lshl, ↓v1_lshr, ↓v1_i2l, ↓v1_l2i, ↓v1_iconst_0, ↓v1_iconst_m, ↓v1_bipush, ↓v1_sipush, ↓v1_ldc, ↓v1_ldc_w, ↓v1_lconst, ↓v1_ldc2_w, ↓v1_aconst_null, ↓v1_iload, ↓v1_iload_n, ↓v1_lload, ↓v1_lload_n, ↓v1_aload, ↓v1_aload_n, ↓v1_istore, ↓v1_istore_n, ↓v1_lstore, ↓v1_lstore_n, ↓v1_astore, ↓v1_astore_n, ↓v1_iinc, ↓v1_dup, ↓v1_dup2, ↓v1_ifCond_eq, ↓v1_ifCond_ne, ↓v1_ifCond_lt, ↓v1_ifCond_ge, ↓v1_ifCond_gt, ↓v1_ifCond_le, ↓v1_if_icmp_eq, ↓v1_if_icmp_ne, ↓v1_if_icmp_lt, ↓v1_if_icmp_ge, ↓v1_if_icmp_gt, ↓v1_if_icmp_le, ↓v1_if_acmp_ne, ↓v1_ifnull, ↓v1_ifnonnull, ↓v1_goto, ↓v1_tableswitch_0, ↓v1_return_, ↓v1_ireturn, ↓v1_lreturn, ↓v1_areturn, ↓v1_getfield_0, ↓v1_putfield_0, ↓v1_getstatic, ↓v1_iaload, ↓v1_laload, ↓v1_baload, ↓v1_aaload, ↓v1_iastore, ↓v1_lastore, ↓v1_bastore, ↓v1_aastore_0, ↓v1_arraylength, ↓v1_new_0, ↓v1_newarray, ↓v1_anewarray, ↓v1_invokestatic_0, ↓v1_invokestatic_1, ↓v1_invokestatic_2a, ↓v1_invokevirtual_0, ↓v1_invokespecial_0, ↓v1_invokespecial_1a, ↓v1_invokespecial_1b, ↓vi_ii_e, ↓vi_i_e, ↓vi_jj_e, ↓vi_j_e, ↓vi_ij_e, ↓vi_r_e, ↓vi_rr_e, ↓vi_o_e, ↓vi_ir_e, ↓vi_iir_e, ↓vi_jir_e, ↓vi_rir_e, ↓vi_pop_z, ↓vi_pop_s, ↓vi_sw_n, ↓vi_sw_c, ↓vi_li_z, ↓vi_li_s, ↓vi_ll_z, ↓vi_ll_s, ↓vi_lr_z, ↓vi_lr_s, ↓vi_ret_l, ↓vi_ret_r, vi_sv, vg_set1, vg_set2, vg_lo, List.headD, List.contains_nil, List.contains_cons, Bool.or_false, Bool.false_eq_true, if_false, if_true, Nat.reduceAdd, Nat.reduceBEq, List.nil_append, List.cons_append, List.append_nil, Option.toList, Int32.reduceOfNat, Int64.reduceOfNat, reduceCtorEq, Nat.reduceLeDiff, Nat.le_refl, Nat.zero_le, true_and, and_true, false_or, or_false, or_true, true_or, and_self, not_true_eq_false, not_false_eq_true, forall_const, false_implies, true_implies, Sum.inl.injEq, Sum.inr.injEq, Option.some.injEq, eq_self, oI_1, oI_m, oI_5, oI_L, vi_ws_nil, vi_ws_I, vi_ws_J, vi_ws_R, wi_k, wi_n, wi_r, wi_l, wr_k, wr_n, wr_i, wr_l, wl_k, wl_n, wl_i, wl_r, Nat.reduceSub, Nat.reduceMul, cd_117_0, cd_117_5, cd_117_42, cd_117_109, cd_117_111, cd_117_119, cd_117_174, at_117_5, at_117_42, at_117_109, at_117_111, at_117_119, at_117_174, mc_117, ms_117, mr_117, mh_117, ml_117, mc_104, ms_104, k0, r50, k50, n50, e1]
    refine c_104 (k := k) (by omega) ?_
    simp only [↓reduceIte, vi_go_c, ↓v1_iadd, ↓v1_isub, ↓v1_imul, ↓v1_iand, ↓v1_idiv, ↓v1_irem, ↓v1_ineg, ↓v1_ladd, ↓v1_lsub, ↓v1_land, ↓v1_lcmp, ↓v1_lshl, ↓v1_lshr, ↓v1_i2l, ↓v1_l2i, ↓v1_iconst_0, ↓v1_iconst_m, ↓v1_bipush, ↓v1_sipush, ↓v1_ldc, ↓v1_ldc_w, ↓v1_lconst, ↓v1_ldc2_w, ↓v1_aconst_null, ↓v1_iload, ↓v1_iload_n, ↓v1_lload, ↓v1_lload_n, ↓v1_aload, ↓v1_aload_n, ↓v1_istore, ↓v1_istore_n, ↓v1_lstore, ↓v1_lstore_n, ↓v1_astore, ↓v1_astore_n, ↓v1_iinc, ↓v1_dup, ↓v1_dup2, ↓v1_ifCond_eq, ↓v1_ifCond_ne, ↓v1_ifCond_lt, ↓v1_ifCond_ge, ↓v1_ifCond_gt, ↓v1_ifCond_le, ↓v1_if_icmp_eq, ↓v1_if_icmp_ne, ↓v1_if_icmp_lt, ↓v1_if_icmp_ge, ↓v1_if_icmp_gt, ↓v1_if_icmp_le, ↓v1_if_acmp_ne, ↓v1_ifnull, ↓v1_ifnonnull, ↓v1_goto, ↓v1_tableswitch_0, ↓v1_return_, ↓v1_ireturn, ↓v1_lreturn, ↓v1_areturn, ↓v1_getfield_0, ↓v1_putfield_0, ↓v1_getstatic, ↓v1_iaload, ↓v1_laload, ↓v1_baload, ↓v1_aaload, ↓v1_iastore, ↓v1_lastore, ↓v1_bastore, ↓v1_aastore_0, ↓v1_arraylength, ↓v1_new_0, ↓v1_newarray, ↓v1_anewarray, ↓v1_invokestatic_0, ↓v1_invokestatic_1, ↓v1_invokestatic_2a, ↓v1_invokevirtual_0, ↓v1_invokespecial_0, ↓v1_invokespecial_1a, ↓v1_invokespecial_1b, ↓vi_ii_e, ↓vi_i_e, ↓vi_jj_e, ↓vi_j_e, ↓vi_ij_e, ↓vi_r_e, ↓vi_rr_e, ↓vi_o_e, ↓vi_ir_e, ↓vi_iir_e, ↓vi_jir_e, ↓vi_rir_e, ↓vi_pop_z, ↓vi_pop_s, ↓vi_sw_n, ↓vi_sw_c, ↓vi_li_z, ↓vi_li_s, ↓vi_ll_z, ↓vi_ll_s, ↓vi_lr_z, ↓vi_lr_s, ↓vi_ret_l, ↓vi_ret_r, vi_sv, vg_set1, vg_set2, vg_lo, List.headD, List.contains_nil, List.contains_cons, Bool.or_false, Bool.false_eq_true, if_false, if_true, Nat.reduceAdd, Nat.reduceBEq, List.nil_append, List.cons_append, List.append_nil, Option.toList, Int32.reduceOfNat, Int64.reduceOfNat, reduceCtorEq, Nat.reduceLeDiff, Nat.le_refl, Nat.zero_le, true_and, and_true, false_or, or_false, or_true, true_or, and_self, not_true_eq_false, not_false_eq_true, forall_const, false_implies, true_implies, Sum.inl.injEq, Sum.inr.injEq, Option.some.injEq, eq_self, oI_1, oI_m, oI_5, oI_L, vi_ws_nil, vi_ws_I, vi_ws_J, vi_ws_R, wi_k, wi_n, wi_r, wi_l, wr_k, wr_n, wr_i, wr_l, wl_k, wl_n, wl_i, wl_r, Nat.reduceSub, Nat.reduceMul, cd_117_0, cd_117_5, cd_117_42, cd_117_109, cd_117_111, cd_117_119, cd_117_174, at_117_5, at_117_42, at_117_109, at_117_111, at_117_119, at_117_174, mc_117, ms_117, mr_117, mh_117, ml_117, mc_104, ms_104, k0, r50, k50, n50]
    refine ⟨by decide, fun x1 q1 x2 q2 x3 q3 x4 q4 => ?_⟩
    rw [coM_un k (by omega)] at q1
    subst q1
    rw [nI_1] at q2
    subst q2
    rw [show (8001 : Int32) = nI 8001 from rfl, nI_m] at q3
    subst q3
    rw [nI_add] at q4
    subst q4
    obtain ⟨o, o1, o2⟩ := hT (k + 1) (by omega) sm (by omega)
    have oe := FWn_uniq o1 hd
    subst oe
    rw [nI_clamp (by omega), o2]
    refine ⟨vp_nI (by omega) (by omega), ?_⟩
    refine l_117j (b := b) (d := d) hq (by omega) hR hsm db (hb k (by omega)) hs hP (hT k (by omega)) (fun J m hJ hlt hm => ?_) (s k + 1) 0 0 (by omega) (fun i hi => by omega) ⟨fun i hi => by omega, Or.inr rfl, fun ⟨i, hi, _⟩ => by omega⟩
    obtain ⟨m1, m2, m3⟩ := hm
    -- some number of this kind is good
    have ex : ∃ i, i < J ∧ ∃ a, FWn s k (sm - i * unN k) (some a) ∧ a + i = d := by
      rcases hd with ⟨z, _⟩ | ⟨y, y1, y2, y3⟩
      · cases z
      · have e : d = smN y (k + 1) := by injection y2
        obtain ⟨d1, d2, d3⟩ := y1.dn
        refine ⟨y k, ?_, smN y k, ?_, ?_⟩
        · rcases Nat.lt_or_ge (y k) J with z | z
          · exact z
          · exfalso
            rcases hJ with z2 | z2
            · omega
            · have : J * unN k ≤ y k * unN k := Nat.mul_le_mul_right _ z
              rw [Nat.mul_comm] at d2
              omega
        · refine Or.inr ⟨y, by rw [Nat.mul_comm]; exact d3, rfl, fun z z1 => ?_⟩
          have z2 := z1.up d1
          rw [show sm - y k * unN k + unN k * y k = sm by rw [Nat.mul_comm (y k)]; exact Nat.sub_add_cancel d2] at z2
          have z3 := y3 _ z2
          rw [setN_sm] at z3
          have : smN y (k + 1) = smN y k + y k := rfl
          omega
        · rw [e]; rfl
    obtain ⟨n1, a, n2, n3⟩ := m3 ex
    obtain ⟨l1, l2⟩ := hlt m n1
    have gk := hb k (by omega)
    have g2 := hs k (by omega)
    have k0 : (h).1 (b + 37) = 11 := hM.1
    have r35 : (h).2.2.2.2.1 (b + 37) 35 = some (ar b 35) := (hM.2.1 35 (by decide)).1
    have k35 : (h).1 (ar b 35) = 100 := (hM.2.1 35 (by decide)).2.1
    have n35 : (h).2.1 (ar b 35) = 18 := (hM.2.1 35 (by decide)).2.2
    have r37 : (h).2.2.2.2.1 (b + 37) 37 = some (ar b 37) := (hM.2.1 37 (by decide)).1
    have k37 : (h).1 (ar b 37) = 100 := (hM.2.1 37 (by decide)).2.1
    have n37 : (h).2.1 (ar b 37) = 18 := (hM.2.1 37 (by decide)).2.2
    refine vi_run ok_117 [5] 60 ?_
    rw [at_117_119]
    simp only [↓reduceIte, vi_go_c, ↓v1_iadd, ↓v1_isub, ↓v1_imul, ↓v1_iand, ↓v1_idiv, ↓v1_irem, ↓v1_ineg, ↓v1_ladd, ↓v1_lsub, ↓v1_land, ↓v1_lcmp, ↓v1_lshl, ↓v1_lshr, ↓v1_i2l, ↓v1_l2i, ↓v1_iconst_0, ↓v1_iconst_m, ↓v1_bipush, ↓v1_sipush, ↓v1_ldc, ↓v1_ldc_w, ↓v1_lconst, ↓v1_ldc2_w, ↓v1_aconst_null, ↓v1_iload, ↓v1_iload_n, ↓v1_lload, ↓v1_lload_n, ↓v1_aload, ↓v1_aload_n, ↓v1_istore, ↓v1_istore_n, ↓v1_lstore, ↓v1_lstore_n, ↓v1_astore, ↓v1_astore_n, ↓v1_iinc, ↓v1_dup, ↓v1_dup2, ↓v1_ifCond_eq, ↓v1_ifCond_ne, ↓v1_ifCond_lt, ↓v1_ifCond_ge, ↓v1_ifCond_gt, ↓v1_ifCond_le, ↓v1_if_icmp_eq, ↓v1_if_icmp_ne, ↓v1_if_icmp_lt, ↓v1_if_icmp_ge, ↓v1_if_icmp_gt, ↓v1_if_icmp_le, ↓v1_if_acmp_ne, ↓v1_ifnull, ↓v1_ifnonnull, ↓v1_goto, ↓v1_tableswitch_0, ↓v1_return_, ↓v1_ireturn, ↓v1_lreturn, ↓v1_areturn, ↓v1_getfield_0, ↓v1_putfield_0, ↓v1_getstatic, ↓v1_iaload, ↓v1_laload, ↓v1_baload, ↓v1_aaload, ↓v1_iastore, ↓v1_lastore, ↓v1_bastore, ↓v1_aastore_0, ↓v1_arraylength, ↓v1_new_0, ↓v1_newarray, ↓v1_anewarray, ↓v1_invokestatic_0, ↓v1_invokestatic_1, ↓v1_invokestatic_2a, ↓v1_invokevirtual_0, ↓v1_invokespecial_0, ↓v1_invokespecial_1a, ↓v1_invokespecial_1b, ↓vi_ii_e, ↓vi_i_e, ↓vi_jj_e, ↓vi_j_e, ↓vi_ij_e, ↓vi_r_e, ↓vi_rr_e, ↓vi_o_e, ↓vi_ir_e, ↓vi_iir_e, ↓vi_jir_e, ↓vi_rir_e, ↓vi_pop_z, ↓vi_pop_s, ↓vi_sw_n, ↓vi_sw_c, ↓vi_li_z, ↓vi_li_s, ↓vi_ll_z, ↓vi_ll_s, ↓vi_lr_z, ↓vi_lr_s, ↓vi_ret_l, ↓vi_ret_r, vi_sv, vg_set1, vg_set2, vg_lo, List.headD, List.contains_nil, List.contains_cons, Bool.or_false, Bool.false_eq_true, if_false, if_true, Nat.reduceAdd, Nat.reduceBEq, List.nil_append, List.cons_append, List.append_nil, Option.toList, Int32.reduceOfNat, Int64.reduceOfNat, reduceCtorEq, Nat.reduceLeDiff, Nat.le_refl, Nat.zero_le, true_and, and_true, false_or, or_false, or_true, true_or, and_self, not_true_eq_false, not_false_eq_true, forall_const, false_implies, true_implies, Sum.inl.injEq, Sum.inr.injEq, Option.some.injEq, eq_self, oI_1, oI_m, oI_5, oI_L, vi_ws_nil, vi_ws_I, vi_ws_J, vi_ws_R, wi_k, wi_n, wi_r, wi_l, wr_k, wr_n, wr_i, wr_l, wl_k, wl_n, wl_i, wl_r, Nat.reduceSub, Nat.reduceMul, cd_117_0, cd_117_5, cd_117_42, cd_117_109, cd_117_111, cd_117_119, cd_117_174, at_117_5, at_117_42, at_117_109, at_117_111, at_117_119, at_117_174, mc_117, ms_117, mr_117, mh_117, ml_117, mc_104, ms_104, k0, r35, k35, n35, r37, k37, n37]
    have vp : vp_in (nI (6 * q + k)) 18 := vp_nI (by omega) (by omega)
    have cl := nI_clamp (show 6 * q + k < 2 ^ 31 by omega)
    intro x1 q1 x2 q2
    rw [show (6 : Int32) = nI 6 from rfl, nI_m] at q1
    subst q1
    rw [nI_add] at q2
    subst q2
    rw [cl]
    refine ⟨vp, ?_⟩
    intro x1 q1 x2 q2 x3 q3 x4 q4
    rw [show (6 : Int32) = nI 6 from rfl, nI_m] at q1 q3
    subst q1; subst q3
    rw [nI_add] at q2 q4
    subst q2; subst q4
    rw [cl]
    have p1 := hP.set 37 rfl (6 * q + k) (nI m)
    have a1 : (vg_wi h (ar b 37) (6 * q + k) (nI m)).2.2.1 (ar b 35) (6 * q + k) = S 35 (6 * q + k) := by
      have := p1.mx.2.2.1 35 (6 * q + k) (show _ < 18 by omega) rfl
      rw [upf (by decide)] at this
      exact this
    rw [a1]
    refine ⟨vp, fun x5 q5 => ⟨vp, fun x6 q6 x7 q7 x8 q8 => ?_⟩⟩
    subst q5
    rw [nI_m] at q6
    subst q6
    rw [nI_subN l2] at q7
    subst q7
    subst q8
    have p2 := p1.set 35 rfl (6 * q + k) (S 35 (6 * q + k) - nI m)
    refine vr_less (vr_none 5 rfl) (vr_less (vr_none 7 rfl) (ih (sm - m * unN k) _ _ (by omega) (by omega) (fun i hi => ?_) p2 (fun i hi r hr => ?_) ⟨a, n2⟩ (fun y h' y1 y2 => ?_)))
    · rw [up_ne _ _ (Or.inr (by omega)), upf (by decide)]
      exact hb i (by omega)
    · obtain ⟨v, v1, v2⟩ := hT i hi r hr
      refine ⟨v, v1, ?_⟩
      have n1 : ¬ ar b 50 = ar b 35 := fun z => by have := ar_inj (b := b) (f := 50) (g := 35) (by decide) (by decide) z; omega
      have n2 : ¬ ar b 50 = ar b 37 := fun z => by have := ar_inj (b := b) (f := 50) (g := 37) (by decide) (by decide) z; omega
      rw [wi_i, if_neg (fun z => n1 z.1), wi_i, if_neg (fun z => n2 z.1)]
      exact v2
    · refine hQ (setN y k m) h' (Opt.up hd l1 l2 ⟨a, n2, n3⟩ (fun i i1 i2 i3 => m1 i ?_ i1) y1) ?_
      · rcases Nat.lt_or_ge i J with z | z
        · exact z
        · exfalso
          rcases hJ with z2 | z2
          · omega
          · have : J * unN k ≤ i * unN k := Nat.mul_le_mul_right _ z
            omega
      · rw [gG, setN_e, gG_congr k _ (fun i hi => setN_n (by omega))]
        exact y2
set_option maxRecDepth 100000 in
theorem c_117 {S : SS} {h : vg_H} {q R : Nat} {s : Nat → Nat} (hq : q < 3) (hR : R ≤ 8000) (hb : ∀ i, i < 6 → S 35 (6 * q + i) = nI (s i) ∧ s i ≤ 500) (hP : MP b S w h0 h) (hT : ∀ i, i ≤ 6 → TB b h s i (R + 1)) (hd : ∃ d, FWn s 6 R (some d)) (hQ : ∀ x h', Opt s 6 R x → MP b (gG q x 6 S) w h0 h' → Q (.inl none) h') : vg_C G (MT 117) [.inr (.inr (some (b + 37))), .inl (nI q), .inl (nI R)] h Q := by
  refine vg_C_of rfl (by decide +kernel) (Nat.le_of_ble_eq_true rfl) ?_
  refine vi_run ok_117 [5] 40 ?_
  rw [at_117_0]
  simp only [vg_ent, vg_en, List.length_cons, List.length_nil, Nat.reduceAdd, Nat.reduceSub, List.replicate, List.append_nil, List.nil_append, List.cons_append, mn_117]
  simp only [↓reduceIte, vi_go_c, ↓v1_iadd, ↓v1_isub, ↓v1_imul, ↓v1_iand, ↓v1_idiv, ↓v1_irem, ↓v1_ineg, ↓v1_ladd, ↓v1_lsub, ↓v1_land, ↓v1_lcmp, ↓v1_lshl, ↓v1_lshr, ↓v1_i2l, ↓v1_l2i, ↓v1_iconst_0, ↓v1_iconst_m, ↓v1_bipush, ↓v1_sipush, ↓v1_ldc, ↓v1_ldc_w, ↓v1_lconst, ↓v1_ldc2_w, ↓v1_aconst_null, ↓v1_iload, ↓v1_iload_n, ↓v1_lload, ↓v1_lload_n, ↓v1_aload, ↓v1_aload_n, ↓v1_istore, ↓v1_istore_n, ↓v1_lstore, ↓v1_lstore_n, ↓v1_astore, ↓v1_astore_n, ↓v1_iinc, ↓v1_dup, ↓v1_dup2, ↓v1_ifCond_eq, ↓v1_ifCond_ne, ↓v1_ifCond_lt, ↓v1_ifCond_ge, ↓v1_ifCond_gt, ↓v1_ifCond_le, ↓v1_if_icmp_eq, ↓v1_if_icmp_ne, ↓v1_if_icmp_lt, ↓v1_if_icmp_ge, ↓v1_if_icmp_gt, ↓v1_if_icmp_le, ↓v1_if_acmp_ne, ↓v1_ifnull, ↓v1_ifnonnull, ↓v1_goto, ↓v1_tableswitch_0, ↓v1_return_, ↓v1_ireturn, ↓v1_lreturn, ↓v1_areturn, ↓v1_getfield_0, ↓v1_putfield_0, ↓v1_getstatic, ↓v1_iaload, ↓v1_laload, ↓v1_baload, ↓v1_aaload, ↓v1_iastore, ↓v1_lastore, ↓v1_bastore, ↓v1_aastore_0, ↓v1_arraylength, ↓v1_new_0, ↓v1_newarray, ↓v1_anewarray, ↓v1_invokestatic_0, ↓v1_invokestatic_1, ↓v1_invokestatic_2a, ↓v1_invokevirtual_0, ↓v1_invokespecial_0, ↓v1_invokespecial_1a, ↓v1_invokespecial_1b, ↓vi_ii_e, ↓vi_i_e, ↓vi_jj_e, ↓vi_j_e, ↓vi_ij_e, ↓vi_r_e, ↓vi_rr_e, ↓vi_o_e, ↓vi_ir_e, ↓vi_iir_e, ↓vi_jir_e, ↓vi_rir_e, ↓vi_pop_z, ↓vi_pop_s, ↓vi_sw_n, ↓vi_sw_c, ↓vi_li_z, ↓vi_li_s, ↓vi_ll_z, ↓vi_ll_s, ↓vi_lr_z, ↓vi_lr_s, ↓vi_ret_l, ↓vi_ret_r, vi_sv, vg_set1, vg_set2, vg_lo, List.headD, List.contains_nil, List.contains_cons, Bool.or_false, Bool.false_eq_true, if_false, if_true, Nat.reduceAdd, Nat.reduceBEq, List.nil_append, List.cons_append, List.append_nil, Option.toList, Int32.reduceOfNat, Int64.reduceOfNat, reduceCtorEq, Nat.reduceLeDiff, Nat.le_refl, Nat.zero_le, true_and, and_true, false_or, or_false, or_true, true_or, and_self, not_true_eq_false, not_false_eq_true, forall_const, false_implies, true_implies, Sum.inl.injEq, Sum.inr.injEq, Option.some.injEq, eq_self, oI_1, oI_m, oI_5, oI_L, vi_ws_nil, vi_ws_I, vi_ws_J, vi_ws_R, wi_k, wi_n, wi_r, wi_l, wr_k, wr_n, wr_i, wr_l, wl_k, wl_n, wl_i, wl_r, Nat.reduceSub, Nat.reduceMul, cd_117_0, cd_117_5, cd_117_42, cd_117_109, cd_117_111, cd_117_119, cd_117_174, at_117_5, at_117_42, at_117_109, at_117_111, at_117_119, at_117_174, mc_117, ms_117, mr_117, mh_117, ml_117, mc_104, ms_104]
  exact l_117 (x := nI R) hq hR (fun i hi => (hb i hi).2) 6 R S h (by omega) (by omega) (fun i hi => (hb i hi).1) hP hT hd hQ
end ML2
