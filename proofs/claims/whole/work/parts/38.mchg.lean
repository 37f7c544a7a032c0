/-! ===== the model: change ===== -/
def encO : Option Nat → Int32
  | none => -1
  | some n => nI n
/-- machine q's stock -/
def stk (S : SS) (q : Nat) : Nat → Nat := fun k => (S 35 (6 * q + k)).toNatClampNeg
def TB (b : Nat) (h : vg_H) (s : Nat → Nat) (k n : Nat) : Prop := ∀ r, r < n → ∃ v, FWn s k r v ∧ h.2.2.1 (ar b 50) (8001 * k + r) = encO v
theorem smN_le {x : Nat → Nat} {B : Nat} : ∀ (k : Nat), (∀ i, i < k → x i ≤ B) → smN x k ≤ B * k
  | 0, _ => Nat.zero_le _
  | k + 1, h => by
    have h1 := smN_le k (fun i hi => h i (by omega))
    have h2 := h k (by omega)
    show smN x k + x k ≤ B * (k + 1)
    rw [Nat.mul_succ]; omega
theorem FWn_le {s : Nat → Nat} {k r d : Nat} (hs : ∀ i, i < k → s i ≤ 500) (h : FWn s k r (some d)) : d ≤ 500 * k := by
  rcases h with ⟨h1, _⟩ | ⟨x, x1, x2, _⟩
  · cases h1
  · have e : d = smN x k := by injection x2
    rw [e]
    exact smN_le k (fun i hi => Nat.le_trans (x1.1 i hi) (hs i hi))
theorem FWn_0 (s : Nat → Nat) (r : Nat) : FWn s 0 r (if r = 0 then some 0 else none) := by
  by_cases e : r = 0
  · rw [if_pos e]
    exact Or.inr ⟨fun _ => 0, ⟨fun i hi => by omega, e.symm⟩, rfl, fun y _ => Nat.zero_le _⟩
  · rw [if_neg e]
    exact Or.inl ⟨rfl, fun x hx => e hx.2.symm⟩
theorem TB.set {b : Nat} {h : vg_H} {s : Nat → Nat} {k n : Nat} (p : TB b h s k n) {k' r' : Nat} (hr : r' ≤ 8000) (hn : n ≤ 8001) (hd : ¬ k' = k ∨ n ≤ r') (v : Int32) : TB b (vg_wi h (ar b 50) (8001 * k' + r') v) s k n := by
  intro r hr2
  obtain ⟨v', v1, v2⟩ := p r hr2
  exact ⟨v', v1, by rw [wi_i, if_neg (fun z => by omega)]; exact v2⟩
theorem TB.ext {b : Nat} {h : vg_H} {s : Nat → Nat} {k n : Nat} (p : TB b h s k n) (hn : n ≤ 8000) {v : Option Nat} (hv : FWn s k n v) : TB b (vg_wi h (ar b 50) (8001 * k + n) (encO v)) s k (n + 1) := by
  intro r hr
  by_cases e : r = n
  · subst e
    exact ⟨v, hv, by rw [wi_i, if_pos ⟨rfl, rfl⟩]⟩
  · obtain ⟨v', v1, v2⟩ := p r (by omega)
    exact ⟨v', v1, by rw [wi_i, if_neg (fun z => by omega)]; exact v2⟩
theorem coM_un : ∀ k, k < 6 → coM k / 5 = nI (unN k) := by decide
theorem unN_b (k : Nat) : 1 ≤ unN k ∧ unN k ≤ 40 := by
  unfold unN; split <;> omega
theorem enc_neg (v : Option Nat) (hv : ∀ n, v = some n → n < 2 ^ 31) : encO v < 0 ↔ v = none := by
  cases v with
  | none => exact ⟨fun _ => rfl, fun _ => by decide⟩
  | some n => exact ⟨fun h => absurd h (nI_pos (hv n rfl)), fun h => by cases h⟩
section MK
variable {G : vg_G} {b : Nat} {h0 : vg_H} {w : Int32} {Q : vg_O → vg_H → Prop}
set_option maxRecDepth 100000 in
/-- the first row -/
theorem l_114a {S : SS} {q R : Nat} {s : Nat → Nat} (hR : R ≤ 8000) (hQ : ∀ h', MP b S w h0 h' → TB b h' s 0 (R + 1) → vg_A G (MT 114) 0 0 28 [some (.inr (.inr (some (b + 37)))), some (.inl (nI q)), some (.inl (nI R)), none, none, none, none, none, none] [] h' Q) : ∀ (n i : Nat) (h : vg_H), i + n = R + 1 → MP b S w h0 h → TB b h s 0 i →
    vg_A G (MT 114) 0 0 2 [some (.inr (.inr (some (b + 37)))), some (.inl (nI q)), some (.inl (nI R)), some (.inl (nI i)), none, none, none, none, none] [] h Q := by
  intro n
  induction n with
  | zero =>
    intro i h hi hP hT
    have e1 : nI R < nI i := nI_lt (by omega) (by omega)
    refine vi_run ok_114 [28, 7] 40 ?_
    rw [at_114_2]
    simp only [↓reduceIte, vi_go_c, ↓v1_iadd, ↓v1_isub, ↓v1_imul, ↓v1_iand, ↓v1_idiv, ↓v1_irem, ↓v1_ineg, ↓v1_ladd, ↓v1_lsub, ↓v1_land, ↓v1_lcmp, ↓v1_lshl, ↓v1_lshr, ↓v1_i2l, ↓v1_l2i, ↓v1_iconst_0, ↓v1_iconst_m, ↓v1_bipush, ↓v1_sipush, ↓v1_ldc, ↓v1_ldc_w, ↓v1_lconst, ↓v1_ldc2_w, ↓v1_aconst_null, ↓v1_iload, ↓v1_iload_n, ↓v1_lload, ↓v1_lload_n, ↓v1_aload, ↓v1_aload_n, ↓v1_istore, ↓v1_istore_n, ↓v1_lstore, ↓v1_lstore_n, ↓v1_astore, ↓v1_astore_n, ↓v1_iinc, ↓v1_dup, ↓v1_dup2, ↓v1_ifCond_eq, ↓v1_ifCond_ne, ↓v1_ifCond_lt, ↓v1_ifCond_ge, ↓v1_ifCond_gt, ↓v1_ifCond_le, ↓v1_if_icmp_eq, ↓v1_if_icmp_ne, ↓v1_if_icmp_lt, ↓v1_if_icmp_ge, ↓v1_if_icmp_gt, ↓v1_if_icmp_le, ↓v1_if_acmp_ne, ↓v1_ifnull, ↓v1_ifnonnull, ↓v1_goto, ↓v1_tableswitch_0, ↓v1_return_, ↓v1_ireturn, ↓v1_lreturn, ↓v1_areturn, ↓v1_getfield_0, ↓v1_putfield_0, ↓v1_getstatic, ↓v1_iaload, ↓v1_laload, ↓v1_baload, ↓v1_aaload, ↓v1_iastore, ↓v1_lastore, ↓v1_bastore, ↓v1_aastore_0, ↓v1_arraylength, ↓v1_new_0, ↓v1_newarray, ↓v1_anewarray, ↓v1_invokestatic_0, ↓v1_invokestatic_1, ↓v1_invokestatic_2a, ↓v1_invokevirtual_0, ↓v1_invokespecial_0, ↓v1_invokespecial_1a, ↓v1_invokespecial_1b, ↓vi_ii_e, ↓vi_i_e, ↓vi_jj_e, ↓vi_j_e, ↓vi_ij_e, ↓vi_r_e, ↓vi_rr_e, ↓vi_o_e, ↓vi_ir_e, ↓vi_iir_e, ↓vi_jir_e, ↓vi_rir_e, ↓vi_pop_z, ↓vi_pop_s, ↓vi_sw_n, ↓vi_sw_c, ↓vi_li_z, ↓vi_li_s, ↓vi_ll_z, ↓vi_ll_s, ↓vi_lr_z, ↓vi_lr_s, ↓vi_ret_l, ↓vi_ret_r, vi_sv, vg_set1, vg_set2, vg_lo, List.headD, List.contains_nil, List.contains_cons, Bool.or_false, Bool.false_eq_true, if_false, if_true, Nat.reduceAdd, Nat.reduceBEq, List.nil_append, List.cons_append, List.append_nil, Option.toList, Int32.reduceOfNat, Int64.reduceOfNat, reduceCtorEq, Nat.reduceLeDiff, Nat.le_refl, Nat.zero_le, true_and, and_true, false_or, or_false, or_true, true_or, and_self, not_true_eq_false, not_false_eq_true, forall_const, false_implies, true_implies, Sum.inl.injEq, Sum.inr.injEq, Option.some.injEq, eq_self, oI_1, oI_m, oI_5, oI_L, vi_ws_nil, vi_ws_I, vi_ws_J, vi_ws_R, wi_k, wi_n, wi_r, wi_l, wr_k, wr_n, wr_i, wr_l, wl_k, wl_n, wl_i, wl_r, Nat.reduceSub, Nat.reduceMul, cd_114_0, cd_114_2, cd_114_20, cd_114_21, cd_114_28, cd_114_30, cd_114_47, cd_114_59, cd_114_126, cd_114_134, cd_114_136, cd_114_144, cd_114_167, cd_114_173, at_114_2, at_114_20, at_114_21, at_114_28, at_114_30, at_114_47, at_114_59, at_114_126, at_114_134, at_114_136, at_114_144, at_114_167, at_114_173, mc_114, ms_114, mr_114, mh_114, ml_114, mc_104, ms_104, e1]
    exact vr_less (vr_none 3 rfl) (hQ h hP (by rw [show R + 1 = i by omega]; exact hT))
  | succ n ih =>
    intro i h hi hP hT
    have hM := hP.mx
    have k0 : (h).1 (b + 37) = 11 := hM.1
    have r50 : (h).2.2.2.2.1 (b + 37) 50 = some (ar b 50) := (hM.2.1 50 (by decide)).1
    have k50 : (h).1 (ar b 50) = 100 := (hM.2.1 50 (by decide)).2.1
    have n50 : (h).2.1 (ar b 50) = 56007 := (hM.2.1 50 (by decide)).2.2
    have e1 : ¬ nI R < nI i := nI_nlt (by omega) (by omega)
    have y1 := nI_clamp (show i < 2 ^ 31 by omega)
    have y2 : vp_in (nI i) 56007 := vp_nI (by omega) (by omega)
    refine vi_run ok_114 [2] 40 ?_
    rw [at_114_2]
    simp only [↓reduceIte, vi_go_c, ↓v1_iadd, ↓v1_isub, ↓v1_imul, ↓v1_iand, ↓v1_idiv, ↓v1_irem, ↓v1_ineg, ↓v1_ladd, ↓v1_lsub, ↓v1_land, ↓v1_lcmp, ↓v1_lshl, ↓v1_lshr, ↓v1_i2l, ↓v1_l2i, ↓v1_iconst_0, ↓v1_iconst_m, ↓v1_bipush, ↓v1_sipush, ↓v1_ldc, ↓v1_ldc_w, ↓v1_lconst, ↓v1_ldc2_w, ↓v1_aconst_null, ↓v1_iload, ↓v1_iload_n, ↓v1_lload, ↓v1_lload_n, ↓v1_aload, ↓v1_aload_n, ↓v1_istore, ↓v1_istore_n, ↓v1_lstore, ↓v1_lstore_n, ↓v1_astore, ↓v1_astore_n, ↓v1_iinc, ↓v1_dup, ↓v1_dup2, ↓v1_ifCond_eq, ↓v1_ifCond_ne, ↓v1_ifCond_lt, ↓v1_ifCond_ge, ↓v1_ifCond_gt, ↓v1_ifCond_le, ↓v1_if_icmp_eq, ↓v1_if_icmp_ne, ↓v1_if_icmp_lt, ↓v1_if_icmp_ge, ↓v1_if_icmp_gt, ↓v1_if_icmp_le, ↓v1_if_acmp_ne, ↓v1_ifnull, ↓v1_ifnonnull, ↓v1_goto, ↓v1_tableswitch_0, ↓v1_return_, ↓v1_ireturn, ↓v1_lreturn, ↓v1_areturn, ↓v1_getfield_0, ↓v1_putfield_0, ↓v1_getstatic, ↓v1_iaload, ↓v1_laload, ↓v1_baload, ↓v1_aaload, ↓v1_iastore, ↓v1_lastore, ↓v1_bastore, ↓v1_aastore_0, ↓v1_arraylength, ↓v1_new_0, ↓v1_newarray, ↓v1_anewarray, ↓v1_invokestatic_0, ↓v1_invokestatic_1, ↓v1_invokestatic_2a, ↓v1_invokevirtual_0, ↓v1_invokespecial_0, ↓v1_invokespecial_1a, ↓v1_invokespecial_1b, ↓vi_ii_e, ↓vi_i_e, ↓vi_jj_e, ↓vi_j_e, ↓vi_ij_e, ↓vi_r_e, ↓vi_rr_e, ↓vi_o_e, ↓vi_ir_e, ↓vi_iir_e, ↓vi_jir_e, ↓vi_rir_e, ↓vi_pop_z, ↓vi_pop_s, ↓vi_sw_n, ↓vi_sw_c, ↓vi_li_z, ↓vi_li_s, ↓vi_ll_z, ↓vi_ll_s, ↓vi_lr_z, ↓vi_lr_s, ↓vi_ret_l, ↓vi_ret_r, vi_sv, vg_set1, vg_set2, vg_lo, List.headD, List.contains_nil, List.contains_cons, Bool.or_false, Bool.false_eq_true, if_false, if_true, Nat.reduceAdd, Nat.reduceBEq, List.nil_append, List.cons_append, List.append_nil, Option.toList, Int32.reduceOfNat, Int64.reduceOfNat, reduceCtorEq, Nat.reduceLeDiff, Nat.le_refl, Nat.zero_le, true_and, and_true, false_or, or_false, or_true, true_or, and_self, not_true_eq_false, not_false_eq_true, forall_const, false_implies, true_implies, Sum.inl.injEq, Sum.inr.injEq, Option.some.injEq, eq_self, oI_1, oI_m, oI_5, oI_L, vi_ws_nil, vi_ws_I, vi_ws_J, vi_ws_R, wi_k, wi_n, wi_r, wi_l, wr_k, wr_n, wr_i, wr_l, wl_k, wl_n, wl_i, wl_r, Nat.reduceSub, Nat.reduceMul, cd_114_0, cd_114_2, cd_114_20, cd_114_21, cd_114_28, cd_114_30, cd_114_47, cd_114_59, cd_114_126, cd_114_134, cd_114_136, cd_114_144, cd_114_167, cd_114_173, at_114_2, at_114_20, at_114_21, at_114_28, at_114_30, at_114_47, at_114_59, at_114_126, at_114_134, at_114_136, at_114_144, at_114_167, at_114_173, mc_114, ms_114, mr_114, mh_114, ml_114, mc_104, ms_104, k0, r50, k50, n50, e1, y1, y2]
    have x0 := hT.ext (by omega) (FWn_0 s i)
    rw [show 8001 * 0 + i = i by omega] at x0
    refine ⟨fun e2 v ev => ?_, fun e2 v ev => ?_⟩ <;> (rw [← nI_succ] at ev; subst ev)
    · have ne : ¬ i = 0 := fun z => e2 (by rw [z]; rfl)
      rw [if_neg ne] at x0
      exact ih (i + 1) _ (by omega) (hP.scr 50 (by decide) rfl _ _) x0
    · have ne : i = 0 := by
        rcases Nat.eq_zero_or_pos i with z | z
        · exact z
        · exact absurd (nI_ne0 z (by omega)) e2
      rw [if_pos ne] at x0
      exact ih (i + 1) _ (by omega) (hP.scr 50 (by decide) rfl _ _) x0
end MK
