/-! ===== the class: a machine ends ===== -/
def eL (S : SS) (q : Nat) (x : Nat → Int32) : Nat → SS
  | 0 => S
  | i + 1 => up (up (eL S q x i) 37 (6 * q + (5 - i)) (x (5 - i))) 35 (6 * q + (5 - i)) (eL S q x i 35 (6 * q + (5 - i)) - x (5 - i))
theorem eL_e {S : SS} {q : Nat} {x : Nat → Int32} : ∀ (i : Nat), i ≤ 6 → ∀ f j, eL S q x i f j = if f = 37 ∧ 6 * q + (6 - i) ≤ j ∧ j < 6 * q + 6 then x (j - 6 * q) else if f = 35 ∧ 6 * q + (6 - i) ≤ j ∧ j < 6 * q + 6 then S 35 j - x (j - 6 * q) else S f j := by
  intro i
  induction i with
  | zero =>
    intro _ f j
    rw [if_neg (fun z => by omega), if_neg (fun z => by omega)]; rfl
  | succ i ih =>
    intro hi f j
    have ih := ih (by omega)
    show up (up (eL S q x i) 37 (6 * q + (5 - i)) (x (5 - i))) 35 (6 * q + (5 - i)) (eL S q x i 35 (6 * q + (5 - i)) - x (5 - i)) f j = _
    rw [up_e, up_e, ih f j, ih 35 (6 * q + (5 - i))]
    by_cases h1 : f = 35 ∧ j = 6 * q + (5 - i)
    · obtain ⟨rfl, rfl⟩ := h1
      rw [if_pos ⟨rfl, rfl⟩, if_neg (fun z => by omega), if_neg (fun z => by omega), if_neg (fun z => by omega), if_pos (by omega), show 6 * q + (5 - i) - 6 * q = 5 - i by omega]
    · rw [if_neg h1]
      by_cases h2 : f = 37 ∧ j = 6 * q + (5 - i)
      · obtain ⟨rfl, rfl⟩ := h2
        rw [if_pos ⟨rfl, rfl⟩, if_pos (by omega), show 6 * q + (5 - i) - 6 * q = 5 - i by omega]
      · rw [if_neg h2]
        by_cases h3 : f = 37 ∧ 6 * q + (6 - i) ≤ j ∧ j < 6 * q + 6
        · rw [if_pos h3, if_pos (by omega)]
        · by_cases h4 : f = 35 ∧ 6 * q + (6 - i) ≤ j ∧ j < 6 * q + 6
          · rw [if_neg h3, if_pos h4, if_neg (fun z => by omega), if_pos (by omega)]
          · rw [if_neg h3, if_neg h4, if_neg (fun z => by omega), if_neg (fun z => by omega)]
theorem gB_e {q : Nat} : ∀ (m i : Nat) (S : SS), i + m = 6 → ∀ f j, gB S q i m f j = if f = 37 ∧ 6 * q + i ≤ j ∧ j < 6 * q + 6 then S 36 j else if f = 35 ∧ 6 * q + i ≤ j ∧ j < 6 * q + 6 then S 35 j - S 36 j else S f j := by
  intro m
  induction m with
  | zero =>
    intro i S hi f j
    rw [if_neg (fun z => by omega), if_neg (fun z => by omega)]; rfl
  | succ m ih =>
    intro i S hi f j
    show gB (up (up S 37 (6 * q + i) (S 36 (6 * q + i))) 35 (6 * q + i) (S 35 (6 * q + i) - S 36 (6 * q + i))) q (i + 1) m f j = _
    rw [ih (i + 1) _ (by omega) f j]
    simp only [up_e]
    by_cases e : j = 6 * q + i
    · subst e
      rw [if_neg (fun z => by omega), if_neg (fun z => by omega)]
      by_cases h1 : f = 35
      · subst h1
        rw [if_pos ⟨rfl, rfl⟩, if_neg (fun z => by omega), if_pos (by omega)]
      · rw [if_neg (fun z => h1 z.1)]
        by_cases h2 : f = 37
        · subst h2
          rw [if_pos ⟨rfl, rfl⟩, if_pos (by omega)]
        · rw [if_neg (fun z => h2 z.1), if_neg (fun z => h2 z.1), if_neg (fun z => h1 z.1)]
    · simp only [e, and_false, if_false]
      by_cases h1 : f = 37 ∧ 6 * q + i ≤ j ∧ j < 6 * q + 6
      · rw [if_pos h1, if_pos (by omega)]
      · rw [if_neg h1, if_neg (fun z => by omega)]
        by_cases h2 : f = 35 ∧ 6 * q + i ≤ j ∧ j < 6 * q + 6
        · rw [if_pos h2, if_pos (by omega)]
        · rw [if_neg h2, if_neg (fun z => by omega)]
theorem gG_e {q : Nat} {x : Nat → Nat} : ∀ (k : Nat) (S : SS), k ≤ 6 → ∀ f j, gG q x k S f j = if f = 37 ∧ 6 * q ≤ j ∧ j < 6 * q + k then nI (x (j - 6 * q)) else if f = 35 ∧ 6 * q ≤ j ∧ j < 6 * q + k then S 35 j - nI (x (j - 6 * q)) else S f j := by
  intro k
  induction k with
  | zero =>
    intro S hi f j
    rw [if_neg (fun z => by omega), if_neg (fun z => by omega)]; rfl
  | succ k ih =>
    intro S hi f j
    rw [gG, ih _ (by omega) f j]
    simp only [up_e]
    by_cases e : j = 6 * q + k
    · subst e
      rw [if_neg (fun z => by omega), if_neg (fun z => by omega)]
      by_cases h1 : f = 35
      · subst h1
        rw [if_pos ⟨rfl, rfl⟩, if_neg (fun z => by omega), if_pos (by omega), show 6 * q + k - 6 * q = k by omega]
      · rw [if_neg (fun z => h1 z.1)]
        by_cases h2 : f = 37
        · subst h2
          rw [if_pos ⟨rfl, rfl⟩, if_pos (by omega), show 6 * q + k - 6 * q = k by omega]
        · rw [if_neg (fun z => h2 z.1), if_neg (fun z => h2 z.1), if_neg (fun z => h1 z.1)]
    · simp only [e, and_false, if_false]
      by_cases h1 : f = 37 ∧ 6 * q ≤ j ∧ j < 6 * q + (k + 1)
      · rw [if_pos h1, if_pos (by omega)]
      · rw [if_neg h1, if_neg (fun z => by omega)]
        by_cases h2 : f = 35 ∧ 6 * q ≤ j ∧ j < 6 * q + (k + 1)
        · rw [if_pos h2, if_pos (by omega)]
        · rw [if_neg h2, if_neg (fun z => by omega)]
/-- behind end: x came out -/
def eS (S : SS) (q : Nat) (x : Nat → Int32) : SS := up (up (eL S q x 6) 22 (S 32 q).toNatClampNeg (-1)) 32 q 0
theorem eS_B (S : SS) (q : Nat) : eS S q (fun k => S 36 (6 * q + k)) = gB (sFree S q) q 0 6 := by
  funext f j
  unfold eS
  rw [up_e, up_e, eL_e 6 (by omega), gB_e 6 0 _ (by omega)]
  have a35 : sFree S q 35 = S 35 := sFree_f (by decide) (by decide)
  have a36 : sFree S q 36 = S 36 := sFree_f (by decide) (by decide)
  rw [a35, a36, show 6 * q + (6 - 6) = 6 * q + 0 by omega]
  by_cases h1 : f = 37 ∧ 6 * q + 0 ≤ j ∧ j < 6 * q + 6
  · obtain ⟨rfl, h2, h3⟩ := h1
    rw [if_neg (fun z => by omega), if_neg (fun z => by omega), if_pos ⟨rfl, h2, h3⟩, if_pos ⟨rfl, h2, h3⟩, show 6 * q + (j - 6 * q) = j by omega]
  · by_cases h2 : f = 35 ∧ 6 * q + 0 ≤ j ∧ j < 6 * q + 6
    · obtain ⟨rfl, h3, h4⟩ := h2
      rw [if_neg (fun z => by omega), if_neg (fun z => by omega), if_neg h1, if_pos ⟨rfl, h3, h4⟩, if_neg h1, if_pos ⟨rfl, h3, h4⟩, show 6 * q + (j - 6 * q) = j by omega]
    · rw [if_neg h1, if_neg h2, if_neg h1, if_neg h2]
      unfold sFree
      rw [up_e, up_e]
theorem eS_G (S : SS) (q : Nat) (x : Nat → Nat) : eS S q (fun k => nI (x k)) = gG q x 6 (sFree S q) := by
  funext f j
  unfold eS
  rw [up_e, up_e, eL_e 6 (by omega), gG_e 6 _ (by omega)]
  have a35 : sFree S q 35 = S 35 := sFree_f (by decide) (by decide)
  rw [a35, show 6 * q + (6 - 6) = 6 * q by omega]
  by_cases h1 : f = 37 ∧ 6 * q ≤ j ∧ j < 6 * q + 6
  · obtain ⟨rfl, h2, h3⟩ := h1
    rw [if_neg (fun z => by omega), if_neg (fun z => by omega), if_pos ⟨rfl, h2, h3⟩, if_pos ⟨rfl, h2, h3⟩]
  · by_cases h2 : f = 35 ∧ 6 * q ≤ j ∧ j < 6 * q + 6
    · obtain ⟨rfl, h3, h4⟩ := h2
      rw [if_neg (fun z => by omega), if_neg (fun z => by omega), if_neg h1, if_pos ⟨rfl, h3, h4⟩, if_neg h1, if_pos ⟨rfl, h3, h4⟩]
    · rw [if_neg h1, if_neg h2, if_neg h1, if_neg h2]
      unfold sFree
      rw [up_e, up_e]
section CEN
variable {G : vg_G} {b : Nat} {A : AA} {Q : vg_O → vg_H → Prop}
theorem CX.mref {S : SS} {h : vg_H} (p : CX G b A S h) {q : Nat} (hq : q < 3) {v : Int32} {r : Option Nat} (hr : r = if v = 0 then none else some (A 8 v.toNatClampNeg)) : CX G b A (up S 32 q v) (vg_wr h (b + 25 + 4 * q) 3 r) := by
  have old := p.2.2.2.2.2.2.2.1
  have hk1 := old q hq
  refine p.atM rfl rfl rfl (p.1.wr (by omega)) (fun a e1 e2 => ⟨rfl, wr_row (fun z => e1 (by rw [z]; exact hk1.2.1))⟩) rfl (fun f hf => upf (by omega)) ?_
  clear p
  intro m hm
  have := old m hm
  have f : ∀ g, ¬ 32 = g → up S 32 q v g = S g := fun g hg => upf hg
  unfold coinsS sumS at *
  rw [f 33 (by decide), f 34 (by decide), f 35 (by decide), f 36 (by decide), f 37 (by decide)]
  rw [wr_k, wr_n, wr_i]
  simp only [wr_r, up_e]
  have e0 : ¬ b + 12 = b + 25 + 4 * q := by omega
  simp only [e0, false_and, if_false, Nat.reduceEqDiff, and_false, and_true, true_and]
  by_cases e : m = q
  · subst e
    simp only [if_true]
    exact ⟨this.1, this.2.1, this.2.2.1, this.2.2.2.1, this.2.2.2.2.1, this.2.2.2.2.2.1, this.2.2.2.2.2.2.1, this.2.2.2.2.2.2.2.1, this.2.2.2.2.2.2.2.2.1, this.2.2.2.2.2.2.2.2.2.1, this.2.2.2.2.2.2.2.2.2.2.1, hr, this.2.2.2.2.2.2.2.2.2.2.2.2⟩
  · have e2 : ¬ b + 25 + 4 * m = b + 25 + 4 * q := by omega
    simp only [e, e2, if_false]
    exact this
set_option maxRecDepth 100000 in
theorem l_79 {q o : Nat} {S : SS} {x : Nat → Int32} (hq : q < 3) {h0 : vg_H} (hG : GC G b h0) (hQ : ∀ h, fr b h0 h → CX G b A (eL S q x 6) h → CV b A (eL S q x 6) h → vg_A G (MT 79) 0 0 37 [some (.inr (.inr (some (b + 25 + 4 * q)))), some (.inr (.inr (some o))), none] [] h Q) (ho : ¬ o = b + 26 + 4 * q ∧ ¬ o = b + 28 + 4 * q) : ∀ (n i : Nat) (h : vg_H), i + n = 6 → fr b h0 h → CX G b A (eL S q x i) h → CV b A (eL S q x i) h → h.1 o = 100 → h.2.1 o = 6 → (∀ j, j < 6 → h.2.2.1 o j = x (5 - j)) →
    vg_A G (MT 79) 0 0 2 [some (.inr (.inr (some (b + 25 + 4 * q)))), some (.inr (.inr (some o))), some (.inl (nI i))] [] h Q := by
  intro n
  induction n with
  | zero =>
    intro i h hi hf hC hV ko no co
    obtain ⟨g1, g2, g3, g4, g5, g6, g7⟩ := hC.2.2.2.2.2.2.2.2.2
    have i6 : i = 6 := by omega
    subst i6
    have e1 : (6 : Int32) ≤ nI 6 := by decide
    refine vi_run ok_79 [37, 10] 40 ?_
    rw [at_79_2]
    simp only [↓reduceIte, vi_go_c, ↓v1_iadd, ↓v1_isub, ↓v1_imul, ↓v1_iand, ↓v1_idiv, ↓v1_irem, ↓v1_ineg, ↓v1_ladd, ↓v1_lsub, ↓v1_land, ↓v1_lcmp, ↓v1_lshl, ↓v1_lshr, ↓v1_i2l, ↓v1_l2i, ↓v1_iconst_0, ↓v1_iconst_m, ↓v1_bipush, ↓v1_sipush, ↓v1_ldc, ↓v1_ldc_w, ↓v1_lconst, ↓v1_ldc2_w, ↓v1_aconst_null, ↓v1_iload, ↓v1_iload_n, ↓v1_lload, ↓v1_lload_n, ↓v1_aload, ↓v1_aload_n, ↓v1_istore, ↓v1_istore_n, ↓v1_lstore, ↓v1_lstore_n, ↓v1_astore, ↓v1_astore_n, ↓v1_iinc, ↓v1_dup, ↓v1_dup2, ↓v1_ifCond_eq, ↓v1_ifCond_ne, ↓v1_ifCond_lt, ↓v1_ifCond_ge, ↓v1_ifCond_gt, ↓v1_ifCond_le, ↓v1_if_icmp_eq, ↓v1_if_icmp_ne, ↓v1_if_icmp_lt, ↓v1_if_icmp_ge, ↓v1_if_icmp_gt, ↓v1_if_icmp_le, ↓v1_if_acmp_ne, ↓v1_ifnull, ↓v1_ifnonnull, ↓v1_goto, ↓v1_tableswitch_0, ↓v1_return_, ↓v1_ireturn, ↓v1_lreturn, ↓v1_areturn, ↓v1_getfield_0, ↓v1_putfield_0, ↓v1_getstatic, ↓v1_iaload, ↓v1_laload, ↓v1_baload, ↓v1_aaload, ↓v1_iastore, ↓v1_lastore, ↓v1_bastore, ↓v1_aastore_0, ↓v1_arraylength, ↓v1_new_0, ↓v1_newarray, ↓v1_anewarray, ↓v1_invokestatic_0, ↓v1_invokestatic_1, ↓v1_invokestatic_2a, ↓v1_invokevirtual_0, ↓v1_invokespecial_0, ↓v1_invokespecial_1a, ↓v1_invokespecial_1b, ↓vi_ii_e, ↓vi_i_e, ↓vi_jj_e, ↓vi_j_e, ↓vi_ij_e, ↓vi_r_e, ↓vi_rr_e, ↓vi_o_e, ↓vi_ir_e, ↓vi_iir_e, ↓vi_jir_e, ↓vi_rir_e, ↓vi_pop_z, ↓vi_pop_s, ↓vi_sw_n, ↓vi_sw_c, ↓vi_li_z, ↓vi_li_s, ↓vi_ll_z, ↓vi_ll_s, ↓vi_lr_z, ↓vi_lr_s, ↓vi_ret_l, ↓vi_ret_r, vi_sv, vg_set1, vg_set2, vg_lo, List.headD, List.contains_nil, List.contains_cons, Bool.or_false, Bool.false_eq_true, if_false, if_true, Nat.reduceAdd, Nat.reduceBEq, List.nil_append, List.cons_append, List.append_nil, Option.toList, Int32.reduceOfNat, Int64.reduceOfNat, reduceCtorEq, Nat.reduceLeDiff, Nat.le_refl, Nat.zero_le, true_and, and_true, false_or, or_false, or_true, true_or, and_self, not_true_eq_false, not_false_eq_true, forall_const, false_implies, true_implies, Sum.inl.injEq, Sum.inr.injEq, Option.some.injEq, eq_self, oI_1, oI_m, oI_5, oI_L, vi_ws_nil, vi_ws_I, vi_ws_J, vi_ws_R, wi_k, wi_n, wi_r, wi_l, wr_k, wr_n, wr_i, wr_l, wl_k, wl_n, wl_i, wl_r, Nat.reduceSub, Nat.reduceMul, cd_79_0, cd_79_2, cd_79_37, cd_79_52, at_79_2, at_79_37, at_79_52, mc_79, ms_79, mr_79, mh_79, ml_79, g5, g6, e1]
    exact vr_less (vr_none 2 rfl) (hQ h hf hC hV)
  | succ n ih =>
    intro i h hi hf hC hV ko no co
    obtain ⟨g1, g2, g3, g4, g5, g6, g7⟩ := hC.2.2.2.2.2.2.2.2.2
    have e1 : ¬ (6 : Int32) ≤ nI i := by rw [show (6 : Int32) = nI 6 from rfl]; exact nI_ge (by omega) (by omega)
    have y1 := nI_clamp (show i < 2 ^ 31 by omega)
    have y2 : vp_in (nI i) 6 := vp_nI (by omega) (by omega)
    obtain ⟨u1, u2, u3, u4, u5, u6, u7, u8, u9, u10, u11, u12, u13, u14, u15, u16, u17⟩ := hC.2.2.2.2.2.2.2.1 q hq
    have u18 := (u17 i (by omega)).1
    have co1 := co i (by omega)
    have d1 : ∀ (hh : vg_H) (i j : Nat) (v : Int32), (vg_wi hh (b + 28 + 4 * q) i v).2.2.1 (b + 26 + 4 * q) j = hh.2.2.1 (b + 26 + 4 * q) j := fun hh i j v => by rw [wi_row (by omega)]
    have d2 : ∀ (hh : vg_H) (i j : Nat) (v : Int32), (vg_wi hh (b + 28 + 4 * q) i v).2.2.1 o j = hh.2.2.1 o j := fun hh i j v => by rw [wi_row ho.2]
    have d3 : ∀ (hh : vg_H) (i j : Nat) (v : Int32), (vg_wi hh (b + 26 + 4 * q) i v).2.2.1 o j = hh.2.2.1 o j := fun hh i j v => by rw [wi_row ho.1]
    refine vi_run ok_79 [2] 60 ?_
    rw [at_79_2]
    simp only [↓reduceIte, vi_go_c, ↓v1_iadd, ↓v1_isub, ↓v1_imul, ↓v1_iand, ↓v1_idiv, ↓v1_irem, ↓v1_ineg, ↓v1_ladd, ↓v1_lsub, ↓v1_land, ↓v1_lcmp, ↓v1_lshl, ↓v1_lshr, ↓v1_i2l, ↓v1_l2i, ↓v1_iconst_0, ↓v1_iconst_m, ↓v1_bipush, ↓v1_sipush, ↓v1_ldc, ↓v1_ldc_w, ↓v1_lconst, ↓v1_ldc2_w, ↓v1_aconst_null, ↓v1_iload, ↓v1_iload_n, ↓v1_lload, ↓v1_lload_n, ↓v1_aload, ↓v1_aload_n, ↓v1_istore, ↓v1_istore_n, ↓v1_lstore, ↓v1_lstore_n, ↓v1_astore, ↓v1_astore_n, ↓v1_iinc, ↓v1_dup, ↓v1_dup2, ↓v1_ifCond_eq, ↓v1_ifCond_ne, ↓v1_ifCond_lt, ↓v1_ifCond_ge, ↓v1_ifCond_gt, ↓v1_ifCond_le, ↓v1_if_icmp_eq, ↓v1_if_icmp_ne, ↓v1_if_icmp_lt, ↓v1_if_icmp_ge, ↓v1_if_icmp_gt, ↓v1_if_icmp_le, ↓v1_if_acmp_ne, ↓v1_ifnull, ↓v1_ifnonnull, ↓v1_goto, ↓v1_tableswitch_0, ↓v1_return_, ↓v1_ireturn, ↓v1_lreturn, ↓v1_areturn, ↓v1_getfield_0, ↓v1_putfield_0, ↓v1_getstatic, ↓v1_iaload, ↓v1_laload, ↓v1_baload, ↓v1_aaload, ↓v1_iastore, ↓v1_lastore, ↓v1_bastore, ↓v1_aastore_0, ↓v1_arraylength, ↓v1_new_0, ↓v1_newarray, ↓v1_anewarray, ↓v1_invokestatic_0, ↓v1_invokestatic_1, ↓v1_invokestatic_2a, ↓v1_invokevirtual_0, ↓v1_invokespecial_0, ↓v1_invokespecial_1a, ↓v1_invokespecial_1b, ↓vi_ii_e, ↓vi_i_e, ↓vi_jj_e, ↓vi_j_e, ↓vi_ij_e, ↓vi_r_e, ↓vi_rr_e, ↓vi_o_e, ↓vi_ir_e, ↓vi_iir_e, ↓vi_jir_e, ↓vi_rir_e, ↓vi_pop_z, ↓vi_pop_s, ↓vi_sw_n, ↓vi_sw_c, ↓vi_li_z, ↓vi_li_s, ↓vi_ll_z, ↓vi_ll_s, ↓vi_lr_z, ↓vi_lr_s, ↓vi_ret_l, ↓vi_ret_r, vi_sv, vg_set1, vg_set2, vg_lo, List.headD, List.contains_nil, List.contains_cons, Bool.or_false, Bool.false_eq_true, if_false, if_true, Nat.reduceAdd, Nat.reduceBEq, List.nil_append, List.cons_append, List.append_nil, Option.toList, Int32.reduceOfNat, Int64.reduceOfNat, reduceCtorEq, Nat.reduceLeDiff, Nat.le_refl, Nat.zero_le, true_and, and_true, false_or, or_false, or_true, true_or, and_self, not_true_eq_false, not_false_eq_true, forall_const, false_implies, true_implies, Sum.inl.injEq, Sum.inr.injEq, Option.some.injEq, eq_self, oI_1, oI_m, oI_5, oI_L, vi_ws_nil, vi_ws_I, vi_ws_J, vi_ws_R, wi_k, wi_n, wi_r, wi_l, wr_k, wr_n, wr_i, wr_l, wl_k, wl_n, wl_i, wl_r, Nat.reduceSub, Nat.reduceMul, cd_79_0, cd_79_2, cd_79_37, cd_79_52, at_79_2, at_79_37, at_79_52, mc_79, ms_79, mr_79, mh_79, ml_79, g5, g6, e1, y1, y2, u2, u3, u5, u6, u8, u9, u11, u18, ko, no, co1, d1, d2]
    intro v1 ev1 v2 ev2
    rw [← nI_succ] at ev2; subst ev2; subst ev1
    have c1 := hC.outp (q := q) (k := 5 - i) hq (by omega) (x (5 - i))
    rw [show 5 - (5 - i) = i by omega] at c1
    have c2 := c1.stk (q := q) (k := 5 - i) hq (by omega) (eL S q x i 35 (6 * q + (5 - i)) - x (5 - i))
    rw [show 5 - (5 - i) = i by omega] at c2
    refine ih (i + 1) _ (by omega) ((hf.wi (by omega) _ _).wi (by omega) _ _) c2 ((((hV.wi (by omega)).wi (by omega)).up (by omega)).up (by omega)) ko no (fun j hj => ?_)
    rw [d3, d2]
    exact co j hj
set_option maxRecDepth 100000 in
/-- Machine.end, while a ticket is paid there -/
theorem c_79 {S : SS} {h : vg_H} {q o : Nat} {x : Nat → Int32} (hC : CX G b A S h) (hV : CV b A S h) (hq : q < 3) (hT : nT S ≤ 300) (hz : ¬ S 32 q = 0) (ht : 1 ≤ (S 32 q).toNatClampNeg ∧ (S 32 q).toNatClampNeg ≤ nT S) (ho : ¬ o = b + 26 + 4 * q ∧ ¬ o = b + 28 + 4 * q) (ko : h.1 o = 100) (no : h.2.1 o = 6) (co : ∀ j, j < 6 → h.2.2.1 o j = x (5 - j)) (hQ : ∀ h', fr b h h' → CX G b A (eS S q x) h' → CV b A (eS S q x) h' → Q (.inl none) h') : vg_C G (MT 79) [.inr (.inr (some (b + 25 + 4 * q))), .inr (.inr (some o))] h Q := by
  refine vg_C_of rfl (by decide +kernel) (Nat.le_of_ble_eq_true rfl) ?_
  refine vi_run ok_79 [2] 40 ?_
  rw [at_79_0]
  simp only [vg_ent, vg_en, List.length_cons, List.length_nil, Nat.reduceAdd, Nat.reduceSub, List.replicate, List.append_nil, List.nil_append, List.cons_append, mn_79]
  simp only [↓reduceIte, vi_go_c, ↓v1_iadd, ↓v1_isub, ↓v1_imul, ↓v1_iand, ↓v1_idiv, ↓v1_irem, ↓v1_ineg, ↓v1_ladd, ↓v1_lsub, ↓v1_land, ↓v1_lcmp, ↓v1_lshl, ↓v1_lshr, ↓v1_i2l, ↓v1_l2i, ↓v1_iconst_0, ↓v1_iconst_m, ↓v1_bipush, ↓v1_sipush, ↓v1_ldc, ↓v1_ldc_w, ↓v1_lconst, ↓v1_ldc2_w, ↓v1_aconst_null, ↓v1_iload, ↓v1_iload_n, ↓v1_lload, ↓v1_lload_n, ↓v1_aload, ↓v1_aload_n, ↓v1_istore, ↓v1_istore_n, ↓v1_lstore, ↓v1_lstore_n, ↓v1_astore, ↓v1_astore_n, ↓v1_iinc, ↓v1_dup, ↓v1_dup2, ↓v1_ifCond_eq, ↓v1_ifCond_ne, ↓v1_ifCond_lt, ↓v1_ifCond_ge, ↓v1_ifCond_gt, ↓v1_ifCond_le, ↓v1_if_icmp_eq, ↓v1_if_icmp_ne, ↓v1_if_icmp_lt, ↓v1_if_icmp_ge, ↓v1_if_icmp_gt, ↓v1_if_icmp_le, ↓v1_if_acmp_ne, ↓v1_ifnull, ↓v1_ifnonnull, ↓v1_goto, ↓v1_tableswitch_0, ↓v1_return_, ↓v1_ireturn, ↓v1_lreturn, ↓v1_areturn, ↓v1_getfield_0, ↓v1_putfield_0, ↓v1_getstatic, ↓v1_iaload, ↓v1_laload, ↓v1_baload, ↓v1_aaload, ↓v1_iastore, ↓v1_lastore, ↓v1_bastore, ↓v1_aastore_0, ↓v1_arraylength, ↓v1_new_0, ↓v1_newarray, ↓v1_anewarray, ↓v1_invokestatic_0, ↓v1_invokestatic_1, ↓v1_invokestatic_2a, ↓v1_invokevirtual_0, ↓v1_invokespecial_0, ↓v1_invokespecial_1a, ↓v1_invokespecial_1b, ↓vi_ii_e, ↓vi_i_e, ↓vi_jj_e, ↓vi_j_e, ↓vi_ij_e, ↓vi_r_e, ↓vi_rr_e, ↓vi_o_e, ↓vi_ir_e, ↓vi_iir_e, ↓vi_jir_e, ↓vi_rir_e, ↓vi_pop_z, ↓vi_pop_s, ↓vi_sw_n, ↓vi_sw_c, ↓vi_li_z, ↓vi_li_s, ↓vi_ll_z, ↓vi_ll_s, ↓vi_lr_z, ↓vi_lr_s, ↓vi_ret_l, ↓vi_ret_r, vi_sv, vg_set1, vg_set2, vg_lo, List.headD, List.contains_nil, List.contains_cons, Bool.or_false, Bool.false_eq_true, if_false, if_true, Nat.reduceAdd, Nat.reduceBEq, List.nil_append, List.cons_append, List.append_nil, Option.toList, Int32.reduceOfNat, Int64.reduceOfNat, reduceCtorEq, Nat.reduceLeDiff, Nat.le_refl, Nat.zero_le, true_and, and_true, false_or, or_false, or_true, true_or, and_self, not_true_eq_false, not_false_eq_true, forall_const, false_implies, true_implies, Sum.inl.injEq, Sum.inr.injEq, Option.some.injEq, eq_self, oI_1, oI_m, oI_5, oI_L, vi_ws_nil, vi_ws_I, vi_ws_J, vi_ws_R, wi_k, wi_n, wi_r, wi_l, wr_k, wr_n, wr_i, wr_l, wl_k, wl_n, wl_i, wl_r, Nat.reduceSub, Nat.reduceMul, cd_79_0, cd_79_2, cd_79_37, cd_79_52, at_79_2, at_79_37, at_79_52, mc_79, ms_79, mr_79, mh_79, ml_79]
  refine l_79 (S := S) (x := x) hq hC.2.2.2.2.2.2.2.2.2 (fun h1 f1 c1 v1 => ?_) ho 6 0 h (by omega) (fr.refl b h) hC hV ko no co
  obtain ⟨u1, u2, u3, u4, u5, u6, u7, u8, u9, u10, u11, u12, u13⟩ := c1.2.2.2.2.2.2.2.1 q hq
  have e32 : eL S q x 6 32 q = S 32 q := by rw [eL_e 6 (by omega), if_neg (fun z => by omega), if_neg (fun z => by omega)]
  have e13 : nT (eL S q x 6) = nT S := by unfold nT; rw [eL_e 6 (by omega), if_neg (fun z => by omega), if_neg (fun z => by omega)]
  rw [e32, if_neg hz] at u12
  obtain ⟨t1, t2, t3, t4, t5⟩ := c1.2.2.2.2.1 (S 32 q).toNatClampNeg ht.1 (by rw [e13]; exact ht.2)
  have c2 := c1.tk6 ht.1 (by rw [e13]; exact ht.2) (by rw [e13]; exact hT) (-1)
  rw [bI_f (by decide)] at c2
  have c3 := c2.mref (q := q) (v := 0) (r := none) hq (by rw [if_pos rfl])
  refine vi_run ok_79 [] 60 ?_
  rw [at_79_37]
  simp only [↓reduceIte, vi_go_c, ↓v1_iadd, ↓v1_isub, ↓v1_imul, ↓v1_iand, ↓v1_idiv, ↓v1_irem, ↓v1_ineg, ↓v1_ladd, ↓v1_lsub, ↓v1_land, ↓v1_lcmp, ↓v1_lshl, ↓v1_lshr, ↓v1_i2l, ↓v1_l2i, ↓v1_iconst_0, ↓v1_iconst_m, ↓v1_bipush, ↓v1_sipush, ↓v1_ldc, ↓v1_ldc_w, ↓v1_lconst, ↓v1_ldc2_w, ↓v1_aconst_null, ↓v1_iload, ↓v1_iload_n, ↓v1_lload, ↓v1_lload_n, ↓v1_aload, ↓v1_aload_n, ↓v1_istore, ↓v1_istore_n, ↓v1_lstore, ↓v1_lstore_n, ↓v1_astore, ↓v1_astore_n, ↓v1_iinc, ↓v1_dup, ↓v1_dup2, ↓v1_ifCond_eq, ↓v1_ifCond_ne, ↓v1_ifCond_lt, ↓v1_ifCond_ge, ↓v1_ifCond_gt, ↓v1_ifCond_le, ↓v1_if_icmp_eq, ↓v1_if_icmp_ne, ↓v1_if_icmp_lt, ↓v1_if_icmp_ge, ↓v1_if_icmp_gt, ↓v1_if_icmp_le, ↓v1_if_acmp_ne, ↓v1_ifnull, ↓v1_ifnonnull, ↓v1_goto, ↓v1_tableswitch_0, ↓v1_return_, ↓v1_ireturn, ↓v1_lreturn, ↓v1_areturn, ↓v1_getfield_0, ↓v1_putfield_0, ↓v1_getstatic, ↓v1_iaload, ↓v1_laload, ↓v1_baload, ↓v1_aaload, ↓v1_iastore, ↓v1_lastore, ↓v1_bastore, ↓v1_aastore_0, ↓v1_arraylength, ↓v1_new_0, ↓v1_newarray, ↓v1_anewarray, ↓v1_invokestatic_0, ↓v1_invokestatic_1, ↓v1_invokestatic_2a, ↓v1_invokevirtual_0, ↓v1_invokespecial_0, ↓v1_invokespecial_1a, ↓v1_invokespecial_1b, ↓vi_ii_e, ↓vi_i_e, ↓vi_jj_e, ↓vi_j_e, ↓vi_ij_e, ↓vi_r_e, ↓vi_rr_e, ↓vi_o_e, ↓vi_ir_e, ↓vi_iir_e, ↓vi_jir_e, ↓vi_rir_e, ↓vi_pop_z, ↓vi_pop_s, ↓vi_sw_n, ↓vi_sw_c, ↓vi_li_z, ↓vi_li_s, ↓vi_ll_z, ↓vi_ll_s, ↓vi_lr_z, ↓vi_lr_s, ↓vi_ret_l, ↓vi_ret_r, vi_sv, vg_set1, vg_set2, vg_lo, List.headD, List.contains_nil, List.contains_cons, Bool.or_false, Bool.false_eq_true, if_false, if_true, Nat.reduceAdd, Nat.reduceBEq, List.nil_append, List.cons_append, List.append_nil, Option.toList, Int32.reduceOfNat, Int64.reduceOfNat, reduceCtorEq, Nat.reduceLeDiff, Nat.le_refl, Nat.zero_le, true_and, and_true, false_or, or_false, or_true, true_or, and_self, not_true_eq_false, not_false_eq_true, forall_const, false_implies, true_implies, Sum.inl.injEq, Sum.inr.injEq, Option.some.injEq, eq_self, oI_1, oI_m, oI_5, oI_L, vi_ws_nil, vi_ws_I, vi_ws_J, vi_ws_R, wi_k, wi_n, wi_r, wi_l, wr_k, wr_n, wr_i, wr_l, wl_k, wl_n, wl_i, wl_r, Nat.reduceSub, Nat.reduceMul, cd_79_0, cd_79_2, cd_79_37, cd_79_52, at_79_2, at_79_37, at_79_52, mc_79, ms_79, mr_79, mh_79, ml_79, u2, u12, t2]
  exact hQ _ ((f1.wi (by omega) _ _).wr (by omega) _ _) c3 ((((v1.wi (by omega)).wr (by omega)).up (by omega)).up (by omega))
end CEN
