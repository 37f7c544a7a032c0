/-! ===== the law's loop ===== -/
/-- what stands before call k of the script -/
def LI (G : vg_G) (b n k : Nat) (S : SS) (h : vg_H) : Prop := (∃ A, CX G b A S h ∧ CV b A S h) ∧ MX b S h ∧ Inv S k ∧ h.1 (b + 80) = 101 ∧ h.2.1 (b + 80) = 1 ∧ h.1 (G.2.2.2.2 4) = 200 ∧ h.2.1 (G.2.2.2.2 4) = n
section LO
variable {G : vg_G} {b n k : Nat} {A : AA} {S S' : SS} {h h1 h2 : vg_H} {Q : vg_O → vg_H → Prop}
theorem CV.fm (p : CV b A S h) (q : fm b h h1) : CV b A S h1 := by
  obtain ⟨q1, q2, q3, q4, q5, q6⟩ := q
  exact p.keep rfl ⟨rfl, rfl, rfl, rfl, rfl, rfl, rfl, rfl⟩ ⟨q6 _ (by omega), by rw [q4], by rw [q5], q6 _ (by omega), q6 _ (by omega)⟩ (fun z hz => ⟨by rw [q6 _ (by omega)], by rw [q4]⟩)
theorem CV.out (p : CV b A S h) (v : Int64) : CV b A S (vg_wl h (b + 80) 0 v) :=
  p.keep rfl ⟨rfl, rfl, rfl, rfl, rfl, rfl, rfl, rfl⟩ ⟨rfl, rfl, by funext j; rw [wl_l, if_neg (fun z => by omega)], rfl, rfl⟩ (fun z hz => ⟨rfl, rfl⟩)
/-- behind the class's call the model still holds S, the rest stands -/
theorem LI.cl (p : LI G b n k S h) (q : CE G b S' h h1) : MX b S h1 ∧ h1.1 (b + 80) = 101 ∧ h1.2.1 (b + 80) = 1 ∧ h1.1 (G.2.2.2.2 4) = 200 ∧ h1.2.1 (G.2.2.2.2 4) = n ∧ h1.1 (b + 37) = 11 := by
  obtain ⟨⟨A, p1, p2⟩, p3, p4, p5, p6, p7, p8⟩ := p
  have g4 := p1.2.2.2.2.2.2.2.2.2.2.2.2.1
  have r := q.1.2 (b + 80) (by omega)
  have s := q.1.2 (G.2.2.2.2 4) (Or.inl g4)
  have m := p3.fr q.1
  exact ⟨m, by rw [r.1]; exact p5, by rw [r.2.1]; exact p6, by rw [s.1]; exact p7, by rw [s.2.1]; exact p8, m.1⟩
/-- behind both calls -/
theorem LI.both (p : LI G b n k S h) (q : CE G b S' h h1) {w : Int32} (m : MP b S' w h1 h2) (i : Inv S' (k + 1)) : LI G b n (k + 1) S' h2 := by
  obtain ⟨c1, c2, c3, c4, c5, c6⟩ := p.cl q
  obtain ⟨A, a1, a2⟩ := q.2
  have f := m.1.2
  refine ⟨⟨A, a1.fm f, a2.fm f⟩, m.mx, i, ?_, ?_, ?_, ?_⟩
  · rw [f.2.1]; exact c2
  · rw [f.2.2.1]; exact c3
  · rw [f.2.1]; exact c4
  · rw [f.2.2.1]; exact c5
theorem op_0 {uc us : Nat} (hL : LI G b n k S h) (hk : 5 * k + 5 ≤ n) (hn : n ≤ 2560) (hu : uc ≤ 100 + 10 * k) (hs : us ≤ 400000 + 100 * k) (hQ : ∀ S' h' uc' us' (u v : Option vg_V), LI G b n (k + 1) S' h' → uc' ≤ 100 + 10 * (k + 1) → us' ≤ 400000 + 100 * (k + 1) → vg_A G (MT 169) uc' us' 1964 [some (.inr (.inr (some (G.2.2.2.2 4)))), some (.inr (.inr (some b))), some (.inr (.inr (some (b + 37)))), some (.inr (.inr (some (b + 80)))), some (.inl (nI (5 * k))), u, v] [] h' Q) :
    vg_A G (MT 169) uc us 160 [some (.inr (.inr (some (G.2.2.2.2 4)))), some (.inr (.inr (some b))), some (.inr (.inr (some (b + 37)))), some (.inr (.inr (some (b + 80)))), some (.inl (nI (5 * k))), none, none] [] h Q := by
  have s1 := hL.2.2.2.2.2.1
  have s2 := hL.2.2.2.2.2.2
  refine vi_run oL_0a [173] 40 ?_
  rw [aL_0a_160]
  simp only [↓reduceIte, vi_go_c, ↓v1_iadd, ↓v1_isub, ↓v1_imul, ↓v1_iand, ↓v1_idiv, ↓v1_irem, ↓v1_ineg, ↓v1_ladd, ↓v1_lsub, ↓v1_land, ↓v1_lcmp, ↓v1_lshl, ↓v1_lshr, ↓v1_i2l, ↓v1_l2i, ↓v1_iconst_0, ↓v1_iconst_m, ↓v1_bipush, ↓v1_sipush, ↓v1_ldc, ↓v1_ldc_w, ↓v1_lconst, ↓v1_ldc2_w, ↓v1_aconst_null, ↓v1_iload, ↓v1_iload_n, ↓v1_lload, ↓v1_lload_n, ↓v1_aload, ↓v1_aload_n, ↓v1_istore, ↓v1_istore_n, ↓v1_lstore, ↓v1_lstore_n, ↓v1_astore, ↓v1_astore_n, ↓v1_iinc, ↓v1_dup, ↓v1_dup2, ↓v1_ifCond_eq, ↓v1_ifCond_ne, ↓v1_ifCond_lt, ↓v1_ifCond_ge, ↓v1_ifCond_gt, ↓v1_ifCond_le, ↓v1_if_icmp_eq, ↓v1_if_icmp_ne, ↓v1_if_icmp_lt, ↓v1_if_icmp_ge, ↓v1_if_icmp_gt, ↓v1_if_icmp_le, ↓v1_if_acmp_ne, ↓v1_ifnull, ↓v1_ifnonnull, ↓v1_goto, ↓v1_tableswitch_0, ↓v1_return_, ↓v1_ireturn, ↓v1_lreturn, ↓v1_areturn, ↓v1_getfield_0, ↓v1_putfield_0, ↓v1_getstatic, ↓v1_iaload, ↓v1_laload, ↓v1_baload, ↓v1_aaload, ↓v1_iastore, ↓v1_lastore, ↓v1_bastore, ↓v1_aastore_0, ↓v1_arraylength, ↓v1_new_0, ↓v1_newarray, ↓v1_anewarray, ↓v1_invokestatic_0, ↓v1_invokestatic_1, ↓v1_invokestatic_2a, ↓v1_invokevirtual_0, ↓v1_invokespecial_0, ↓v1_invokespecial_1a, ↓v1_invokespecial_1b, ↓vi_ii_e, ↓vi_i_e, ↓vi_jj_e, ↓vi_j_e, ↓vi_ij_e, ↓vi_r_e, ↓vi_rr_e, ↓vi_o_e, ↓vi_ir_e, ↓vi_iir_e, ↓vi_jir_e, ↓vi_rir_e, ↓vi_pop_z, ↓vi_pop_s, ↓vi_sw_n, ↓vi_sw_c, ↓vi_li_z, ↓vi_li_s, ↓vi_ll_z, ↓vi_ll_s, ↓vi_lr_z, ↓vi_lr_s, ↓vi_ret_l, ↓vi_ret_r, vi_sv, vg_set1, vg_set2, vg_lo, List.headD, List.contains_nil, List.contains_cons, Bool.or_false, Bool.false_eq_true, if_false, if_true, Nat.reduceAdd, Nat.reduceBEq, List.nil_append, List.cons_append, List.append_nil, Option.toList, Int32.reduceOfNat, Int64.reduceOfNat, reduceCtorEq, Nat.reduceLeDiff, Nat.le_refl, Nat.zero_le, true_and, and_true, false_or, or_false, or_true, true_or, and_self, not_true_eq_false, not_false_eq_true, forall_const, false_implies, true_implies, Sum.inl.injEq, Sum.inr.injEq, Option.some.injEq, eq_self, oI_1, oI_m, oI_5, oI_L, vi_ws_nil, vi_ws_I, vi_ws_J, vi_ws_R, wi_k, wi_n, wi_r, wi_l, wr_k, wr_n, wr_i, wr_l, wl_k, wl_n, wl_i, wl_r, Nat.reduceSub, Nat.reduceMul, cL_0a_160, aL_0a_160, mc_169, ms_169, mr_169, mh_169, ml_169, s1, s2]
  intro v1 e1
  rw [show (1 : Int32) = nI 1 from rfl, nI_add] at e1
  subst e1
  refine ⟨vp_nI (by omega) (by omega), fun v2 e2 => ?_⟩
  rw [show (2 : Int32) = nI 2 from rfl, nI_add] at e2
  subst e2
  refine ⟨vp_nI (by omega) (by omega), ?_⟩
  have c1 := nI_clamp (show 5 * k + 1 < 2 ^ 31 by omega)
  have c2 := nI_clamp (show 5 * k + 2 < 2 ^ 31 by omega)
  have i1 : vp_in (nI (5 * k + 1)) n := vp_nI (by omega) (by omega)
  have i2 : vp_in (nI (5 * k + 2)) n := vp_nI (by omega) (by omega)
  rw [c1, c2]
  have row : ∀ S' h1, CE G b S' h h1 → ∀ j, h1.2.2.1 (G.2.2.2.2 4) j = h.2.2.1 (G.2.2.2.2 4) j := fun S' h1 q j => by
    obtain ⟨⟨A, p1, p2⟩, _⟩ := hL
    rw [(q.1.2 (G.2.2.2.2 4) (Or.inl p1.2.2.2.2.2.2.2.2.2.2.2.2.1)).2.2.1]
  have row1 := fun S' h1 q => row S' h1 q (5 * k + 1)
  have row2 := fun S' h1 q => row S' h1 q (5 * k + 2)
  clear row
  generalize h.2.2.1 (G.2.2.2.2 4) (5 * k + 1) = p0 at *
  generalize h.2.2.1 (G.2.2.2.2 4) (5 * k + 2) = p1 at *
  have hL0 := hL
  obtain ⟨⟨A, x1, x2⟩, x3, x4, _⟩ := hL0
  -- behind the class's call
  have after : ∀ w S' h1, CE G b S' h h1 → Inv S' (k + 1) → w = kPlaces S p0 p1 → ((¬ w = 0 ∧ S' = S) ∨ (w = 0 ∧ S' = up S 3 p0.toNatClampNeg p1)) → vg_A G (MT 169) (uc + 2) (us + 12) 176 [some (.inr (.inr (some (G.2.2.2.2 4)))), some (.inr (.inr (some b))), some (.inr (.inr (some (b + 37)))), some (.inr (.inr (some (b + 80)))), some (.inl (nI (5 * k))), none, none] [.inl w] h1 Q := by
    intro w S' h1 ce iv hw hS
    obtain ⟨m1, m2, m3, m4, m5, m6⟩ := hL.cl ce
    have r1 := row1 S' h1 ce
    have r2 := row2 S' h1 ce
    have tail : ∀ h2, MP b S' w h1 h2 → vg_A G (MT 169) (uc + 2) (us + 12) 1964 [some (.inr (.inr (some (G.2.2.2.2 4)))), some (.inr (.inr (some b))), some (.inr (.inr (some (b + 37)))), some (.inr (.inr (some (b + 80)))), some (.inl (nI (5 * k))), some (.inl w), none] [] h2 Q := fun h2 mp => hQ S' h2 _ _ _ _ (hL.both ce mp iv) (by omega) (by omega)
    refine vi_run oL_0b [1964] 60 ?_
    rw [aL_0b_176]
    simp only [↓reduceIte, vi_go_c, ↓v1_iadd, ↓v1_isub, ↓v1_imul, ↓v1_iand, ↓v1_idiv, ↓v1_irem, ↓v1_ineg, ↓v1_ladd, ↓v1_lsub, ↓v1_land, ↓v1_lcmp, ↓v1_lshl, ↓v1_lshr, ↓v1_i2l, ↓v1_l2i, ↓v1_iconst_0, ↓v1_iconst_m, ↓v1_bipush, ↓v1_sipush, ↓v1_ldc, ↓v1_ldc_w, ↓v1_lconst, ↓v1_ldc2_w, ↓v1_aconst_null, ↓v1_iload, ↓v1_iload_n, ↓v1_lload, ↓v1_lload_n, ↓v1_aload, ↓v1_aload_n, ↓v1_istore, ↓v1_istore_n, ↓v1_lstore, ↓v1_lstore_n, ↓v1_astore, ↓v1_astore_n, ↓v1_iinc, ↓v1_dup, ↓v1_dup2, ↓v1_ifCond_eq, ↓v1_ifCond_ne, ↓v1_ifCond_lt, ↓v1_ifCond_ge, ↓v1_ifCond_gt, ↓v1_ifCond_le, ↓v1_if_icmp_eq, ↓v1_if_icmp_ne, ↓v1_if_icmp_lt, ↓v1_if_icmp_ge, ↓v1_if_icmp_gt, ↓v1_if_icmp_le, ↓v1_if_acmp_ne, ↓v1_ifnull, ↓v1_ifnonnull, ↓v1_goto, ↓v1_tableswitch_0, ↓v1_return_, ↓v1_ireturn, ↓v1_lreturn, ↓v1_areturn, ↓v1_getfield_0, ↓v1_putfield_0, ↓v1_getstatic, ↓v1_iaload, ↓v1_laload, ↓v1_baload, ↓v1_aaload, ↓v1_iastore, ↓v1_lastore, ↓v1_bastore, ↓v1_aastore_0, ↓v1_arraylength, ↓v1_new_0, ↓v1_newarray, ↓v1_anewarray, ↓v1_invokestatic_0, ↓v1_invokestatic_1, ↓v1_invokestatic_2a, ↓v1_invokevirtual_0, ↓v1_invokespecial_0, ↓v1_invokespecial_1a, ↓v1_invokespecial_1b, ↓vi_ii_e, ↓vi_i_e, ↓vi_jj_e, ↓vi_j_e, ↓vi_ij_e, ↓vi_r_e, ↓vi_rr_e, ↓vi_o_e, ↓vi_ir_e, ↓vi_iir_e, ↓vi_jir_e, ↓vi_rir_e, ↓vi_pop_z, ↓vi_pop_s, ↓vi_sw_n, ↓vi_sw_c, ↓vi_li_z, ↓vi_li_s, ↓vi_ll_z, ↓vi_ll_s, ↓vi_lr_z, ↓vi_lr_s, ↓vi_ret_l, ↓vi_ret_r, vi_sv, vg_set1, vg_set2, vg_lo, List.headD, List.contains_nil, List.contains_cons, Bool.or_false, Bool.false_eq_true, if_false, if_true, Nat.reduceAdd, Nat.reduceBEq, List.nil_append, List.cons_append, List.append_nil, Option.toList, Int32.reduceOfNat, Int64.reduceOfNat, reduceCtorEq, Nat.reduceLeDiff, Nat.le_refl, Nat.zero_le, true_and, and_true, false_or, or_false, or_true, true_or, and_self, not_true_eq_false, not_false_eq_true, forall_const, false_implies, true_implies, Sum.inl.injEq, Sum.inr.injEq, Option.some.injEq, eq_self, oI_1, oI_m, oI_5, oI_L, vi_ws_nil, vi_ws_I, vi_ws_J, vi_ws_R, wi_k, wi_n, wi_r, wi_l, wr_k, wr_n, wr_i, wr_l, wl_k, wl_n, wl_i, wl_r, Nat.reduceSub, Nat.reduceMul, cL_0b_176, cL_0b_205, aL_0b_176, aL_0b_205, mc_169, ms_169, mr_169, mh_169, ml_169, mc_146, ms_146, mc_154, ms_154, m4, m5, m6]
    intro v1 e1
    rw [show (1 : Int32) = nI 1 from rfl, nI_add] at e1
    subst e1
    refine ⟨i1, fun v2 e2 => ?_⟩
    rw [show (2 : Int32) = nI 2 from rfl, nI_add] at e2
    subst e2
    refine ⟨i2, ⟨by omega, by omega⟩, ?_⟩
    rw [c1, c2, r1, r2]
    have go : ∀ h2, MP b S' w h1 h2 → vg_C G (MT 154) [.inr (.inr (some (b + 37)))] h2 (fun o h' => h' = h2 ∧ o = .inl (some (.inl w))) := fun h2 mp => c_154 mp.mx.1 ⟨rfl, by rw [mp.2]⟩
    refine c_146 m1 (fun hne h2 mp => ?_) (fun hz h2 mp => ?_)
    · have mp' : MP b S' w h1 h2 := by
        rcases hS with ⟨q1, q2⟩ | ⟨q1, q2⟩
        · rw [q2, hw]; exact mp
        · rw [hw] at q1; exact absurd q1 hne
      have k1 := mp'.mx.1
      simp only [↓reduceIte, vi_go_c, ↓v1_iadd, ↓v1_isub, ↓v1_imul, ↓v1_iand, ↓v1_idiv, ↓v1_irem, ↓v1_ineg, ↓v1_ladd, ↓v1_lsub, ↓v1_land, ↓v1_lcmp, ↓v1_lshl, ↓v1_lshr, ↓v1_i2l, ↓v1_l2i, ↓v1_iconst_0, ↓v1_iconst_m, ↓v1_bipush, ↓v1_sipush, ↓v1_ldc, ↓v1_ldc_w, ↓v1_lconst, ↓v1_ldc2_w, ↓v1_aconst_null, ↓v1_iload, ↓v1_iload_n, ↓v1_lload, ↓v1_lload_n, ↓v1_aload, ↓v1_aload_n, ↓v1_istore, ↓v1_istore_n, ↓v1_lstore, ↓v1_lstore_n, ↓v1_astore, ↓v1_astore_n, ↓v1_iinc, ↓v1_dup, ↓v1_dup2, ↓v1_ifCond_eq, ↓v1_ifCond_ne, ↓v1_ifCond_lt, ↓v1_ifCond_ge, ↓v1_ifCond_gt, ↓v1_ifCond_le, ↓v1_if_icmp_eq, ↓v1_if_icmp_ne, ↓v1_if_icmp_lt, ↓v1_if_icmp_ge, ↓v1_if_icmp_gt, ↓v1_if_icmp_le, ↓v1_if_acmp_ne, ↓v1_ifnull, ↓v1_ifnonnull, ↓v1_goto, ↓v1_tableswitch_0, ↓v1_return_, ↓v1_ireturn, ↓v1_lreturn, ↓v1_areturn, ↓v1_getfield_0, ↓v1_putfield_0, ↓v1_getstatic, ↓v1_iaload, ↓v1_laload, ↓v1_baload, ↓v1_aaload, ↓v1_iastore, ↓v1_lastore, ↓v1_bastore, ↓v1_aastore_0, ↓v1_arraylength, ↓v1_new_0, ↓v1_newarray, ↓v1_anewarray, ↓v1_invokestatic_0, ↓v1_invokestatic_1, ↓v1_invokestatic_2a, ↓v1_invokevirtual_0, ↓v1_invokespecial_0, ↓v1_invokespecial_1a, ↓v1_invokespecial_1b, ↓vi_ii_e, ↓vi_i_e, ↓vi_jj_e, ↓vi_j_e, ↓vi_ij_e, ↓vi_r_e, ↓vi_rr_e, ↓vi_o_e, ↓vi_ir_e, ↓vi_iir_e, ↓vi_jir_e, ↓vi_rir_e, ↓vi_pop_z, ↓vi_pop_s, ↓vi_sw_n, ↓vi_sw_c, ↓vi_li_z, ↓vi_li_s, ↓vi_ll_z, ↓vi_ll_s, ↓vi_lr_z, ↓vi_lr_s, ↓vi_ret_l, ↓vi_ret_r, vi_sv, vg_set1, vg_set2, vg_lo, List.headD, List.contains_nil, List.contains_cons, Bool.or_false, Bool.false_eq_true, if_false, if_true, Nat.reduceAdd, Nat.reduceBEq, List.nil_append, List.cons_append, List.append_nil, Option.toList, Int32.reduceOfNat, Int64.reduceOfNat, reduceCtorEq, Nat.reduceLeDiff, Nat.le_refl, Nat.zero_le, true_and, and_true, false_or, or_false, or_true, true_or, and_self, not_true_eq_false, not_false_eq_true, forall_const, false_implies, true_implies, Sum.inl.injEq, Sum.inr.injEq, Option.some.injEq, eq_self, oI_1, oI_m, oI_5, oI_L, vi_ws_nil, vi_ws_I, vi_ws_J, vi_ws_R, wi_k, wi_n, wi_r, wi_l, wr_k, wr_n, wr_i, wr_l, wl_k, wl_n, wl_i, wl_r, Nat.reduceSub, Nat.reduceMul, cL_0b_176, cL_0b_205, aL_0b_176, aL_0b_205, mc_169, ms_169, mr_169, mh_169, ml_169, mc_146, ms_146, mc_154, ms_154, k1]
      refine ⟨⟨by omega, by omega⟩, c_154 k1 ?_⟩
      rw [mp'.2]
      simp only [↓reduceIte, vi_go_c, ↓v1_iadd, ↓v1_isub, ↓v1_imul, ↓v1_iand, ↓v1_idiv, ↓v1_irem, ↓v1_ineg, ↓v1_ladd, ↓v1_lsub, ↓v1_land, ↓v1_lcmp, ↓v1_lshl, ↓v1_lshr, ↓v1_i2l, ↓v1_l2i, ↓v1_iconst_0, ↓v1_iconst_m, ↓v1_bipush, ↓v1_sipush, ↓v1_ldc, ↓v1_ldc_w, ↓v1_lconst, ↓v1_ldc2_w, ↓v1_aconst_null, ↓v1_iload, ↓v1_iload_n, ↓v1_lload, ↓v1_lload_n, ↓v1_aload, ↓v1_aload_n, ↓v1_istore, ↓v1_istore_n, ↓v1_lstore, ↓v1_lstore_n, ↓v1_astore, ↓v1_astore_n, ↓v1_iinc, ↓v1_dup, ↓v1_dup2, ↓v1_ifCond_eq, ↓v1_ifCond_ne, ↓v1_ifCond_lt, ↓v1_ifCond_ge, ↓v1_ifCond_gt, ↓v1_ifCond_le, ↓v1_if_icmp_eq, ↓v1_if_icmp_ne, ↓v1_if_icmp_lt, ↓v1_if_icmp_ge, ↓v1_if_icmp_gt, ↓v1_if_icmp_le, ↓v1_if_acmp_ne, ↓v1_ifnull, ↓v1_ifnonnull, ↓v1_goto, ↓v1_tableswitch_0, ↓v1_return_, ↓v1_ireturn, ↓v1_lreturn, ↓v1_areturn, ↓v1_getfield_0, ↓v1_putfield_0, ↓v1_getstatic, ↓v1_iaload, ↓v1_laload, ↓v1_baload, ↓v1_aaload, ↓v1_iastore, ↓v1_lastore, ↓v1_bastore, ↓v1_aastore_0, ↓v1_arraylength, ↓v1_new_0, ↓v1_newarray, ↓v1_anewarray, ↓v1_invokestatic_0, ↓v1_invokestatic_1, ↓v1_invokestatic_2a, ↓v1_invokevirtual_0, ↓v1_invokespecial_0, ↓v1_invokespecial_1a, ↓v1_invokespecial_1b, ↓vi_ii_e, ↓vi_i_e, ↓vi_jj_e, ↓vi_j_e, ↓vi_ij_e, ↓vi_r_e, ↓vi_rr_e, ↓vi_o_e, ↓vi_ir_e, ↓vi_iir_e, ↓vi_jir_e, ↓vi_rir_e, ↓vi_pop_z, ↓vi_pop_s, ↓vi_sw_n, ↓vi_sw_c, ↓vi_li_z, ↓vi_li_s, ↓vi_ll_z, ↓vi_ll_s, ↓vi_lr_z, ↓vi_lr_s, ↓vi_ret_l, ↓vi_ret_r, vi_sv, vg_set1, vg_set2, vg_lo, List.headD, List.contains_nil, List.contains_cons, Bool.or_false, Bool.false_eq_true, if_false, if_true, Nat.reduceAdd, Nat.reduceBEq, List.nil_append, List.cons_append, List.append_nil, Option.toList, Int32.reduceOfNat, Int64.reduceOfNat, reduceCtorEq, Nat.reduceLeDiff, Nat.le_refl, Nat.zero_le, true_and, and_true, false_or, or_false, or_true, true_or, and_self, not_true_eq_false, not_false_eq_true, forall_const, false_implies, true_implies, Sum.inl.injEq, Sum.inr.injEq, Option.some.injEq, eq_self, oI_1, oI_m, oI_5, oI_L, vi_ws_nil, vi_ws_I, vi_ws_J, vi_ws_R, wi_k, wi_n, wi_r, wi_l, wr_k, wr_n, wr_i, wr_l, wl_k, wl_n, wl_i, wl_r, Nat.reduceSub, Nat.reduceMul, cL_0b_176, cL_0b_205, aL_0b_176, aL_0b_205, mc_169, ms_169, mr_169, mh_169, ml_169, mc_146, ms_146, mc_154, ms_154]
      exact tail h2 mp'
    · have mp' : MP b S' w h1 h2 := by
        rcases hS with ⟨q1, q2⟩ | ⟨q1, q2⟩
        · rw [hw] at q1; exact absurd hz q1
        · rw [q2, q1]; exact mp
      have k1 := mp'.mx.1
      simp only [↓reduceIte, vi_go_c, ↓v1_iadd, ↓v1_isub, ↓v1_imul, ↓v1_iand, ↓v1_idiv, ↓v1_irem, ↓v1_ineg, ↓v1_ladd, ↓v1_lsub, ↓v1_land, ↓v1_lcmp, ↓v1_lshl, ↓v1_lshr, ↓v1_i2l, ↓v1_l2i, ↓v1_iconst_0, ↓v1_iconst_m, ↓v1_bipush, ↓v1_sipush, ↓v1_ldc, ↓v1_ldc_w, ↓v1_lconst, ↓v1_ldc2_w, ↓v1_aconst_null, ↓v1_iload, ↓v1_iload_n, ↓v1_lload, ↓v1_lload_n, ↓v1_aload, ↓v1_aload_n, ↓v1_istore, ↓v1_istore_n, ↓v1_lstore, ↓v1_lstore_n, ↓v1_astore, ↓v1_astore_n, ↓v1_iinc, ↓v1_dup, ↓v1_dup2, ↓v1_ifCond_eq, ↓v1_ifCond_ne, ↓v1_ifCond_lt, ↓v1_ifCond_ge, ↓v1_ifCond_gt, ↓v1_ifCond_le, ↓v1_if_icmp_eq, ↓v1_if_icmp_ne, ↓v1_if_icmp_lt, ↓v1_if_icmp_ge, ↓v1_if_icmp_gt, ↓v1_if_icmp_le, ↓v1_if_acmp_ne, ↓v1_ifnull, ↓v1_ifnonnull, ↓v1_goto, ↓v1_tableswitch_0, ↓v1_return_, ↓v1_ireturn, ↓v1_lreturn, ↓v1_areturn, ↓v1_getfield_0, ↓v1_putfield_0, ↓v1_getstatic, ↓v1_iaload, ↓v1_laload, ↓v1_baload, ↓v1_aaload, ↓v1_iastore, ↓v1_lastore, ↓v1_bastore, ↓v1_aastore_0, ↓v1_arraylength, ↓v1_new_0, ↓v1_newarray, ↓v1_anewarray, ↓v1_invokestatic_0, ↓v1_invokestatic_1, ↓v1_invokestatic_2a, ↓v1_invokevirtual_0, ↓v1_invokespecial_0, ↓v1_invokespecial_1a, ↓v1_invokespecial_1b, ↓vi_ii_e, ↓vi_i_e, ↓vi_jj_e, ↓vi_j_e, ↓vi_ij_e, ↓vi_r_e, ↓vi_rr_e, ↓vi_o_e, ↓vi_ir_e, ↓vi_iir_e, ↓vi_jir_e, ↓vi_rir_e, ↓vi_pop_z, ↓vi_pop_s, ↓vi_sw_n, ↓vi_sw_c, ↓vi_li_z, ↓vi_li_s, ↓vi_ll_z, ↓vi_ll_s, ↓vi_lr_z, ↓vi_lr_s, ↓vi_ret_l, ↓vi_ret_r, vi_sv, vg_set1, vg_set2, vg_lo, List.headD, List.contains_nil, List.contains_cons, Bool.or_false, Bool.false_eq_true, if_false, if_true, Nat.reduceAdd, Nat.reduceBEq, List.nil_append, List.cons_append, List.append_nil, Option.toList, Int32.reduceOfNat, Int64.reduceOfNat, reduceCtorEq, Nat.reduceLeDiff, Nat.le_refl, Nat.zero_le, true_and, and_true, false_or, or_false, or_true, true_or, and_self, not_true_eq_false, not_false_eq_true, forall_const, false_implies, true_implies, Sum.inl.injEq, Sum.inr.injEq, Option.some.injEq, eq_self, oI_1, oI_m, oI_5, oI_L, vi_ws_nil, vi_ws_I, vi_ws_J, vi_ws_R, wi_k, wi_n, wi_r, wi_l, wr_k, wr_n, wr_i, wr_l, wl_k, wl_n, wl_i, wl_r, Nat.reduceSub, Nat.reduceMul, cL_0b_176, cL_0b_205, aL_0b_176, aL_0b_205, mc_169, ms_169, mr_169, mh_169, ml_169, mc_146, ms_146, mc_154, ms_154, k1]
      refine ⟨⟨by omega, by omega⟩, c_154 k1 ?_⟩
      rw [mp'.2]
      simp only [↓reduceIte, vi_go_c, ↓v1_iadd, ↓v1_isub, ↓v1_imul, ↓v1_iand, ↓v1_idiv, ↓v1_irem, ↓v1_ineg, ↓v1_ladd, ↓v1_lsub, ↓v1_land, ↓v1_lcmp, ↓v1_lshl, ↓v1_lshr, ↓v1_i2l, ↓v1_l2i, ↓v1_iconst_0, ↓v1_iconst_m, ↓v1_bipush, ↓v1_sipush, ↓v1_ldc, ↓v1_ldc_w, ↓v1_lconst, ↓v1_ldc2_w, ↓v1_aconst_null, ↓v1_iload, ↓v1_iload_n, ↓v1_lload, ↓v1_lload_n, ↓v1_aload, ↓v1_aload_n, ↓v1_istore, ↓v1_istore_n, ↓v1_lstore, ↓v1_lstore_n, ↓v1_astore, ↓v1_astore_n, ↓v1_iinc, ↓v1_dup, ↓v1_dup2, ↓v1_ifCond_eq, ↓v1_ifCond_ne, ↓v1_ifCond_lt, ↓v1_ifCond_ge, ↓v1_ifCond_gt, ↓v1_ifCond_le, ↓v1_if_icmp_eq, ↓v1_if_icmp_ne, ↓v1_if_icmp_lt, ↓v1_if_icmp_ge, ↓v1_if_icmp_gt, ↓v1_if_icmp_le, ↓v1_if_acmp_ne, ↓v1_ifnull, ↓v1_ifnonnull, ↓v1_goto, ↓v1_tableswitch_0, ↓v1_return_, ↓v1_ireturn, ↓v1_lreturn, ↓v1_areturn, ↓v1_getfield_0, ↓v1_putfield_0, ↓v1_getstatic, ↓v1_iaload, ↓v1_laload, ↓v1_baload, ↓v1_aaload, ↓v1_iastore, ↓v1_lastore, ↓v1_bastore, ↓v1_aastore_0, ↓v1_arraylength, ↓v1_new_0, ↓v1_newarray, ↓v1_anewarray, ↓v1_invokestatic_0, ↓v1_invokestatic_1, ↓v1_invokestatic_2a, ↓v1_invokevirtual_0, ↓v1_invokespecial_0, ↓v1_invokespecial_1a, ↓v1_invokespecial_1b, ↓vi_ii_e, ↓vi_i_e, ↓vi_jj_e, ↓vi_j_e, ↓vi_ij_e, ↓vi_r_e, ↓vi_rr_e, ↓vi_o_e, ↓vi_ir_e, ↓vi_iir_e, ↓vi_jir_e, ↓vi_rir_e, ↓vi_pop_z, ↓vi_pop_s, ↓vi_sw_n, ↓vi_sw_c, ↓vi_li_z, ↓vi_li_s, ↓vi_ll_z, ↓vi_ll_s, ↓vi_lr_z, ↓vi_lr_s, ↓vi_ret_l, ↓vi_ret_r, vi_sv, vg_set1, vg_set2, vg_lo, List.headD, List.contains_nil, List.contains_cons, Bool.or_false, Bool.false_eq_true, if_false, if_true, Nat.reduceAdd, Nat.reduceBEq, List.nil_append, List.cons_append, List.append_nil, Option.toList, Int32.reduceOfNat, Int64.reduceOfNat, reduceCtorEq, Nat.reduceLeDiff, Nat.le_refl, Nat.zero_le, true_and, and_true, false_or, or_false, or_true, true_or, and_self, not_true_eq_false, not_false_eq_true, forall_const, false_implies, true_implies, Sum.inl.injEq, Sum.inr.injEq, Option.some.injEq, eq_self, oI_1, oI_m, oI_5, oI_L, vi_ws_nil, vi_ws_I, vi_ws_J, vi_ws_R, wi_k, wi_n, wi_r, wi_l, wr_k, wr_n, wr_i, wr_l, wl_k, wl_n, wl_i, wl_r, Nat.reduceSub, Nat.reduceMul, cL_0b_176, cL_0b_205, aL_0b_176, aL_0b_205, mc_169, ms_169, mr_169, mh_169, ml_169, mc_146, ms_146, mc_154, ms_154]
      exact tail h2 mp'
  refine vr_callSH (N := MT 178) (as := [.inr (.inr (some b)), .inl p0, .inl p1]) (st := []) (n := 3) (Q1 := fun o h1 => ∃ w S', o = .inl (some (.inl w)) ∧ CE G b S' h h1 ∧ Inv S' (k + 1) ∧ w = kPlaces S p0 p1 ∧ ((¬ w = 0 ∧ S' = S) ∨ (w = 0 ∧ S' = up S 3 p0.toNatClampNeg p1))) (vg_inW 258 rfl rfl) mh_178 (vg_inW 260 rfl rfl) (vg_inW 49 rfl rfl) (by decide +kernel) (by decide +kernel) (vg_inW 259 rfl rfl) rfl (by decide +kernel) (by simp) ⟨by rw [mc_178, mc_169]; omega, by rw [ms_178, ms_169]; omega⟩ ?_ (fun v h1 q => ?_) (fun j h1 q => ?_)
  · refine c_178 x1.1.1 (Q1 := fun o h1 => (o = .inr 0 ∧ kPlaces S p0 p1 = 1 ∧ CE G b S h h1) ∨ (o = .inr 1 ∧ kPlaces S p0 p1 = 2 ∧ CE G b S h h1) ∨ (o = .inl none ∧ kPlaces S p0 p1 = 0 ∧ CE G b (up S 3 p0.toNatClampNeg p1) h h1)) (c_52 x1 x2 (fun q h1 ce => Or.inl ⟨rfl, q, ce⟩) (fun q h1 ce => Or.inr (Or.inl ⟨rfl, q, ce⟩)) (fun q h1 ce => Or.inr (Or.inr ⟨rfl, q, ce⟩))) (fun v h1 q => ?_) (fun j h1 q => ?_)
    · rcases q with ⟨q, _⟩ | ⟨q, _⟩ | ⟨q, q2, ce⟩
      · cases q
      · cases q
      · injection q with q
        subst q
        have ar : ((0 ≤ p0 ∧ p0 ≤ 3) ∧ 1 ≤ p1 ∧ p1 ≤ 40) ∧ S 1 0 = 0 := by unfold kPlaces at q2; grind
        exact ⟨rfl, 0, _, rfl, ce, x4.places ar.2 ar.1.2, q2.symm, Or.inr ⟨rfl, rfl⟩⟩
    · rcases q with ⟨q, q2, ce⟩ | ⟨q, q2, ce⟩ | ⟨q, _⟩
      · injection q with q
        exact Or.inl ⟨q, 1, S, rfl, ce, x4.next, q2.symm, Or.inl ⟨by decide, rfl⟩⟩
      · injection q with q
        exact Or.inr ⟨q, 2, S, rfl, ce, x4.next, q2.symm, Or.inl ⟨by decide, rfl⟩⟩
      · cases q
  · obtain ⟨w, S', q1, ce, iv, hw, hS⟩ := q
    injection q1 with q1
    subst q1
    exact after w S' h1 ce iv hw hS
  · obtain ⟨w, S', q1, _⟩ := q
    cases q1
end LO
