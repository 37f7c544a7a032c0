/-! ===== the class: contracts ===== -/
section CCO
variable {G : vg_G} {b : Nat} {A : AA} {S : SS} {h : vg_H} {Q : vg_O → vg_H → Prop}
set_option maxRecDepth 100000 in
theorem c_64 {a : Nat} (ha : h.1 a = 2) (hz : a < vg_z h) (hQ : Q (.inl none) (vg_wi (vg_wr (vg_new (vg_wi (vg_wi h a 0 0) a 1 1) 100 12) a 2 (some (vg_z h))) a 3 0)) : vg_C G (MT 64) [.inr (.inr (some a))] h Q := by
  refine vg_C_of rfl (by decide +kernel) (Nat.le_of_ble_eq_true rfl) ?_
  refine vi_run ok_64 [] 60 ?_
  rw [at_64_0]
  simp only [vg_ent, vg_en, List.length_cons, List.length_nil, Nat.reduceAdd, Nat.reduceSub, List.replicate, List.append_nil, List.nil_append, List.cons_append, mn_64]
  simp only [↓reduceIte, vi_go_c, ↓v1_iadd, ↓v1_isub, ↓v1_imul, ↓v1_iand, ↓v1_idiv, ↓v1_irem, ↓v1_ineg, ↓v1_ladd, ↓v1_lsub, ↓v1_land, ↓v1_lcmp, ↓v1_lshl, ↓v1_lshr, ↓v1_i2l, ↓v1_l2i, ↓v1_iconst_0, ↓v1_iconst_m, ↓v1_bipush, ↓v1_sipush, ↓v1_ldc, ↓v1_ldc_w, ↓v1_lconst, ↓v1_ldc2_w, ↓v1_aconst_null, ↓v1_iload, ↓v1_iload_n, ↓v1_lload, ↓v1_lload_n, ↓v1_aload, ↓v1_aload_n, ↓v1_istore, ↓v1_istore_n, ↓v1_lstore, ↓v1_lstore_n, ↓v1_astore, ↓v1_astore_n, ↓v1_iinc, ↓v1_dup, ↓v1_dup2, ↓v1_ifCond_eq, ↓v1_ifCond_ne, ↓v1_ifCond_lt, ↓v1_ifCond_ge, ↓v1_ifCond_gt, ↓v1_ifCond_le, ↓v1_if_icmp_eq, ↓v1_if_icmp_ne, ↓v1_if_icmp_lt, ↓v1_if_icmp_ge, ↓v1_if_icmp_gt, ↓v1_if_icmp_le, ↓v1_if_acmp_ne, ↓v1_ifnull, ↓v1_ifnonnull, ↓v1_goto, ↓v1_tableswitch_0, ↓v1_return_, ↓v1_ireturn, ↓v1_lreturn, ↓v1_areturn, ↓v1_getfield_0, ↓v1_putfield_0, ↓v1_getstatic, ↓v1_iaload, ↓v1_laload, ↓v1_baload, ↓v1_aaload, ↓v1_iastore, ↓v1_lastore, ↓v1_bastore, ↓v1_aastore_0, ↓v1_arraylength, ↓v1_new_0, ↓v1_newarray, ↓v1_anewarray, ↓v1_invokestatic_0, ↓v1_invokestatic_1, ↓v1_invokestatic_2a, ↓v1_invokevirtual_0, ↓v1_invokespecial_0, ↓v1_invokespecial_1a, ↓v1_invokespecial_1b, ↓vi_ii_e, ↓vi_i_e, ↓vi_jj_e, ↓vi_j_e, ↓vi_ij_e, ↓vi_r_e, ↓vi_rr_e, ↓vi_o_e, ↓vi_ir_e, ↓vi_iir_e, ↓vi_jir_e, ↓vi_rir_e, ↓vi_pop_z, ↓vi_pop_s, ↓vi_sw_n, ↓vi_sw_c, ↓vi_li_z, ↓vi_li_s, ↓vi_ll_z, ↓vi_ll_s, ↓vi_lr_z, ↓vi_lr_s, ↓vi_ret_l, ↓vi_ret_r, vi_sv, vg_set1, vg_set2, vg_lo, List.headD, List.contains_nil, List.contains_cons, Bool.or_false, Bool.false_eq_true, if_false, if_true, Nat.reduceAdd, Nat.reduceBEq, List.nil_append, List.cons_append, List.append_nil, Option.toList, Int32.reduceOfNat, Int64.reduceOfNat, reduceCtorEq, Nat.reduceLeDiff, Nat.le_refl, Nat.zero_le, true_and, and_true, false_or, or_false, or_true, true_or, and_self, not_true_eq_false, not_false_eq_true, forall_const, false_implies, true_implies, Sum.inl.injEq, Sum.inr.injEq, Option.some.injEq, eq_self, oI_1, oI_m, oI_5, oI_L, vi_ws_nil, vi_ws_I, vi_ws_J, vi_ws_R, wi_k, wi_n, wi_r, wi_l, wr_k, wr_n, wr_i, wr_l, wl_k, wl_n, wl_i, wl_r, Nat.reduceSub, Nat.reduceMul, cd_64_0, mc_64, ms_64, mr_64, mh_64, ml_64, ha]
  rw [show Int32.toNatClampNeg 12 = 12 by decide]
  have k1 : (vg_new (vg_wi (vg_wi h a 0 0) a 1 1) 100 12).1 a = 2 := by rw [nw_k, if_neg (by show ¬ a = vg_z h; omega)]; exact ha
  exact ⟨⟨by decide, by omega⟩, by omega, k1, k1, by omega, hQ⟩
theorem CX.ctrN (p : CX G b A S h) {c : Nat} (hc : c < 20) (h26 : S 26 c = 0) :
    CX G b (upA (upA A 2 c (vg_z h)) 100 c (vg_z h + 1)) (up (up (up S 23 c 1) 24 c 0) 25 c 1) (vg_wr (vg_wi (vg_wr (vg_new (vg_wi (vg_wi (vg_new h 2 0) (vg_z h) 0 0) (vg_z h) 1 1) 100 12) (vg_z h) 2 (some (vg_z h + 1))) (vg_z h) 3 0) (b + 10) c (some (vg_z h))) := by
  have hz := p.1.zz
  have q := CX.fresh (h' := vg_wi (vg_wr (vg_new (vg_wi (vg_wi (vg_new h 2 0) (vg_z h) 0 0) (vg_z h) 1 1) 100 12) (vg_z h) 2 (some (vg_z h + 1))) (vg_z h) 3 0) p (fs_wi (fs_wr (fs_new (fs_wi (fs_wi (fs_new fs_0 (Nat.le_refl _)) (Nat.le_refl _)) (Nat.le_refl _)) (Nat.le_succ _)) (Nat.le_refl _)) (Nat.le_refl _)) (Nat.le_trans (Nat.le_succ _) (Nat.le_succ _))
  have zz : vg_z (vg_wi (vg_wi (vg_new h 2 0) (vg_z h) 0 0) (vg_z h) 1 1) = vg_z h + 1 := rfl
  have hI : ∀ a k, (vg_wi (vg_wr (vg_new (vg_wi (vg_wi (vg_new h 2 0) (vg_z h) 0 0) (vg_z h) 1 1) 100 12) (vg_z h) 2 (some (vg_z h + 1))) (vg_z h) 3 0).2.2.1 a k = if a = vg_z h then (if k = 1 then 1 else 0) else if a = vg_z h + 1 then 0 else h.2.2.1 a k := by
    intro a k
    simp only [wi_i, wr_i, nw_i, zz]
    grind
  have hk : ∀ a, (vg_wi (vg_wr (vg_new (vg_wi (vg_wi (vg_new h 2 0) (vg_z h) 0 0) (vg_z h) 1 1) 100 12) (vg_z h) 2 (some (vg_z h + 1))) (vg_z h) 3 0).1 a = if a = vg_z h then 2 else if a = vg_z h + 1 then 100 else h.1 a := by
    intro a
    simp only [wi_k, wr_k, nw_k, zz]
    grind
  have hn : ∀ a, (vg_wi (vg_wr (vg_new (vg_wi (vg_wi (vg_new h 2 0) (vg_z h) 0 0) (vg_z h) 1 1) 100 12) (vg_z h) 2 (some (vg_z h + 1))) (vg_z h) 3 0).2.1 a = if a = vg_z h then 0 else if a = vg_z h + 1 then 12 else h.2.1 a := by
    intro a
    simp only [wi_n, wr_n, nw_n, zz]
    grind
  have hr : ∀ a k, (vg_wi (vg_wr (vg_new (vg_wi (vg_wi (vg_new h 2 0) (vg_z h) 0 0) (vg_z h) 1 1) 100 12) (vg_z h) 2 (some (vg_z h + 1))) (vg_z h) 3 0).2.2.2.2.1 a k = if a = vg_z h then (if k = 2 then some (vg_z h + 1) else none) else if a = vg_z h + 1 then none else h.2.2.2.2.1 a k := by
    intro a k
    simp only [wi_r, wr_r, nw_r, zz]
    grind
  have hzz : vg_z (vg_wi (vg_wr (vg_new (vg_wi (vg_wi (vg_new h 2 0) (vg_z h) 0 0) (vg_z h) 1 1) 100 12) (vg_z h) 2 (some (vg_z h + 1))) (vg_z h) 3 0) = vg_z h + 2 := rfl
  have old := p.2.2.2.2.2.1
  generalize vg_wi (vg_wr (vg_new (vg_wi (vg_wi (vg_new h 2 0) (vg_z h) 0 0) (vg_z h) 1 1) 100 12) (vg_z h) 2 (some (vg_z h + 1))) (vg_z h) 3 0 = h1 at *
  refine q.atC rfl rfl rfl (q.1.wr (by omega)) (fun a e1 e2 e3 => ⟨rfl, wr_row e1⟩) (fun g e1 e2 => by rw [upAf (Ne.symm e2), upAf (Ne.symm e1)]) (fun f hf => by rw [upf (by omega), upf (by omega), upf (by omega)]) ?_
  clear p q
  intro j hj
  have o := old j hj
  have f26 : up (up (up S 23 c 1) 24 c 0) 25 c 1 26 = S 26 := by rw [upf (by decide), upf (by decide), upf (by decide)]
  have f27 : up (up (up S 23 c 1) 24 c 0) 25 c 1 27 = S 27 := by rw [upf (by decide), upf (by decide), upf (by decide)]
  have f23 : ∀ d, up (up (up S 23 c 1) 24 c 0) 25 c 1 23 d = if d = c then 1 else S 23 d := fun d => by rw [upf (by decide), upf (by decide), up_e]; simp
  have f24 : ∀ d, up (up (up S 23 c 1) 24 c 0) 25 c 1 24 d = if d = c then 0 else S 24 d := fun d => by rw [upf (by decide), up_e, upf (by decide)]; simp
  have f25 : ∀ d, up (up (up S 23 c 1) 24 c 0) 25 c 1 25 d = if d = c then 1 else S 25 d := fun d => by rw [up_e, upf (by decide), upf (by decide)]; simp
  have a2 : ∀ d, upA (upA A 2 c (vg_z h)) 100 c (vg_z h + 1) 2 d = if d = c then vg_z h else A 2 d := fun d => by simp [upA_e]
  have a100 : ∀ d, upA (upA A 2 c (vg_z h)) 100 c (vg_z h + 1) 100 d = if d = c then vg_z h + 1 else A 100 d := fun d => by simp [upA_e]
  unfold plS
  rw [f26, f27, f23, f24, f25, a2, a100]
  by_cases e : j = c
  · subst e
    simp only [if_true]
    refine ⟨fun z => absurd z (by decide), fun _ => ?_⟩
    have hN : (S 26 j).toNatClampNeg = 0 := by rw [h26]; decide
    rw [hN]
    refine ⟨?_, ?_, by omega, ?_, ?_, ?_, ?_, by omega, ?_, ?_, ?_, ?_, ⟨fun i hi => by omega, fun i hi => by omega, fun i k hi => by omega⟩, fun d hd hd2 hd3 => ?_⟩
    · rw [wr_r, if_pos ⟨rfl, rfl⟩]
    · rw [wr_k, hk, if_pos rfl]
    · show vg_z h < vg_z h1; omega
    · rw [wr_r, if_neg (fun z => by omega), hr]; simp
    · rw [wr_k, hk, if_neg (by omega), if_pos rfl]
    · rw [wr_n, hn, if_neg (by omega), if_pos rfl]
    · show vg_z h + 1 < vg_z h1; omega
    · rw [wr_i, hI]; simp
    · rw [wr_i, hI]; simp
    · rw [wr_i, hI, if_pos rfl, h26]; simp
    · rw [a2, a100] at hd3
      by_cases e2 : d = j
      · exact e2.symm
      · exfalso
        rw [f23, if_neg e2] at hd2
        rw [if_neg e2, if_neg e2] at hd3
        obtain ⟨_, _, _, o4, _, _, _, _, o9, _⟩ := (old d hd).2 hd2
        omega
  · simp only [if_neg e]
    refine ⟨fun z => ?_, fun z => ?_⟩
    · rw [wr_r, if_neg (fun y => e y.2), hr, if_neg (by omega), if_neg (by omega)]; exact o.1 z
    · obtain ⟨o1, o2, o3, o4, o5, o6, o7, o8, o9, o10, o11, o12, o13, o14⟩ := o.2 z
      have n1 : ¬ A 2 j = vg_z h := by omega
      have n2 : ¬ A 2 j = vg_z h + 1 := by omega
      have n3 : ¬ A 100 j = vg_z h := by omega
      have n4 : ¬ A 100 j = vg_z h + 1 := by omega
      have i1 : ∀ k, (vg_wr h1 (b + 10) c (some (vg_z h))).2.2.1 (A 2 j) k = h.2.2.1 (A 2 j) k := fun k => by rw [wr_i, hI, if_neg n1, if_neg n2]
      have i2 : (vg_wr h1 (b + 10) c (some (vg_z h))).2.2.1 (A 100 j) = h.2.2.1 (A 100 j) := by funext k; rw [wr_i, hI, if_neg n3, if_neg n4]
      refine ⟨?_, ?_, o3, ?_, ?_, ?_, ?_, o8, ?_, ?_, ?_, ?_, ?_, fun d hd hd2 hd3 => ?_⟩
      · rw [wr_r, if_neg (fun y => e y.2), hr, if_neg (by omega), if_neg (by omega)]; exact o1
      · rw [wr_k, hk, if_neg n1, if_neg n2]; exact o2
      · show _ < vg_z h1; omega
      · rw [wr_r, if_neg (fun y => by omega), hr, if_neg n1, if_neg n2]; exact o5
      · rw [wr_k, hk, if_neg n3, if_neg n4]; exact o6
      · rw [wr_n, hn, if_neg n3, if_neg n4]; exact o7
      · show _ < vg_z h1; omega
      · rw [i1]; exact o10
      · rw [i1]; exact o11
      · rw [i1]; exact o12
      · rw [i2]; exact o13
      · rw [a2, a100] at hd3
        by_cases e2 : d = c
        · exfalso
          rw [if_pos e2, if_pos e2] at hd3
          omega
        · rw [f23, if_neg e2] at hd2
          rw [if_neg e2, if_neg e2] at hd3
          exact o14 d hd hd2 hd3
/-- a contract's zone and number -/
theorem CX.ctrS (p : CX G b A S h) {c : Nat} (hc : c < 20) (h23 : ¬ S 23 c = 0) (v w : Int32) : CX G b A (up (up S 24 c v) 25 c w) (vg_wi (vg_wi h (A 2 c) 0 v) (A 2 c) 1 w) := by
  have old := p.2.2.2.2.2.1
  obtain ⟨t1, t2, t3, t4, t5, t6, t7, t8, t9, t10, t11, t12, t13, t14⟩ := (old c hc).2 h23
  refine p.atC rfl rfl rfl p.1.wi.wi (fun a e1 e2 e3 => ⟨?_, rfl⟩) (fun _ _ _ => rfl) (fun f hf => by rw [upf (by omega), upf (by omega)]) ?_
  · have n1 : ¬ a = A 2 c := fun z => e2 (by rw [z]; exact t2)
    rw [wi_row n1, wi_row n1]
  clear p
  intro j hj
  have o := old j hj
  have f : ∀ g, ¬ 24 = g → ¬ 25 = g → up (up S 24 c v) 25 c w g = S g := fun g hg hg2 => by rw [upf hg2, upf hg]
  unfold plS
  rw [f 23 (by decide) (by decide), f 26 (by decide) (by decide), f 27 (by decide) (by decide)]
  have f24 : up (up S 24 c v) 25 c w 24 j = if j = c then v else S 24 j := by rw [upf (by decide), up_e]; simp
  have f25 : up (up S 24 c v) 25 c w 25 j = if j = c then w else S 25 j := by rw [up_e, upf (by decide)]; simp
  rw [f24, f25]
  refine ⟨fun z => o.1 z, fun z => ?_⟩
  obtain ⟨o1, o2, o3, o4, o5, o6, o7, o8, o9, o10, o11, o12, o13, o14⟩ := o.2 z
  have n100 : ¬ A 100 j = A 2 c := fun y => by rw [y, t2] at o6; exact absurd o6 (by decide)
  refine ⟨o1, o2, o3, o4, o5, o6, o7, o8, o9, ?_, ?_, ?_, by rw [wi_row n100, wi_row n100]; exact o13, o14⟩
  · by_cases e : j = c
    · subst e; rw [if_pos rfl, wi_i, if_neg (fun y => by omega), wi_i, if_pos ⟨rfl, rfl⟩]
    · have ne : ¬ A 2 j = A 2 c := fun y => e (o14 c hc h23 (Or.inl y))
      rw [if_neg e, wi_row ne, wi_row ne]; exact o10
  · by_cases e : j = c
    · subst e; rw [if_pos rfl, wi_i, if_pos ⟨rfl, rfl⟩]
    · have ne : ¬ A 2 j = A 2 c := fun y => e (o14 c hc h23 (Or.inl y))
      rw [if_neg e, wi_row ne, wi_row ne]; exact o11
  · rw [wi_i, if_neg (fun y => by omega), wi_i, if_neg (fun y => by omega)]; exact o12
/-- a contract's plates change -/
theorem CX.plX (p : CX G b A S h) {S' : SS} {c : Nat} (hc : c < 20) (h23 : ¬ S 23 c = 0) (i : Nat) (v w : Int32) (hS : ∀ f, ¬ f = 26 → ¬ f = 27 → S' f = S f) (h26 : ∀ d, S' 26 d = if d = c then w else S 26 d) (h27 : ∀ d, d < 20 → ¬ d = c → ∀ k, k < (S 26 d).toNatClampNeg → S' 27 (12 * d + k) = S 27 (12 * d + k)) (hp : plS S' c (fun k => if k = i then v else h.2.2.1 (A 100 c) k)) : CX G b A S' (vg_wi (vg_wi h (A 100 c) i v) (A 2 c) 3 w) := by
  have old := p.2.2.2.2.2.1
  obtain ⟨t1, t2, t3, t4, t5, t6, t7, t8, t9, t10, t11, t12, t13, t14⟩ := (old c hc).2 h23
  refine p.atC rfl rfl rfl p.1.wi.wi (fun a e1 e2 e3 => ⟨?_, rfl⟩) (fun _ _ _ => rfl) (fun f hf => hS f (by omega) (by omega)) ?_
  · have n1 : ¬ a = A 2 c := fun z => e2 (by rw [z]; exact t2)
    have n2 : ¬ a = A 100 c := fun z => e3 (by rw [z]; exact ⟨t6, t8⟩)
    rw [wi_row n1, wi_row n2]
  clear p
  intro j hj
  have o := old j hj
  rw [hS 23 (by decide) (by decide), hS 24 (by decide) (by decide), hS 25 (by decide) (by decide)]
  refine ⟨fun z => o.1 z, fun z => ?_⟩
  obtain ⟨o1, o2, o3, o4, o5, o6, o7, o8, o9, o10, o11, o12, o13, o14⟩ := o.2 z
  have n1 : ¬ A 2 j = A 100 c := fun y => by rw [y, t6] at o2; exact absurd o2 (by decide)
  have n100 : ¬ A 100 j = A 2 c := fun y => by rw [y, t2] at o6; exact absurd o6 (by decide)
  refine ⟨o1, o2, o3, o4, o5, o6, o7, o8, o9, ?_, ?_, ?_, ?_, o14⟩
  · rw [wi_i, if_neg (fun y => by omega), wi_row n1]; exact o10
  · rw [wi_i, if_neg (fun y => by omega), wi_row n1]; exact o11
  · rw [h26]
    by_cases e : j = c
    · subst e; rw [if_pos rfl, wi_i, if_pos ⟨rfl, rfl⟩]
    · have ne : ¬ A 2 j = A 2 c := fun y => e (o14 c hc h23 (Or.inl y))
      rw [if_neg e, wi_row ne, wi_row n1]; exact o12
  · rw [wi_row n100]
    by_cases e : j = c
    · subst e
      have : (vg_wi h (A 100 j) i v).2.2.1 (A 100 j) = fun k => if k = i then v else h.2.2.1 (A 100 j) k := by
        funext k; rw [wi_i]; simp
      rw [this]; exact hp
    · have ne : ¬ A 100 j = A 100 c := fun y => e (o14 c hc h23 (Or.inr y))
      rw [wi_row ne]
      unfold plS at *
      rw [h26, if_neg e]
      obtain ⟨o15, o16, o17⟩ := o13
      refine ⟨fun i hi => ?_, fun k hk => ?_, o17⟩
      · obtain ⟨k, k1, k2⟩ := o15 i hi
        exact ⟨k, k1, by rw [h27 j hj e k k1]; exact k2⟩
      · obtain ⟨i, i1, i2⟩ := o16 k hk
        exact ⟨i, i1, by rw [h27 j hj e k hk]; exact i2⟩
set_option maxRecDepth 100000 in
theorem c_14 {i z k : Int32} (hC : CX G b A S h) (hV : CV b A S h) (hT : okT S) (hN : noC S) (hb : ∀ c, c < 20 → S 23 c = 0 ∨ S 23 c = 1) (hu : ∀ c, 0 ≤ undS S c) (h1 : kContract S i z k = 1 → ∀ h', CE G b S h h' → Q (.inr 0) h') (h2 : kContract S i z k = 2 → ∀ h', CE G b S h h' → Q (.inr 1) h') (h0 : kContract S i z k = 0 → ∀ h', CE G b (sContract S i.toNatClampNeg z k) h h' → Q (.inl none) h') : vg_C G (MT 14) [.inr (.inr (some b)), .inl i, .inl z, .inl k] h Q := by
  unfold kContract at *
  obtain ⟨xk, xr0, xr1, xr2, xr3, xr4, xr5, xr6, xr7, xr8, ak1, ak2, ak3, ak4, ak5, ak6, ak7, ak8, ak9, ak10, ak11, ak12, ak13, ak14, ak15, ak16, an1, an2, an4, an5, an6, an7, an8, an9, an10, an11, an12, an14, an15, an16, vr0, vr1, vr2, vr3, vr4, hr0, hr1, xz⟩ := hC.1
  obtain ⟨xi9, xi10, xi11, xi12⟩ := hC.2.1
  have k2 : ((0 ≤ i ∧ i ≤ 19) ∧ (0 ≤ z ∧ z ≤ 3) ∧ (1 ≤ k ∧ k ≤ 9)) → ∀ w, w = bI (undS S i = 0) → vg_A G (MT 14) 1 6 45 [some (.inr (.inr (some b))), some (.inl i), some (.inl z), some (.inl k)] [.inl w] h Q := by
    intro ok w hw
    rw [if_neg (fun z => z ok)] at h1 h2 h0
    have hc := nI_cl (n := 19) (by omega) ok.1.1 ok.1.2
    have hv := vp_cl (n := 19) (by omega) ok.1.1 ok.1.2
    generalize i.toNatClampNeg = c at *
    refine vi_run ok_14 [70] 60 ?_
    rw [at_14_45]
    simp only [↓reduceIte, vi_go_c, ↓v1_iadd, ↓v1_isub, ↓v1_imul, ↓v1_iand, ↓v1_idiv, ↓v1_irem, ↓v1_ineg, ↓v1_ladd, ↓v1_lsub, ↓v1_land, ↓v1_lcmp, ↓v1_lshl, ↓v1_lshr, ↓v1_i2l, ↓v1_l2i, ↓v1_iconst_0, ↓v1_iconst_m, ↓v1_bipush, ↓v1_sipush, ↓v1_ldc, ↓v1_ldc_w, ↓v1_lconst, ↓v1_ldc2_w, ↓v1_aconst_null, ↓v1_iload, ↓v1_iload_n, ↓v1_lload, ↓v1_lload_n, ↓v1_aload, ↓v1_aload_n, ↓v1_istore, ↓v1_istore_n, ↓v1_lstore, ↓v1_lstore_n, ↓v1_astore, ↓v1_astore_n, ↓v1_iinc, ↓v1_dup, ↓v1_dup2, ↓v1_ifCond_eq, ↓v1_ifCond_ne, ↓v1_ifCond_lt, ↓v1_ifCond_ge, ↓v1_ifCond_gt, ↓v1_ifCond_le, ↓v1_if_icmp_eq, ↓v1_if_icmp_ne, ↓v1_if_icmp_lt, ↓v1_if_icmp_ge, ↓v1_if_icmp_gt, ↓v1_if_icmp_le, ↓v1_if_acmp_ne, ↓v1_ifnull, ↓v1_ifnonnull, ↓v1_goto, ↓v1_tableswitch_0, ↓v1_return_, ↓v1_ireturn, ↓v1_lreturn, ↓v1_areturn, ↓v1_getfield_0, ↓v1_putfield_0, ↓v1_getstatic, ↓v1_iaload, ↓v1_laload, ↓v1_baload, ↓v1_aaload, ↓v1_iastore, ↓v1_lastore, ↓v1_bastore, ↓v1_aastore_0, ↓v1_arraylength, ↓v1_new_0, ↓v1_newarray, ↓v1_anewarray, ↓v1_invokestatic_0, ↓v1_invokestatic_1, ↓v1_invokestatic_2a, ↓v1_invokevirtual_0, ↓v1_invokespecial_0, ↓v1_invokespecial_1a, ↓v1_invokespecial_1b, ↓vi_ii_e, ↓vi_i_e, ↓vi_jj_e, ↓vi_j_e, ↓vi_ij_e, ↓vi_r_e, ↓vi_rr_e, ↓vi_o_e, ↓vi_ir_e, ↓vi_iir_e, ↓vi_jir_e, ↓vi_rir_e, ↓vi_pop_z, ↓vi_pop_s, ↓vi_sw_n, ↓vi_sw_c, ↓vi_li_z, ↓vi_li_s, ↓vi_ll_z, ↓vi_ll_s, ↓vi_lr_z, ↓vi_lr_s, ↓vi_ret_l, ↓vi_ret_r, vi_sv, vg_set1, vg_set2, vg_lo, List.headD, List.contains_nil, List.contains_cons, Bool.or_false, Bool.false_eq_true, if_false, if_true, Nat.reduceAdd, Nat.reduceBEq, List.nil_append, List.cons_append, List.append_nil, Option.toList, Int32.reduceOfNat, Int64.reduceOfNat, reduceCtorEq, Nat.reduceLeDiff, Nat.le_refl, Nat.zero_le, true_and, and_true, false_or, or_false, or_true, true_or, and_self, not_true_eq_false, not_false_eq_true, forall_const, false_implies, true_implies, Sum.inl.injEq, Sum.inr.injEq, Option.some.injEq, eq_self, oI_1, oI_m, oI_5, oI_L, vi_ws_nil, vi_ws_I, vi_ws_J, vi_ws_R, wi_k, wi_n, wi_r, wi_l, wr_k, wr_n, wr_i, wr_l, wl_k, wl_n, wl_i, wl_r, Nat.reduceSub, Nat.reduceMul, cd_14_0, cd_14_28, cd_14_29, cd_14_44, cd_14_45, cd_14_70, at_14_28, at_14_29, at_14_44, at_14_45, at_14_70, mc_14, ms_14, mr_14, mh_14, ml_14, mc_26, ms_26, mc_27, ms_27, mc_38, ms_38, mc_45, ms_45, mc_46, ms_46, mc_61, ms_61, mc_64, ms_64, xk, xr0, xr1, xr2, xr3, xr4, xr5, xr6, xr7, xr8, ak1, ak2, ak3, ak4, ak5, ak6, ak7, ak8, ak9, ak10, ak11, ak12, ak13, ak14, ak15, ak16, an1, an2, an4, an5, an6, an7, an8, an9, an10, an11, an12, an14, an15, an16, vr0, vr1, vr2, vr3, vr4, hr0, hr1, xi9, xi10, xi11, xi12]
    refine c_46 (fun e => ?_) (fun e n hn => ?_)
    · rw [hw] at e
      have u0 : undS S i = 0 := bI_ne.mp e
      have fin := h0 (by rw [if_neg (by rw [u0]; decide)])
      have icl : i.toNatClampNeg = c := by rw [hc.2]; exact nI_clamp (by omega)
      -- behind the making
      have j70 : ∀ A' S' h', CX G b A' S' h' → CV b A' S' h' → fr b h h' → ¬ S' 23 c = 0 → up (up S' 24 c z) 25 c k = sContract S c z k → ∀ uc us, (uc = 2 ∧ us = 12) ∨ (uc = 4 ∧ us = 28) → vg_A G (MT 14) uc us 70 [some (.inr (.inr (some b))), some (.inl i), some (.inl z), some (.inl k)] [] h' Q := by
        intro A' S' h' c' v' f' h23 es uc us hus
        have hC := c'
        clear xk xr0 xr1 xr2 xr3 xr4 xr5 xr6 xr7 xr8 ak1 ak2 ak3 ak4 ak5 ak6 ak7 ak8 ak9 ak10 ak11 ak12 ak13 ak14 ak15 ak16 an1 an2 an4 an5 an6 an7 an8 an9 an10 an11 an12 an14 an15 an16 vr0 vr1 vr2 vr3 vr4 hr0 hr1 xi9 xi10 xi11 xi12 xz
        obtain ⟨xk, xr0, xr1, xr2, xr3, xr4, xr5, xr6, xr7, xr8, ak1, ak2, ak3, ak4, ak5, ak6, ak7, ak8, ak9, ak10, ak11, ak12, ak13, ak14, ak15, ak16, an1, an2, an4, an5, an6, an7, an8, an9, an10, an11, an12, an14, an15, an16, vr0, vr1, vr2, vr3, vr4, hr0, hr1, xz⟩ := hC.1
        obtain ⟨xi9, xi10, xi11, xi12⟩ := hC.2.1
        obtain ⟨t1, t2, t3, t4, t5⟩ := (hC.2.2.2.2.2.1 c (by omega)).2 h23
        have cs := hC.ctrS (c := c) (by omega) h23 z k
        rw [es] at cs
        have fz := fin _ ⟨f'.trans (((fr.refl b h').wi (by omega) _ _).wi (by omega) _ _), A', cs, by rw [← es]; exact (((v'.wi (by omega)).wi (by omega)).up (by omega)).up (by omega)⟩
        rcases hus with ⟨rfl, rfl⟩ | ⟨rfl, rfl⟩
        · refine vi_run ok_14 [] 40 ?_
          rw [at_14_70]
          simp only [↓reduceIte, vi_go_c, ↓v1_iadd, ↓v1_isub, ↓v1_imul, ↓v1_iand, ↓v1_idiv, ↓v1_irem, ↓v1_ineg, ↓v1_ladd, ↓v1_lsub, ↓v1_land, ↓v1_lcmp, ↓v1_lshl, ↓v1_lshr, ↓v1_i2l, ↓v1_l2i, ↓v1_iconst_0, ↓v1_iconst_m, ↓v1_bipush, ↓v1_sipush, ↓v1_ldc, ↓v1_ldc_w, ↓v1_lconst, ↓v1_ldc2_w, ↓v1_aconst_null, ↓v1_iload, ↓v1_iload_n, ↓v1_lload, ↓v1_lload_n, ↓v1_aload, ↓v1_aload_n, ↓v1_istore, ↓v1_istore_n, ↓v1_lstore, ↓v1_lstore_n, ↓v1_astore, ↓v1_astore_n, ↓v1_iinc, ↓v1_dup, ↓v1_dup2, ↓v1_ifCond_eq, ↓v1_ifCond_ne, ↓v1_ifCond_lt, ↓v1_ifCond_ge, ↓v1_ifCond_gt, ↓v1_ifCond_le, ↓v1_if_icmp_eq, ↓v1_if_icmp_ne, ↓v1_if_icmp_lt, ↓v1_if_icmp_ge, ↓v1_if_icmp_gt, ↓v1_if_icmp_le, ↓v1_if_acmp_ne, ↓v1_ifnull, ↓v1_ifnonnull, ↓v1_goto, ↓v1_tableswitch_0, ↓v1_return_, ↓v1_ireturn, ↓v1_lreturn, ↓v1_areturn, ↓v1_getfield_0, ↓v1_putfield_0, ↓v1_getstatic, ↓v1_iaload, ↓v1_laload, ↓v1_baload, ↓v1_aaload, ↓v1_iastore, ↓v1_lastore, ↓v1_bastore, ↓v1_aastore_0, ↓v1_arraylength, ↓v1_new_0, ↓v1_newarray, ↓v1_anewarray, ↓v1_invokestatic_0, ↓v1_invokestatic_1, ↓v1_invokestatic_2a, ↓v1_invokevirtual_0, ↓v1_invokespecial_0, ↓v1_invokespecial_1a, ↓v1_invokespecial_1b, ↓vi_ii_e, ↓vi_i_e, ↓vi_jj_e, ↓vi_j_e, ↓vi_ij_e, ↓vi_r_e, ↓vi_rr_e, ↓vi_o_e, ↓vi_ir_e, ↓vi_iir_e, ↓vi_jir_e, ↓vi_rir_e, ↓vi_pop_z, ↓vi_pop_s, ↓vi_sw_n, ↓vi_sw_c, ↓vi_li_z, ↓vi_li_s, ↓vi_ll_z, ↓vi_ll_s, ↓vi_lr_z, ↓vi_lr_s, ↓vi_ret_l, ↓vi_ret_r, vi_sv, vg_set1, vg_set2, vg_lo, List.headD, List.contains_nil, List.contains_cons, Bool.or_false, Bool.false_eq_true, if_false, if_true, Nat.reduceAdd, Nat.reduceBEq, List.nil_append, List.cons_append, List.append_nil, Option.toList, Int32.reduceOfNat, Int64.reduceOfNat, reduceCtorEq, Nat.reduceLeDiff, Nat.le_refl, Nat.zero_le, true_and, and_true, false_or, or_false, or_true, true_or, and_self, not_true_eq_false, not_false_eq_true, forall_const, false_implies, true_implies, Sum.inl.injEq, Sum.inr.injEq, Option.some.injEq, eq_self, oI_1, oI_m, oI_5, oI_L, vi_ws_nil, vi_ws_I, vi_ws_J, vi_ws_R, wi_k, wi_n, wi_r, wi_l, wr_k, wr_n, wr_i, wr_l, wl_k, wl_n, wl_i, wl_r, Nat.reduceSub, Nat.reduceMul, cd_14_0, cd_14_28, cd_14_29, cd_14_44, cd_14_45, cd_14_70, at_14_28, at_14_29, at_14_44, at_14_45, at_14_70, mc_14, ms_14, mr_14, mh_14, ml_14, mc_26, ms_26, mc_27, ms_27, mc_38, ms_38, mc_45, ms_45, mc_46, ms_46, mc_61, ms_61, mc_64, ms_64, xk, xr0, xr1, xr2, xr3, xr4, xr5, xr6, xr7, xr8, ak1, ak2, ak3, ak4, ak5, ak6, ak7, ak8, ak9, ak10, ak11, ak12, ak13, ak14, ak15, ak16, an1, an2, an4, an5, an6, an7, an8, an9, an10, an11, an12, an14, an15, an16, vr0, vr1, vr2, vr3, vr4, hr0, hr1, xi9, xi10, xi11, xi12, hv, icl, t1, t2]
          exact fz
        · refine vi_run ok_14 [] 40 ?_
          rw [at_14_70]
          simp only [↓reduceIte, vi_go_c, ↓v1_iadd, ↓v1_isub, ↓v1_imul, ↓v1_iand, ↓v1_idiv, ↓v1_irem, ↓v1_ineg, ↓v1_ladd, ↓v1_lsub, ↓v1_land, ↓v1_lcmp, ↓v1_lshl, ↓v1_lshr, ↓v1_i2l, ↓v1_l2i, ↓v1_iconst_0, ↓v1_iconst_m, ↓v1_bipush, ↓v1_sipush, ↓v1_ldc, ↓v1_ldc_w, ↓v1_lconst, ↓v1_ldc2_w, ↓v1_aconst_null, ↓v1_iload, ↓v1_iload_n, ↓v1_lload, ↓v1_lload_n, ↓v1_aload, ↓v1_aload_n, ↓v1_istore, ↓v1_istore_n, ↓v1_lstore, ↓v1_lstore_n, ↓v1_astore, ↓v1_astore_n, ↓v1_iinc, ↓v1_dup, ↓v1_dup2, ↓v1_ifCond_eq, ↓v1_ifCond_ne, ↓v1_ifCond_lt, ↓v1_ifCond_ge, ↓v1_ifCond_gt, ↓v1_ifCond_le, ↓v1_if_icmp_eq, ↓v1_if_icmp_ne, ↓v1_if_icmp_lt, ↓v1_if_icmp_ge, ↓v1_if_icmp_gt, ↓v1_if_icmp_le, ↓v1_if_acmp_ne, ↓v1_ifnull, ↓v1_ifnonnull, ↓v1_goto, ↓v1_tableswitch_0, ↓v1_return_, ↓v1_ireturn, ↓v1_lreturn, ↓v1_areturn, ↓v1_getfield_0, ↓v1_putfield_0, ↓v1_getstatic, ↓v1_iaload, ↓v1_laload, ↓v1_baload, ↓v1_aaload, ↓v1_iastore, ↓v1_lastore, ↓v1_bastore, ↓v1_aastore_0, ↓v1_arraylength, ↓v1_new_0, ↓v1_newarray, ↓v1_anewarray, ↓v1_invokestatic_0, ↓v1_invokestatic_1, ↓v1_invokestatic_2a, ↓v1_invokevirtual_0, ↓v1_invokespecial_0, ↓v1_invokespecial_1a, ↓v1_invokespecial_1b, ↓vi_ii_e, ↓vi_i_e, ↓vi_jj_e, ↓vi_j_e, ↓vi_ij_e, ↓vi_r_e, ↓vi_rr_e, ↓vi_o_e, ↓vi_ir_e, ↓vi_iir_e, ↓vi_jir_e, ↓vi_rir_e, ↓vi_pop_z, ↓vi_pop_s, ↓vi_sw_n, ↓vi_sw_c, ↓vi_li_z, ↓vi_li_s, ↓vi_ll_z, ↓vi_ll_s, ↓vi_lr_z, ↓vi_lr_s, ↓vi_ret_l, ↓vi_ret_r, vi_sv, vg_set1, vg_set2, vg_lo, List.headD, List.contains_nil, List.contains_cons, Bool.or_false, Bool.false_eq_true, if_false, if_true, Nat.reduceAdd, Nat.reduceBEq, List.nil_append, List.cons_append, List.append_nil, Option.toList, Int32.reduceOfNat, Int64.reduceOfNat, reduceCtorEq, Nat.reduceLeDiff, Nat.le_refl, Nat.zero_le, true_and, and_true, false_or, or_false, or_true, true_or, and_self, not_true_eq_false, not_false_eq_true, forall_const, false_implies, true_implies, Sum.inl.injEq, Sum.inr.injEq, Option.some.injEq, eq_self, oI_1, oI_m, oI_5, oI_L, vi_ws_nil, vi_ws_I, vi_ws_J, vi_ws_R, wi_k, wi_n, wi_r, wi_l, wr_k, wr_n, wr_i, wr_l, wl_k, wl_n, wl_i, wl_r, Nat.reduceSub, Nat.reduceMul, cd_14_0, cd_14_28, cd_14_29, cd_14_44, cd_14_45, cd_14_70, at_14_28, at_14_29, at_14_44, at_14_45, at_14_70, mc_14, ms_14, mr_14, mh_14, ml_14, mc_26, ms_26, mc_27, ms_27, mc_38, ms_38, mc_45, ms_45, mc_46, ms_46, mc_61, ms_61, mc_64, ms_64, xk, xr0, xr1, xr2, xr3, xr4, xr5, xr6, xr7, xr8, ak1, ak2, ak3, ak4, ak5, ak6, ak7, ak8, ak9, ak10, ak11, ak12, ak13, ak14, ak15, ak16, an1, an2, an4, an5, an6, an7, an8, an9, an10, an11, an12, an14, an15, an16, vr0, vr1, vr2, vr3, vr4, hr0, hr1, xi9, xi10, xi11, xi12, hv, icl, t1, t2]
          exact fz
      by_cases e9 : S 23 c = 0
      · have r1 := (hC.2.2.2.2.2.1 c (by omega)).1 e9
        have cn := hC.ctrN (c := c) (by omega) (hN c (by omega) e9)
        simp only [↓reduceIte, vi_go_c, ↓v1_iadd, ↓v1_isub, ↓v1_imul, ↓v1_iand, ↓v1_idiv, ↓v1_irem, ↓v1_ineg, ↓v1_ladd, ↓v1_lsub, ↓v1_land, ↓v1_lcmp, ↓v1_lshl, ↓v1_lshr, ↓v1_i2l, ↓v1_l2i, ↓v1_iconst_0, ↓v1_iconst_m, ↓v1_bipush, ↓v1_sipush, ↓v1_ldc, ↓v1_ldc_w, ↓v1_lconst, ↓v1_ldc2_w, ↓v1_aconst_null, ↓v1_iload, ↓v1_iload_n, ↓v1_lload, ↓v1_lload_n, ↓v1_aload, ↓v1_aload_n, ↓v1_istore, ↓v1_istore_n, ↓v1_lstore, ↓v1_lstore_n, ↓v1_astore, ↓v1_astore_n, ↓v1_iinc, ↓v1_dup, ↓v1_dup2, ↓v1_ifCond_eq, ↓v1_ifCond_ne, ↓v1_ifCond_lt, ↓v1_ifCond_ge, ↓v1_ifCond_gt, ↓v1_ifCond_le, ↓v1_if_icmp_eq, ↓v1_if_icmp_ne, ↓v1_if_icmp_lt, ↓v1_if_icmp_ge, ↓v1_if_icmp_gt, ↓v1_if_icmp_le, ↓v1_if_acmp_ne, ↓v1_ifnull, ↓v1_ifnonnull, ↓v1_goto, ↓v1_tableswitch_0, ↓v1_return_, ↓v1_ireturn, ↓v1_lreturn, ↓v1_areturn, ↓v1_getfield_0, ↓v1_putfield_0, ↓v1_getstatic, ↓v1_iaload, ↓v1_laload, ↓v1_baload, ↓v1_aaload, ↓v1_iastore, ↓v1_lastore, ↓v1_bastore, ↓v1_aastore_0, ↓v1_arraylength, ↓v1_new_0, ↓v1_newarray, ↓v1_anewarray, ↓v1_invokestatic_0, ↓v1_invokestatic_1, ↓v1_invokestatic_2a, ↓v1_invokevirtual_0, ↓v1_invokespecial_0, ↓v1_invokespecial_1a, ↓v1_invokespecial_1b, ↓vi_ii_e, ↓vi_i_e, ↓vi_jj_e, ↓vi_j_e, ↓vi_ij_e, ↓vi_r_e, ↓vi_rr_e, ↓vi_o_e, ↓vi_ir_e, ↓vi_iir_e, ↓vi_jir_e, ↓vi_rir_e, ↓vi_pop_z, ↓vi_pop_s, ↓vi_sw_n, ↓vi_sw_c, ↓vi_li_z, ↓vi_li_s, ↓vi_ll_z, ↓vi_ll_s, ↓vi_lr_z, ↓vi_lr_s, ↓vi_ret_l, ↓vi_ret_r, vi_sv, vg_set1, vg_set2, vg_lo, List.headD, List.contains_nil, List.contains_cons, Bool.or_false, Bool.false_eq_true, if_false, if_true, Nat.reduceAdd, Nat.reduceBEq, List.nil_append, List.cons_append, List.append_nil, Option.toList, Int32.reduceOfNat, Int64.reduceOfNat, reduceCtorEq, Nat.reduceLeDiff, Nat.le_refl, Nat.zero_le, true_and, and_true, false_or, or_false, or_true, true_or, and_self, not_true_eq_false, not_false_eq_true, forall_const, false_implies, true_implies, Sum.inl.injEq, Sum.inr.injEq, Option.some.injEq, eq_self, oI_1, oI_m, oI_5, oI_L, vi_ws_nil, vi_ws_I, vi_ws_J, vi_ws_R, wi_k, wi_n, wi_r, wi_l, wr_k, wr_n, wr_i, wr_l, wl_k, wl_n, wl_i, wl_r, Nat.reduceSub, Nat.reduceMul, cd_14_0, cd_14_28, cd_14_29, cd_14_44, cd_14_45, cd_14_70, at_14_28, at_14_29, at_14_44, at_14_45, at_14_70, mc_14, ms_14, mr_14, mh_14, ml_14, mc_26, ms_26, mc_27, ms_27, mc_38, ms_38, mc_45, ms_45, mc_46, ms_46, mc_61, ms_61, mc_64, ms_64, xk, xr0, xr1, xr2, xr3, xr4, xr5, xr6, xr7, xr8, ak1, ak2, ak3, ak4, ak5, ak6, ak7, ak8, ak9, ak10, ak11, ak12, ak13, ak14, ak15, ak16, an1, an2, an4, an5, an6, an7, an8, an9, an10, an11, an12, an14, an15, an16, vr0, vr1, vr2, vr3, vr4, hr0, hr1, xi9, xi10, xi11, xi12, hv, icl, r1]
        refine c_64 (by rw [nw_k, if_pos rfl]) (Nat.lt_succ_self _) ?_
        have m1 : ∀ a, a < vg_z h → (vg_new (vg_wi (vg_wi (vg_new h 2 0) (vg_z h) 0 0) (vg_z h) 1 1) 100 12).1 a = h.1 a := fun a ha => by
          rw [nw_k, if_neg (by show ¬ a = vg_z h + 1; omega)]; show (vg_new h 2 0).1 a = h.1 a; rw [nw_k, if_neg (by omega)]
        have m2 : ∀ a, a < vg_z h → (vg_new (vg_wi (vg_wi (vg_new h 2 0) (vg_z h) 0 0) (vg_z h) 1 1) 100 12).2.1 a = h.2.1 a := fun a ha => by
          rw [nw_n, if_neg (by show ¬ a = vg_z h + 1; omega)]; show (vg_new h 2 0).2.1 a = h.2.1 a; rw [nw_n, if_neg (by omega)]
        have m3 : (vg_new (vg_wi (vg_wi (vg_new h 2 0) (vg_z h) 0 0) (vg_z h) 1 1) 100 12).1 (vg_z h) = 2 := by
          rw [nw_k, if_neg (by show ¬ vg_z h = vg_z h + 1; omega)]; show (vg_new h 2 0).1 (vg_z h) = 2; rw [nw_k, if_pos rfl]
        have m4 := m1 (b + 10) (by omega)
        have m5 := m2 (b + 10) (by omega)
        rw [ak10] at m4
        rw [an10] at m5
        simp only [↓reduceIte, vi_go_c, ↓v1_iadd, ↓v1_isub, ↓v1_imul, ↓v1_iand, ↓v1_idiv, ↓v1_irem, ↓v1_ineg, ↓v1_ladd, ↓v1_lsub, ↓v1_land, ↓v1_lcmp, ↓v1_lshl, ↓v1_lshr, ↓v1_i2l, ↓v1_l2i, ↓v1_iconst_0, ↓v1_iconst_m, ↓v1_bipush, ↓v1_sipush, ↓v1_ldc, ↓v1_ldc_w, ↓v1_lconst, ↓v1_ldc2_w, ↓v1_aconst_null, ↓v1_iload, ↓v1_iload_n, ↓v1_lload, ↓v1_lload_n, ↓v1_aload, ↓v1_aload_n, ↓v1_istore, ↓v1_istore_n, ↓v1_lstore, ↓v1_lstore_n, ↓v1_astore, ↓v1_astore_n, ↓v1_iinc, ↓v1_dup, ↓v1_dup2, ↓v1_ifCond_eq, ↓v1_ifCond_ne, ↓v1_ifCond_lt, ↓v1_ifCond_ge, ↓v1_ifCond_gt, ↓v1_ifCond_le, ↓v1_if_icmp_eq, ↓v1_if_icmp_ne, ↓v1_if_icmp_lt, ↓v1_if_icmp_ge, ↓v1_if_icmp_gt, ↓v1_if_icmp_le, ↓v1_if_acmp_ne, ↓v1_ifnull, ↓v1_ifnonnull, ↓v1_goto, ↓v1_tableswitch_0, ↓v1_return_, ↓v1_ireturn, ↓v1_lreturn, ↓v1_areturn, ↓v1_getfield_0, ↓v1_putfield_0, ↓v1_getstatic, ↓v1_iaload, ↓v1_laload, ↓v1_baload, ↓v1_aaload, ↓v1_iastore, ↓v1_lastore, ↓v1_bastore, ↓v1_aastore_0, ↓v1_arraylength, ↓v1_new_0, ↓v1_newarray, ↓v1_anewarray, ↓v1_invokestatic_0, ↓v1_invokestatic_1, ↓v1_invokestatic_2a, ↓v1_invokevirtual_0, ↓v1_invokespecial_0, ↓v1_invokespecial_1a, ↓v1_invokespecial_1b, ↓vi_ii_e, ↓vi_i_e, ↓vi_jj_e, ↓vi_j_e, ↓vi_ij_e, ↓vi_r_e, ↓vi_rr_e, ↓vi_o_e, ↓vi_ir_e, ↓vi_iir_e, ↓vi_jir_e, ↓vi_rir_e, ↓vi_pop_z, ↓vi_pop_s, ↓vi_sw_n, ↓vi_sw_c, ↓vi_li_z, ↓vi_li_s, ↓vi_ll_z, ↓vi_ll_s, ↓vi_lr_z, ↓vi_lr_s, ↓vi_ret_l, ↓vi_ret_r, vi_sv, vg_set1, vg_set2, vg_lo, List.headD, List.contains_nil, List.contains_cons, Bool.or_false, Bool.false_eq_true, if_false, if_true, Nat.reduceAdd, Nat.reduceBEq, List.nil_append, List.cons_append, List.append_nil, Option.toList, Int32.reduceOfNat, Int64.reduceOfNat, reduceCtorEq, Nat.reduceLeDiff, Nat.le_refl, Nat.zero_le, true_and, and_true, false_or, or_false, or_true, true_or, and_self, not_true_eq_false, not_false_eq_true, forall_const, false_implies, true_implies, Sum.inl.injEq, Sum.inr.injEq, Option.some.injEq, eq_self, oI_1, oI_m, oI_5, oI_L, vi_ws_nil, vi_ws_I, vi_ws_J, vi_ws_R, wi_k, wi_n, wi_r, wi_l, wr_k, wr_n, wr_i, wr_l, wl_k, wl_n, wl_i, wl_r, Nat.reduceSub, Nat.reduceMul, cd_14_0, cd_14_28, cd_14_29, cd_14_44, cd_14_45, cd_14_70, at_14_28, at_14_29, at_14_44, at_14_45, at_14_70, mc_14, ms_14, mr_14, mh_14, ml_14, mc_26, ms_26, mc_27, ms_27, mc_38, ms_38, mc_45, ms_45, mc_46, ms_46, mc_61, ms_61, mc_64, ms_64, hv, icl, m3, m4, m5]
        refine j70 _ _ _ cn ?_ ?_ ?_ ?_ _ _ (Or.inr ⟨rfl, rfl⟩)
        · have vn : CV b A S (vg_new h 2 0) := hV.new (by omega)
          have vn2 : CV b A S (vg_new (vg_wi (vg_wi (vg_new h 2 0) (vg_z h) 0 0) (vg_z h) 1 1) 100 12) := ((vn.wi (by omega)).wi (by omega)).new (by show b + 81 ≤ vg_z h + 1; omega)
          exact ((((((((vn2.wr (by omega)).wi (by omega)).wr (by omega)).up (by omega)).up (by omega)).up (by omega)).upA (by decide)).upA (by decide))
        · have f1 : fr b h (vg_wi (vg_wi (vg_new h 2 0) (vg_z h) 0 0) (vg_z h) 1 1) := ((((fr.refl b h).new (by omega) _ _).wi (by omega) _ _).wi (by omega) _ _)
          exact (((f1.new (by show b + 81 ≤ vg_z h + 1; omega) _ _).wr (by omega) _ _).wi (by omega) _ _).wr (by omega) _ _
        · rw [upf (by decide), upf (by decide), up_same]; decide
        · unfold sContract
          funext f j
          simp only [up_e]
          by_cases f25 : f = 25 ∧ j = c
          · simp only [f25, and_self, if_true]
          · by_cases f24 : f = 24 ∧ j = c
            · simp only [f25, if_false]; simp only [f24, and_self, if_true]
            · simp only [f25, f24, if_false]
      · obtain ⟨t1, t2, t3⟩ := (hC.2.2.2.2.2.1 c (by omega)).2 e9
        simp only [↓reduceIte, vi_go_c, ↓v1_iadd, ↓v1_isub, ↓v1_imul, ↓v1_iand, ↓v1_idiv, ↓v1_irem, ↓v1_ineg, ↓v1_ladd, ↓v1_lsub, ↓v1_land, ↓v1_lcmp, ↓v1_lshl, ↓v1_lshr, ↓v1_i2l, ↓v1_l2i, ↓v1_iconst_0, ↓v1_iconst_m, ↓v1_bipush, ↓v1_sipush, ↓v1_ldc, ↓v1_ldc_w, ↓v1_lconst, ↓v1_ldc2_w, ↓v1_aconst_null, ↓v1_iload, ↓v1_iload_n, ↓v1_lload, ↓v1_lload_n, ↓v1_aload, ↓v1_aload_n, ↓v1_istore, ↓v1_istore_n, ↓v1_lstore, ↓v1_lstore_n, ↓v1_astore, ↓v1_astore_n, ↓v1_iinc, ↓v1_dup, ↓v1_dup2, ↓v1_ifCond_eq, ↓v1_ifCond_ne, ↓v1_ifCond_lt, ↓v1_ifCond_ge, ↓v1_ifCond_gt, ↓v1_ifCond_le, ↓v1_if_icmp_eq, ↓v1_if_icmp_ne, ↓v1_if_icmp_lt, ↓v1_if_icmp_ge, ↓v1_if_icmp_gt, ↓v1_if_icmp_le, ↓v1_if_acmp_ne, ↓v1_ifnull, ↓v1_ifnonnull, ↓v1_goto, ↓v1_tableswitch_0, ↓v1_return_, ↓v1_ireturn, ↓v1_lreturn, ↓v1_areturn, ↓v1_getfield_0, ↓v1_putfield_0, ↓v1_getstatic, ↓v1_iaload, ↓v1_laload, ↓v1_baload, ↓v1_aaload, ↓v1_iastore, ↓v1_lastore, ↓v1_bastore, ↓v1_aastore_0, ↓v1_arraylength, ↓v1_new_0, ↓v1_newarray, ↓v1_anewarray, ↓v1_invokestatic_0, ↓v1_invokestatic_1, ↓v1_invokestatic_2a, ↓v1_invokevirtual_0, ↓v1_invokespecial_0, ↓v1_invokespecial_1a, ↓v1_invokespecial_1b, ↓vi_ii_e, ↓vi_i_e, ↓vi_jj_e, ↓vi_j_e, ↓vi_ij_e, ↓vi_r_e, ↓vi_rr_e, ↓vi_o_e, ↓vi_ir_e, ↓vi_iir_e, ↓vi_jir_e, ↓vi_rir_e, ↓vi_pop_z, ↓vi_pop_s, ↓vi_sw_n, ↓vi_sw_c, ↓vi_li_z, ↓vi_li_s, ↓vi_ll_z, ↓vi_ll_s, ↓vi_lr_z, ↓vi_lr_s, ↓vi_ret_l, ↓vi_ret_r, vi_sv, vg_set1, vg_set2, vg_lo, List.headD, List.contains_nil, List.contains_cons, Bool.or_false, Bool.false_eq_true, if_false, if_true, Nat.reduceAdd, Nat.reduceBEq, List.nil_append, List.cons_append, List.append_nil, Option.toList, Int32.reduceOfNat, Int64.reduceOfNat, reduceCtorEq, Nat.reduceLeDiff, Nat.le_refl, Nat.zero_le, true_and, and_true, false_or, or_false, or_true, true_or, and_self, not_true_eq_false, not_false_eq_true, forall_const, false_implies, true_implies, Sum.inl.injEq, Sum.inr.injEq, Option.some.injEq, eq_self, oI_1, oI_m, oI_5, oI_L, vi_ws_nil, vi_ws_I, vi_ws_J, vi_ws_R, wi_k, wi_n, wi_r, wi_l, wr_k, wr_n, wr_i, wr_l, wl_k, wl_n, wl_i, wl_r, Nat.reduceSub, Nat.reduceMul, cd_14_0, cd_14_28, cd_14_29, cd_14_44, cd_14_45, cd_14_70, at_14_28, at_14_29, at_14_44, at_14_45, at_14_70, mc_14, ms_14, mr_14, mh_14, ml_14, mc_26, ms_26, mc_27, ms_27, mc_38, ms_38, mc_45, ms_45, mc_46, ms_46, mc_61, ms_61, mc_64, ms_64, xk, xr0, xr1, xr2, xr3, xr4, xr5, xr6, xr7, xr8, ak1, ak2, ak3, ak4, ak5, ak6, ak7, ak8, ak9, ak10, ak11, ak12, ak13, ak14, ak15, ak16, an1, an2, an4, an5, an6, an7, an8, an9, an10, an11, an12, an14, an15, an16, vr0, vr1, vr2, vr3, vr4, hr0, hr1, xi9, xi10, xi11, xi12, hv, icl, t1]
        refine j70 A S h hC hV (fr.refl b h) e9 ?_ _ _ (Or.inl ⟨rfl, rfl⟩)
        unfold sContract
        have : up S 23 c 1 = S := by
          funext f j
          rw [up_e]
          by_cases q : f = 23 ∧ j = c
          · rw [if_pos q, q.1, q.2]; exact ((hb c (by omega)).resolve_left e9).symm
          · rw [if_neg q]
        rw [this]
    · rw [hw] at e
      have u0 : ¬ undS S i = 0 := bI_eq.mp e
      simp only [↓reduceIte, vi_go_c, ↓v1_iadd, ↓v1_isub, ↓v1_imul, ↓v1_iand, ↓v1_idiv, ↓v1_irem, ↓v1_ineg, ↓v1_ladd, ↓v1_lsub, ↓v1_land, ↓v1_lcmp, ↓v1_lshl, ↓v1_lshr, ↓v1_i2l, ↓v1_l2i, ↓v1_iconst_0, ↓v1_iconst_m, ↓v1_bipush, ↓v1_sipush, ↓v1_ldc, ↓v1_ldc_w, ↓v1_lconst, ↓v1_ldc2_w, ↓v1_aconst_null, ↓v1_iload, ↓v1_iload_n, ↓v1_lload, ↓v1_lload_n, ↓v1_aload, ↓v1_aload_n, ↓v1_istore, ↓v1_istore_n, ↓v1_lstore, ↓v1_lstore_n, ↓v1_astore, ↓v1_astore_n, ↓v1_iinc, ↓v1_dup, ↓v1_dup2, ↓v1_ifCond_eq, ↓v1_ifCond_ne, ↓v1_ifCond_lt, ↓v1_ifCond_ge, ↓v1_ifCond_gt, ↓v1_ifCond_le, ↓v1_if_icmp_eq, ↓v1_if_icmp_ne, ↓v1_if_icmp_lt, ↓v1_if_icmp_ge, ↓v1_if_icmp_gt, ↓v1_if_icmp_le, ↓v1_if_acmp_ne, ↓v1_ifnull, ↓v1_ifnonnull, ↓v1_goto, ↓v1_tableswitch_0, ↓v1_return_, ↓v1_ireturn, ↓v1_lreturn, ↓v1_areturn, ↓v1_getfield_0, ↓v1_putfield_0, ↓v1_getstatic, ↓v1_iaload, ↓v1_laload, ↓v1_baload, ↓v1_aaload, ↓v1_iastore, ↓v1_lastore, ↓v1_bastore, ↓v1_aastore_0, ↓v1_arraylength, ↓v1_new_0, ↓v1_newarray, ↓v1_anewarray, ↓v1_invokestatic_0, ↓v1_invokestatic_1, ↓v1_invokestatic_2a, ↓v1_invokevirtual_0, ↓v1_invokespecial_0, ↓v1_invokespecial_1a, ↓v1_invokespecial_1b, ↓vi_ii_e, ↓vi_i_e, ↓vi_jj_e, ↓vi_j_e, ↓vi_ij_e, ↓vi_r_e, ↓vi_rr_e, ↓vi_o_e, ↓vi_ir_e, ↓vi_iir_e, ↓vi_jir_e, ↓vi_rir_e, ↓vi_pop_z, ↓vi_pop_s, ↓vi_sw_n, ↓vi_sw_c, ↓vi_li_z, ↓vi_li_s, ↓vi_ll_z, ↓vi_ll_s, ↓vi_lr_z, ↓vi_lr_s, ↓vi_ret_l, ↓vi_ret_r, vi_sv, vg_set1, vg_set2, vg_lo, List.headD, List.contains_nil, List.contains_cons, Bool.or_false, Bool.false_eq_true, if_false, if_true, Nat.reduceAdd, Nat.reduceBEq, List.nil_append, List.cons_append, List.append_nil, Option.toList, Int32.reduceOfNat, Int64.reduceOfNat, reduceCtorEq, Nat.reduceLeDiff, Nat.le_refl, Nat.zero_le, true_and, and_true, false_or, or_false, or_true, true_or, and_self, not_true_eq_false, not_false_eq_true, forall_const, false_implies, true_implies, Sum.inl.injEq, Sum.inr.injEq, Option.some.injEq, eq_self, oI_1, oI_m, oI_5, oI_L, vi_ws_nil, vi_ws_I, vi_ws_J, vi_ws_R, wi_k, wi_n, wi_r, wi_l, wr_k, wr_n, wr_i, wr_l, wl_k, wl_n, wl_i, wl_r, Nat.reduceSub, Nat.reduceMul, cd_14_0, cd_14_28, cd_14_29, cd_14_44, cd_14_45, cd_14_70, at_14_28, at_14_29, at_14_44, at_14_45, at_14_70, mc_14, ms_14, mr_14, mh_14, ml_14, mc_26, ms_26, mc_27, ms_27, mc_38, ms_38, mc_45, ms_45, mc_46, ms_46, mc_61, ms_61, mc_64, ms_64, xk, xr0, xr1, xr2, xr3, xr4, xr5, xr6, xr7, xr8, ak1, ak2, ak3, ak4, ak5, ak6, ak7, ak8, ak9, ak10, ak11, ak12, ak13, ak14, ak15, ak16, an1, an2, an4, an5, an6, an7, an8, an9, an10, an11, an12, an14, an15, an16, vr0, vr1, vr2, vr3, vr4, hr0, hr1, xi9, xi10, xi11, xi12]
      exact h2 (by rw [if_pos (Int32.lt_iff_le_and_ne.mpr ⟨hu i, fun z => u0 z.symm⟩)]) _ (CE.skip hC hV hn)
  have k1 : ∀ w, w = bI ((0 ≤ i ∧ i ≤ 19) ∧ (0 ≤ z ∧ z ≤ 3) ∧ (1 ≤ k ∧ k ≤ 9)) → vg_A G (MT 14) 0 0 29 [some (.inr (.inr (some b))), some (.inl i), some (.inl z), some (.inl k)] [.inl w] h Q := by
    intro w hw
    refine vi_run ok_14 [45] 40 ?_
    rw [at_14_29]
    simp only [↓reduceIte, vi_go_c, ↓v1_iadd, ↓v1_isub, ↓v1_imul, ↓v1_iand, ↓v1_idiv, ↓v1_irem, ↓v1_ineg, ↓v1_ladd, ↓v1_lsub, ↓v1_land, ↓v1_lcmp, ↓v1_lshl, ↓v1_lshr, ↓v1_i2l, ↓v1_l2i, ↓v1_iconst_0, ↓v1_iconst_m, ↓v1_bipush, ↓v1_sipush, ↓v1_ldc, ↓v1_ldc_w, ↓v1_lconst, ↓v1_ldc2_w, ↓v1_aconst_null, ↓v1_iload, ↓v1_iload_n, ↓v1_lload, ↓v1_lload_n, ↓v1_aload, ↓v1_aload_n, ↓v1_istore, ↓v1_istore_n, ↓v1_lstore, ↓v1_lstore_n, ↓v1_astore, ↓v1_astore_n, ↓v1_iinc, ↓v1_dup, ↓v1_dup2, ↓v1_ifCond_eq, ↓v1_ifCond_ne, ↓v1_ifCond_lt, ↓v1_ifCond_ge, ↓v1_ifCond_gt, ↓v1_ifCond_le, ↓v1_if_icmp_eq, ↓v1_if_icmp_ne, ↓v1_if_icmp_lt, ↓v1_if_icmp_ge, ↓v1_if_icmp_gt, ↓v1_if_icmp_le, ↓v1_if_acmp_ne, ↓v1_ifnull, ↓v1_ifnonnull, ↓v1_goto, ↓v1_tableswitch_0, ↓v1_return_, ↓v1_ireturn, ↓v1_lreturn, ↓v1_areturn, ↓v1_getfield_0, ↓v1_putfield_0, ↓v1_getstatic, ↓v1_iaload, ↓v1_laload, ↓v1_baload, ↓v1_aaload, ↓v1_iastore, ↓v1_lastore, ↓v1_bastore, ↓v1_aastore_0, ↓v1_arraylength, ↓v1_new_0, ↓v1_newarray, ↓v1_anewarray, ↓v1_invokestatic_0, ↓v1_invokestatic_1, ↓v1_invokestatic_2a, ↓v1_invokevirtual_0, ↓v1_invokespecial_0, ↓v1_invokespecial_1a, ↓v1_invokespecial_1b, ↓vi_ii_e, ↓vi_i_e, ↓vi_jj_e, ↓vi_j_e, ↓vi_ij_e, ↓vi_r_e, ↓vi_rr_e, ↓vi_o_e, ↓vi_ir_e, ↓vi_iir_e, ↓vi_jir_e, ↓vi_rir_e, ↓vi_pop_z, ↓vi_pop_s, ↓vi_sw_n, ↓vi_sw_c, ↓vi_li_z, ↓vi_li_s, ↓vi_ll_z, ↓vi_ll_s, ↓vi_lr_z, ↓vi_lr_s, ↓vi_ret_l, ↓vi_ret_r, vi_sv, vg_set1, vg_set2, vg_lo, List.headD, List.contains_nil, List.contains_cons, Bool.or_false, Bool.false_eq_true, if_false, if_true, Nat.reduceAdd, Nat.reduceBEq, List.nil_append, List.cons_append, List.append_nil, Option.toList, Int32.reduceOfNat, Int64.reduceOfNat, reduceCtorEq, Nat.reduceLeDiff, Nat.le_refl, Nat.zero_le, true_and, and_true, false_or, or_false, or_true, true_or, and_self, not_true_eq_false, not_false_eq_true, forall_const, false_implies, true_implies, Sum.inl.injEq, Sum.inr.injEq, Option.some.injEq, eq_self, oI_1, oI_m, oI_5, oI_L, vi_ws_nil, vi_ws_I, vi_ws_J, vi_ws_R, wi_k, wi_n, wi_r, wi_l, wr_k, wr_n, wr_i, wr_l, wl_k, wl_n, wl_i, wl_r, Nat.reduceSub, Nat.reduceMul, cd_14_0, cd_14_28, cd_14_29, cd_14_44, cd_14_45, cd_14_70, at_14_28, at_14_29, at_14_44, at_14_45, at_14_70, mc_14, ms_14, mr_14, mh_14, ml_14, mc_26, ms_26, mc_27, ms_27, mc_38, ms_38, mc_45, ms_45, mc_46, ms_46, mc_61, ms_61, mc_64, ms_64, xk, xr0, xr1, xr2, xr3, xr4, xr5, xr6, xr7, xr8, ak1, ak2, ak3, ak4, ak5, ak6, ak7, ak8, ak9, ak10, ak11, ak12, ak13, ak14, ak15, ak16, an1, an2, an4, an5, an6, an7, an8, an9, an10, an11, an12, an14, an15, an16, vr0, vr1, vr2, vr3, vr4, hr0, hr1, xi9, xi10, xi11, xi12]
    refine c_45 (fun e => ?_) (fun e n hn => ?_)
    · simp only [↓reduceIte, vi_go_c, ↓v1_iadd, ↓v1_isub, ↓v1_imul, ↓v1_iand, ↓v1_idiv, ↓v1_irem, ↓v1_ineg, ↓v1_ladd, ↓v1_lsub, ↓v1_land, ↓v1_lcmp, ↓v1_lshl, ↓v1_lshr, ↓v1_i2l, ↓v1_l2i, ↓v1_iconst_0, ↓v1_iconst_m, ↓v1_bipush, ↓v1_sipush, ↓v1_ldc, ↓v1_ldc_w, ↓v1_lconst, ↓v1_ldc2_w, ↓v1_aconst_null, ↓v1_iload, ↓v1_iload_n, ↓v1_lload, ↓v1_lload_n, ↓v1_aload, ↓v1_aload_n, ↓v1_istore, ↓v1_istore_n, ↓v1_lstore, ↓v1_lstore_n, ↓v1_astore, ↓v1_astore_n, ↓v1_iinc, ↓v1_dup, ↓v1_dup2, ↓v1_ifCond_eq, ↓v1_ifCond_ne, ↓v1_ifCond_lt, ↓v1_ifCond_ge, ↓v1_ifCond_gt, ↓v1_ifCond_le, ↓v1_if_icmp_eq, ↓v1_if_icmp_ne, ↓v1_if_icmp_lt, ↓v1_if_icmp_ge, ↓v1_if_icmp_gt, ↓v1_if_icmp_le, ↓v1_if_acmp_ne, ↓v1_ifnull, ↓v1_ifnonnull, ↓v1_goto, ↓v1_tableswitch_0, ↓v1_return_, ↓v1_ireturn, ↓v1_lreturn, ↓v1_areturn, ↓v1_getfield_0, ↓v1_putfield_0, ↓v1_getstatic, ↓v1_iaload, ↓v1_laload, ↓v1_baload, ↓v1_aaload, ↓v1_iastore, ↓v1_lastore, ↓v1_bastore, ↓v1_aastore_0, ↓v1_arraylength, ↓v1_new_0, ↓v1_newarray, ↓v1_anewarray, ↓v1_invokestatic_0, ↓v1_invokestatic_1, ↓v1_invokestatic_2a, ↓v1_invokevirtual_0, ↓v1_invokespecial_0, ↓v1_invokespecial_1a, ↓v1_invokespecial_1b, ↓vi_ii_e, ↓vi_i_e, ↓vi_jj_e, ↓vi_j_e, ↓vi_ij_e, ↓vi_r_e, ↓vi_rr_e, ↓vi_o_e, ↓vi_ir_e, ↓vi_iir_e, ↓vi_jir_e, ↓vi_rir_e, ↓vi_pop_z, ↓vi_pop_s, ↓vi_sw_n, ↓vi_sw_c, ↓vi_li_z, ↓vi_li_s, ↓vi_ll_z, ↓vi_ll_s, ↓vi_lr_z, ↓vi_lr_s, ↓vi_ret_l, ↓vi_ret_r, vi_sv, vg_set1, vg_set2, vg_lo, List.headD, List.contains_nil, List.contains_cons, Bool.or_false, Bool.false_eq_true, if_false, if_true, Nat.reduceAdd, Nat.reduceBEq, List.nil_append, List.cons_append, List.append_nil, Option.toList, Int32.reduceOfNat, Int64.reduceOfNat, reduceCtorEq, Nat.reduceLeDiff, Nat.le_refl, Nat.zero_le, true_and, and_true, false_or, or_false, or_true, true_or, and_self, not_true_eq_false, not_false_eq_true, forall_const, false_implies, true_implies, Sum.inl.injEq, Sum.inr.injEq, Option.some.injEq, eq_self, oI_1, oI_m, oI_5, oI_L, vi_ws_nil, vi_ws_I, vi_ws_J, vi_ws_R, wi_k, wi_n, wi_r, wi_l, wr_k, wr_n, wr_i, wr_l, wl_k, wl_n, wl_i, wl_r, Nat.reduceSub, Nat.reduceMul, cd_14_0, cd_14_28, cd_14_29, cd_14_44, cd_14_45, cd_14_70, at_14_28, at_14_29, at_14_44, at_14_45, at_14_70, mc_14, ms_14, mr_14, mh_14, ml_14, mc_26, ms_26, mc_27, ms_27, mc_38, ms_38, mc_45, ms_45, mc_46, ms_46, mc_61, ms_61, mc_64, ms_64, xk, xr0, xr1, xr2, xr3, xr4, xr5, xr6, xr7, xr8, ak1, ak2, ak3, ak4, ak5, ak6, ak7, ak8, ak9, ak10, ak11, ak12, ak13, ak14, ak15, ak16, an1, an2, an4, an5, an6, an7, an8, an9, an10, an11, an12, an14, an15, an16, vr0, vr1, vr2, vr3, vr4, hr0, hr1, xi9, xi10, xi11, xi12]
      rw [hw] at e
      refine c_26 hC hT ?_
      simp only [↓reduceIte, vi_go_c, ↓v1_iadd, ↓v1_isub, ↓v1_imul, ↓v1_iand, ↓v1_idiv, ↓v1_irem, ↓v1_ineg, ↓v1_ladd, ↓v1_lsub, ↓v1_land, ↓v1_lcmp, ↓v1_lshl, ↓v1_lshr, ↓v1_i2l, ↓v1_l2i, ↓v1_iconst_0, ↓v1_iconst_m, ↓v1_bipush, ↓v1_sipush, ↓v1_ldc, ↓v1_ldc_w, ↓v1_lconst, ↓v1_ldc2_w, ↓v1_aconst_null, ↓v1_iload, ↓v1_iload_n, ↓v1_lload, ↓v1_lload_n, ↓v1_aload, ↓v1_aload_n, ↓v1_istore, ↓v1_istore_n, ↓v1_lstore, ↓v1_lstore_n, ↓v1_astore, ↓v1_astore_n, ↓v1_iinc, ↓v1_dup, ↓v1_dup2, ↓v1_ifCond_eq, ↓v1_ifCond_ne, ↓v1_ifCond_lt, ↓v1_ifCond_ge, ↓v1_ifCond_gt, ↓v1_ifCond_le, ↓v1_if_icmp_eq, ↓v1_if_icmp_ne, ↓v1_if_icmp_lt, ↓v1_if_icmp_ge, ↓v1_if_icmp_gt, ↓v1_if_icmp_le, ↓v1_if_acmp_ne, ↓v1_ifnull, ↓v1_ifnonnull, ↓v1_goto, ↓v1_tableswitch_0, ↓v1_return_, ↓v1_ireturn, ↓v1_lreturn, ↓v1_areturn, ↓v1_getfield_0, ↓v1_putfield_0, ↓v1_getstatic, ↓v1_iaload, ↓v1_laload, ↓v1_baload, ↓v1_aaload, ↓v1_iastore, ↓v1_lastore, ↓v1_bastore, ↓v1_aastore_0, ↓v1_arraylength, ↓v1_new_0, ↓v1_newarray, ↓v1_anewarray, ↓v1_invokestatic_0, ↓v1_invokestatic_1, ↓v1_invokestatic_2a, ↓v1_invokevirtual_0, ↓v1_invokespecial_0, ↓v1_invokespecial_1a, ↓v1_invokespecial_1b, ↓vi_ii_e, ↓vi_i_e, ↓vi_jj_e, ↓vi_j_e, ↓vi_ij_e, ↓vi_r_e, ↓vi_rr_e, ↓vi_o_e, ↓vi_ir_e, ↓vi_iir_e, ↓vi_jir_e, ↓vi_rir_e, ↓vi_pop_z, ↓vi_pop_s, ↓vi_sw_n, ↓vi_sw_c, ↓vi_li_z, ↓vi_li_s, ↓vi_ll_z, ↓vi_ll_s, ↓vi_lr_z, ↓vi_lr_s, ↓vi_ret_l, ↓vi_ret_r, vi_sv, vg_set1, vg_set2, vg_lo, List.headD, List.contains_nil, List.contains_cons, Bool.or_false, Bool.false_eq_true, if_false, if_true, Nat.reduceAdd, Nat.reduceBEq, List.nil_append, List.cons_append, List.append_nil, Option.toList, Int32.reduceOfNat, Int64.reduceOfNat, reduceCtorEq, Nat.reduceLeDiff, Nat.le_refl, Nat.zero_le, true_and, and_true, false_or, or_false, or_true, true_or, and_self, not_true_eq_false, not_false_eq_true, forall_const, false_implies, true_implies, Sum.inl.injEq, Sum.inr.injEq, Option.some.injEq, eq_self, oI_1, oI_m, oI_5, oI_L, vi_ws_nil, vi_ws_I, vi_ws_J, vi_ws_R, wi_k, wi_n, wi_r, wi_l, wr_k, wr_n, wr_i, wr_l, wl_k, wl_n, wl_i, wl_r, Nat.reduceSub, Nat.reduceMul, cd_14_0, cd_14_28, cd_14_29, cd_14_44, cd_14_45, cd_14_70, at_14_28, at_14_29, at_14_44, at_14_45, at_14_70, mc_14, ms_14, mr_14, mh_14, ml_14, mc_26, ms_26, mc_27, ms_27, mc_38, ms_38, mc_45, ms_45, mc_46, ms_46, mc_61, ms_61, mc_64, ms_64, xk, xr0, xr1, xr2, xr3, xr4, xr5, xr6, xr7, xr8, ak1, ak2, ak3, ak4, ak5, ak6, ak7, ak8, ak9, ak10, ak11, ak12, ak13, ak14, ak15, ak16, an1, an2, an4, an5, an6, an7, an8, an9, an10, an11, an12, an14, an15, an16, vr0, vr1, vr2, vr3, vr4, hr0, hr1, xi9, xi10, xi11, xi12]
      exact ⟨fun e2 => k2 (bI_ne.mp e) _ (by rw [bI_f e2]), fun e2 => k2 (bI_ne.mp e) _ (by rw [bI_t (Classical.not_not.mp e2)])⟩
    · simp only [↓reduceIte, vi_go_c, ↓v1_iadd, ↓v1_isub, ↓v1_imul, ↓v1_iand, ↓v1_idiv, ↓v1_irem, ↓v1_ineg, ↓v1_ladd, ↓v1_lsub, ↓v1_land, ↓v1_lcmp, ↓v1_lshl, ↓v1_lshr, ↓v1_i2l, ↓v1_l2i, ↓v1_iconst_0, ↓v1_iconst_m, ↓v1_bipush, ↓v1_sipush, ↓v1_ldc, ↓v1_ldc_w, ↓v1_lconst, ↓v1_ldc2_w, ↓v1_aconst_null, ↓v1_iload, ↓v1_iload_n, ↓v1_lload, ↓v1_lload_n, ↓v1_aload, ↓v1_aload_n, ↓v1_istore, ↓v1_istore_n, ↓v1_lstore, ↓v1_lstore_n, ↓v1_astore, ↓v1_astore_n, ↓v1_iinc, ↓v1_dup, ↓v1_dup2, ↓v1_ifCond_eq, ↓v1_ifCond_ne, ↓v1_ifCond_lt, ↓v1_ifCond_ge, ↓v1_ifCond_gt, ↓v1_ifCond_le, ↓v1_if_icmp_eq, ↓v1_if_icmp_ne, ↓v1_if_icmp_lt, ↓v1_if_icmp_ge, ↓v1_if_icmp_gt, ↓v1_if_icmp_le, ↓v1_if_acmp_ne, ↓v1_ifnull, ↓v1_ifnonnull, ↓v1_goto, ↓v1_tableswitch_0, ↓v1_return_, ↓v1_ireturn, ↓v1_lreturn, ↓v1_areturn, ↓v1_getfield_0, ↓v1_putfield_0, ↓v1_getstatic, ↓v1_iaload, ↓v1_laload, ↓v1_baload, ↓v1_aaload, ↓v1_iastore, ↓v1_lastore, ↓v1_bastore, ↓v1_aastore_0, ↓v1_arraylength, ↓v1_new_0, ↓v1_newarray, ↓v1_anewarray, ↓v1_invokestatic_0, ↓v1_invokestatic_1, ↓v1_invokestatic_2a, ↓v1_invokevirtual_0, ↓v1_invokespecial_0, ↓v1_invokespecial_1a, ↓v1_invokespecial_1b, ↓vi_ii_e, ↓vi_i_e, ↓vi_jj_e, ↓vi_j_e, ↓vi_ij_e, ↓vi_r_e, ↓vi_rr_e, ↓vi_o_e, ↓vi_ir_e, ↓vi_iir_e, ↓vi_jir_e, ↓vi_rir_e, ↓vi_pop_z, ↓vi_pop_s, ↓vi_sw_n, ↓vi_sw_c, ↓vi_li_z, ↓vi_li_s, ↓vi_ll_z, ↓vi_ll_s, ↓vi_lr_z, ↓vi_lr_s, ↓vi_ret_l, ↓vi_ret_r, vi_sv, vg_set1, vg_set2, vg_lo, List.headD, List.contains_nil, List.contains_cons, Bool.or_false, Bool.false_eq_true, if_false, if_true, Nat.reduceAdd, Nat.reduceBEq, List.nil_append, List.cons_append, List.append_nil, Option.toList, Int32.reduceOfNat, Int64.reduceOfNat, reduceCtorEq, Nat.reduceLeDiff, Nat.le_refl, Nat.zero_le, true_and, and_true, false_or, or_false, or_true, true_or, and_self, not_true_eq_false, not_false_eq_true, forall_const, false_implies, true_implies, Sum.inl.injEq, Sum.inr.injEq, Option.some.injEq, eq_self, oI_1, oI_m, oI_5, oI_L, vi_ws_nil, vi_ws_I, vi_ws_J, vi_ws_R, wi_k, wi_n, wi_r, wi_l, wr_k, wr_n, wr_i, wr_l, wl_k, wl_n, wl_i, wl_r, Nat.reduceSub, Nat.reduceMul, cd_14_0, cd_14_28, cd_14_29, cd_14_44, cd_14_45, cd_14_70, at_14_28, at_14_29, at_14_44, at_14_45, at_14_70, mc_14, ms_14, mr_14, mh_14, ml_14, mc_26, ms_26, mc_27, ms_27, mc_38, ms_38, mc_45, ms_45, mc_46, ms_46, mc_61, ms_61, mc_64, ms_64, xk, xr0, xr1, xr2, xr3, xr4, xr5, xr6, xr7, xr8, ak1, ak2, ak3, ak4, ak5, ak6, ak7, ak8, ak9, ak10, ak11, ak12, ak13, ak14, ak15, ak16, an1, an2, an4, an5, an6, an7, an8, an9, an10, an11, an12, an14, an15, an16, vr0, vr1, vr2, vr3, vr4, hr0, hr1, xi9, xi10, xi11, xi12]
      rw [hw] at e
      exact h1 (by rw [if_pos (bI_eq.mp e)]) _ (CE.skip hC hV hn)
  refine vg_C_of rfl (by decide +kernel) (Nat.le_of_ble_eq_true rfl) ?_
  refine vi_run ok_14 [29] 40 ?_
  rw [at_14_0]
  simp only [vg_ent, vg_en, List.length_cons, List.length_nil, Nat.reduceAdd, Nat.reduceSub, List.replicate, List.append_nil, List.nil_append, List.cons_append, mn_14]
  simp only [↓reduceIte, vi_go_c, ↓v1_iadd, ↓v1_isub, ↓v1_imul, ↓v1_iand, ↓v1_idiv, ↓v1_irem, ↓v1_ineg, ↓v1_ladd, ↓v1_lsub, ↓v1_land, ↓v1_lcmp, ↓v1_lshl, ↓v1_lshr, ↓v1_i2l, ↓v1_l2i, ↓v1_iconst_0, ↓v1_iconst_m, ↓v1_bipush, ↓v1_sipush, ↓v1_ldc, ↓v1_ldc_w, ↓v1_lconst, ↓v1_ldc2_w, ↓v1_aconst_null, ↓v1_iload, ↓v1_iload_n, ↓v1_lload, ↓v1_lload_n, ↓v1_aload, ↓v1_aload_n, ↓v1_istore, ↓v1_istore_n, ↓v1_lstore, ↓v1_lstore_n, ↓v1_astore, ↓v1_astore_n, ↓v1_iinc, ↓v1_dup, ↓v1_dup2, ↓v1_ifCond_eq, ↓v1_ifCond_ne, ↓v1_ifCond_lt, ↓v1_ifCond_ge, ↓v1_ifCond_gt, ↓v1_ifCond_le, ↓v1_if_icmp_eq, ↓v1_if_icmp_ne, ↓v1_if_icmp_lt, ↓v1_if_icmp_ge, ↓v1_if_icmp_gt, ↓v1_if_icmp_le, ↓v1_if_acmp_ne, ↓v1_ifnull, ↓v1_ifnonnull, ↓v1_goto, ↓v1_tableswitch_0, ↓v1_return_, ↓v1_ireturn, ↓v1_lreturn, ↓v1_areturn, ↓v1_getfield_0, ↓v1_putfield_0, ↓v1_getstatic, ↓v1_iaload, ↓v1_laload, ↓v1_baload, ↓v1_aaload, ↓v1_iastore, ↓v1_lastore, ↓v1_bastore, ↓v1_aastore_0, ↓v1_arraylength, ↓v1_new_0, ↓v1_newarray, ↓v1_anewarray, ↓v1_invokestatic_0, ↓v1_invokestatic_1, ↓v1_invokestatic_2a, ↓v1_invokevirtual_0, ↓v1_invokespecial_0, ↓v1_invokespecial_1a, ↓v1_invokespecial_1b, ↓vi_ii_e, ↓vi_i_e, ↓vi_jj_e, ↓vi_j_e, ↓vi_ij_e, ↓vi_r_e, ↓vi_rr_e, ↓vi_o_e, ↓vi_ir_e, ↓vi_iir_e, ↓vi_jir_e, ↓vi_rir_e, ↓vi_pop_z, ↓vi_pop_s, ↓vi_sw_n, ↓vi_sw_c, ↓vi_li_z, ↓vi_li_s, ↓vi_ll_z, ↓vi_ll_s, ↓vi_lr_z, ↓vi_lr_s, ↓vi_ret_l, ↓vi_ret_r, vi_sv, vg_set1, vg_set2, vg_lo, List.headD, List.contains_nil, List.contains_cons, Bool.or_false, Bool.false_eq_true, if_false, if_true, Nat.reduceAdd, Nat.reduceBEq, List.nil_append, List.cons_append, List.append_nil, Option.toList, Int32.reduceOfNat, Int64.reduceOfNat, reduceCtorEq, Nat.reduceLeDiff, Nat.le_refl, Nat.zero_le, true_and, and_true, false_or, or_false, or_true, true_or, and_self, not_true_eq_false, not_false_eq_true, forall_const, false_implies, true_implies, Sum.inl.injEq, Sum.inr.injEq, Option.some.injEq, eq_self, oI_1, oI_m, oI_5, oI_L, vi_ws_nil, vi_ws_I, vi_ws_J, vi_ws_R, wi_k, wi_n, wi_r, wi_l, wr_k, wr_n, wr_i, wr_l, wl_k, wl_n, wl_i, wl_r, Nat.reduceSub, Nat.reduceMul, cd_14_0, cd_14_28, cd_14_29, cd_14_44, cd_14_45, cd_14_70, at_14_28, at_14_29, at_14_44, at_14_45, at_14_70, mc_14, ms_14, mr_14, mh_14, ml_14, mc_26, ms_26, mc_27, ms_27, mc_38, ms_38, mc_45, ms_45, mc_46, ms_46, mc_61, ms_61, mc_64, ms_64, xk, xr0, xr1, xr2, xr3, xr4, xr5, xr6, xr7, xr8, ak1, ak2, ak3, ak4, ak5, ak6, ak7, ak8, ak9, ak10, ak11, ak12, ak13, ak14, ak15, ak16, an1, an2, an4, an5, an6, an7, an8, an9, an10, an11, an12, an14, an15, an16, vr0, vr1, vr2, vr3, vr4, hr0, hr1, xi9, xi10, xi11, xi12]
  refine c_27 ?_
  simp only [↓reduceIte, vi_go_c, ↓v1_iadd, ↓v1_isub, ↓v1_imul, ↓v1_iand, ↓v1_idiv, ↓v1_irem, ↓v1_ineg, ↓v1_ladd, ↓v1_lsub, ↓v1_land, ↓v1_lcmp, ↓v1_lshl, ↓v1_lshr, ↓v1_i2l, ↓v1_l2i, ↓v1_iconst_0, ↓v1_iconst_m, ↓v1_bipush, ↓v1_sipush, ↓v1_ldc, ↓v1_ldc_w, ↓v1_lconst, ↓v1_ldc2_w, ↓v1_aconst_null, ↓v1_iload, ↓v1_iload_n, ↓v1_lload, ↓v1_lload_n, ↓v1_aload, ↓v1_aload_n, ↓v1_istore, ↓v1_istore_n, ↓v1_lstore, ↓v1_lstore_n, ↓v1_astore, ↓v1_astore_n, ↓v1_iinc, ↓v1_dup, ↓v1_dup2, ↓v1_ifCond_eq, ↓v1_ifCond_ne, ↓v1_ifCond_lt, ↓v1_ifCond_ge, ↓v1_ifCond_gt, ↓v1_ifCond_le, ↓v1_if_icmp_eq, ↓v1_if_icmp_ne, ↓v1_if_icmp_lt, ↓v1_if_icmp_ge, ↓v1_if_icmp_gt, ↓v1_if_icmp_le, ↓v1_if_acmp_ne, ↓v1_ifnull, ↓v1_ifnonnull, ↓v1_goto, ↓v1_tableswitch_0, ↓v1_return_, ↓v1_ireturn, ↓v1_lreturn, ↓v1_areturn, ↓v1_getfield_0, ↓v1_putfield_0, ↓v1_getstatic, ↓v1_iaload, ↓v1_laload, ↓v1_baload, ↓v1_aaload, ↓v1_iastore, ↓v1_lastore, ↓v1_bastore, ↓v1_aastore_0, ↓v1_arraylength, ↓v1_new_0, ↓v1_newarray, ↓v1_anewarray, ↓v1_invokestatic_0, ↓v1_invokestatic_1, ↓v1_invokestatic_2a, ↓v1_invokevirtual_0, ↓v1_invokespecial_0, ↓v1_invokespecial_1a, ↓v1_invokespecial_1b, ↓vi_ii_e, ↓vi_i_e, ↓vi_jj_e, ↓vi_j_e, ↓vi_ij_e, ↓vi_r_e, ↓vi_rr_e, ↓vi_o_e, ↓vi_ir_e, ↓vi_iir_e, ↓vi_jir_e, ↓vi_rir_e, ↓vi_pop_z, ↓vi_pop_s, ↓vi_sw_n, ↓vi_sw_c, ↓vi_li_z, ↓vi_li_s, ↓vi_ll_z, ↓vi_ll_s, ↓vi_lr_z, ↓vi_lr_s, ↓vi_ret_l, ↓vi_ret_r, vi_sv, vg_set1, vg_set2, vg_lo, List.headD, List.contains_nil, List.contains_cons, Bool.or_false, Bool.false_eq_true, if_false, if_true, Nat.reduceAdd, Nat.reduceBEq, List.nil_append, List.cons_append, List.append_nil, Option.toList, Int32.reduceOfNat, Int64.reduceOfNat, reduceCtorEq, Nat.reduceLeDiff, Nat.le_refl, Nat.zero_le, true_and, and_true, false_or, or_false, or_true, true_or, and_self, not_true_eq_false, not_false_eq_true, forall_const, false_implies, true_implies, Sum.inl.injEq, Sum.inr.injEq, Option.some.injEq, eq_self, oI_1, oI_m, oI_5, oI_L, vi_ws_nil, vi_ws_I, vi_ws_J, vi_ws_R, wi_k, wi_n, wi_r, wi_l, wr_k, wr_n, wr_i, wr_l, wl_k, wl_n, wl_i, wl_r, Nat.reduceSub, Nat.reduceMul, cd_14_0, cd_14_28, cd_14_29, cd_14_44, cd_14_45, cd_14_70, at_14_28, at_14_29, at_14_44, at_14_45, at_14_70, mc_14, ms_14, mr_14, mh_14, ml_14, mc_26, ms_26, mc_27, ms_27, mc_38, ms_38, mc_45, ms_45, mc_46, ms_46, mc_61, ms_61, mc_64, ms_64, xk, xr0, xr1, xr2, xr3, xr4, xr5, xr6, xr7, xr8, ak1, ak2, ak3, ak4, ak5, ak6, ak7, ak8, ak9, ak10, ak11, ak12, ak13, ak14, ak15, ak16, an1, an2, an4, an5, an6, an7, an8, an9, an10, an11, an12, an14, an15, an16, vr0, vr1, vr2, vr3, vr4, hr0, hr1, xi9, xi10, xi11, xi12]
  refine ⟨fun e => k1 _ (by clear h0 h1 h2 k2 k1; grind (splits := 30) [bI]), fun e => c_38 ?_⟩
  simp only [↓reduceIte, vi_go_c, ↓v1_iadd, ↓v1_isub, ↓v1_imul, ↓v1_iand, ↓v1_idiv, ↓v1_irem, ↓v1_ineg, ↓v1_ladd, ↓v1_lsub, ↓v1_land, ↓v1_lcmp, ↓v1_lshl, ↓v1_lshr, ↓v1_i2l, ↓v1_l2i, ↓v1_iconst_0, ↓v1_iconst_m, ↓v1_bipush, ↓v1_sipush, ↓v1_ldc, ↓v1_ldc_w, ↓v1_lconst, ↓v1_ldc2_w, ↓v1_aconst_null, ↓v1_iload, ↓v1_iload_n, ↓v1_lload, ↓v1_lload_n, ↓v1_aload, ↓v1_aload_n, ↓v1_istore, ↓v1_istore_n, ↓v1_lstore, ↓v1_lstore_n, ↓v1_astore, ↓v1_astore_n, ↓v1_iinc, ↓v1_dup, ↓v1_dup2, ↓v1_ifCond_eq, ↓v1_ifCond_ne, ↓v1_ifCond_lt, ↓v1_ifCond_ge, ↓v1_ifCond_gt, ↓v1_ifCond_le, ↓v1_if_icmp_eq, ↓v1_if_icmp_ne, ↓v1_if_icmp_lt, ↓v1_if_icmp_ge, ↓v1_if_icmp_gt, ↓v1_if_icmp_le, ↓v1_if_acmp_ne, ↓v1_ifnull, ↓v1_ifnonnull, ↓v1_goto, ↓v1_tableswitch_0, ↓v1_return_, ↓v1_ireturn, ↓v1_lreturn, ↓v1_areturn, ↓v1_getfield_0, ↓v1_putfield_0, ↓v1_getstatic, ↓v1_iaload, ↓v1_laload, ↓v1_baload, ↓v1_aaload, ↓v1_iastore, ↓v1_lastore, ↓v1_bastore, ↓v1_aastore_0, ↓v1_arraylength, ↓v1_new_0, ↓v1_newarray, ↓v1_anewarray, ↓v1_invokestatic_0, ↓v1_invokestatic_1, ↓v1_invokestatic_2a, ↓v1_invokevirtual_0, ↓v1_invokespecial_0, ↓v1_invokespecial_1a, ↓v1_invokespecial_1b, ↓vi_ii_e, ↓vi_i_e, ↓vi_jj_e, ↓vi_j_e, ↓vi_ij_e, ↓vi_r_e, ↓vi_rr_e, ↓vi_o_e, ↓vi_ir_e, ↓vi_iir_e, ↓vi_jir_e, ↓vi_rir_e, ↓vi_pop_z, ↓vi_pop_s, ↓vi_sw_n, ↓vi_sw_c, ↓vi_li_z, ↓vi_li_s, ↓vi_ll_z, ↓vi_ll_s, ↓vi_lr_z, ↓vi_lr_s, ↓vi_ret_l, ↓vi_ret_r, vi_sv, vg_set1, vg_set2, vg_lo, List.headD, List.contains_nil, List.contains_cons, Bool.or_false, Bool.false_eq_true, if_false, if_true, Nat.reduceAdd, Nat.reduceBEq, List.nil_append, List.cons_append, List.append_nil, Option.toList, Int32.reduceOfNat, Int64.reduceOfNat, reduceCtorEq, Nat.reduceLeDiff, Nat.le_refl, Nat.zero_le, true_and, and_true, false_or, or_false, or_true, true_or, and_self, not_true_eq_false, not_false_eq_true, forall_const, false_implies, true_implies, Sum.inl.injEq, Sum.inr.injEq, Option.some.injEq, eq_self, oI_1, oI_m, oI_5, oI_L, vi_ws_nil, vi_ws_I, vi_ws_J, vi_ws_R, wi_k, wi_n, wi_r, wi_l, wr_k, wr_n, wr_i, wr_l, wl_k, wl_n, wl_i, wl_r, Nat.reduceSub, Nat.reduceMul, cd_14_0, cd_14_28, cd_14_29, cd_14_44, cd_14_45, cd_14_70, at_14_28, at_14_29, at_14_44, at_14_45, at_14_70, mc_14, ms_14, mr_14, mh_14, ml_14, mc_26, ms_26, mc_27, ms_27, mc_38, ms_38, mc_45, ms_45, mc_46, ms_46, mc_61, ms_61, mc_64, ms_64, xk, xr0, xr1, xr2, xr3, xr4, xr5, xr6, xr7, xr8, ak1, ak2, ak3, ak4, ak5, ak6, ak7, ak8, ak9, ak10, ak11, ak12, ak13, ak14, ak15, ak16, an1, an2, an4, an5, an6, an7, an8, an9, an10, an11, an12, an14, an15, an16, vr0, vr1, vr2, vr3, vr4, hr0, hr1, xi9, xi10, xi11, xi12]
  refine ⟨fun e => k1 _ (by clear h0 h1 h2 k2 k1; grind (splits := 30) [bI]), fun e => c_61 ?_⟩
  simp only [↓reduceIte, vi_go_c, ↓v1_iadd, ↓v1_isub, ↓v1_imul, ↓v1_iand, ↓v1_idiv, ↓v1_irem, ↓v1_ineg, ↓v1_ladd, ↓v1_lsub, ↓v1_land, ↓v1_lcmp, ↓v1_lshl, ↓v1_lshr, ↓v1_i2l, ↓v1_l2i, ↓v1_iconst_0, ↓v1_iconst_m, ↓v1_bipush, ↓v1_sipush, ↓v1_ldc, ↓v1_ldc_w, ↓v1_lconst, ↓v1_ldc2_w, ↓v1_aconst_null, ↓v1_iload, ↓v1_iload_n, ↓v1_lload, ↓v1_lload_n, ↓v1_aload, ↓v1_aload_n, ↓v1_istore, ↓v1_istore_n, ↓v1_lstore, ↓v1_lstore_n, ↓v1_astore, ↓v1_astore_n, ↓v1_iinc, ↓v1_dup, ↓v1_dup2, ↓v1_ifCond_eq, ↓v1_ifCond_ne, ↓v1_ifCond_lt, ↓v1_ifCond_ge, ↓v1_ifCond_gt, ↓v1_ifCond_le, ↓v1_if_icmp_eq, ↓v1_if_icmp_ne, ↓v1_if_icmp_lt, ↓v1_if_icmp_ge, ↓v1_if_icmp_gt, ↓v1_if_icmp_le, ↓v1_if_acmp_ne, ↓v1_ifnull, ↓v1_ifnonnull, ↓v1_goto, ↓v1_tableswitch_0, ↓v1_return_, ↓v1_ireturn, ↓v1_lreturn, ↓v1_areturn, ↓v1_getfield_0, ↓v1_putfield_0, ↓v1_getstatic, ↓v1_iaload, ↓v1_laload, ↓v1_baload, ↓v1_aaload, ↓v1_iastore, ↓v1_lastore, ↓v1_bastore, ↓v1_aastore_0, ↓v1_arraylength, ↓v1_new_0, ↓v1_newarray, ↓v1_anewarray, ↓v1_invokestatic_0, ↓v1_invokestatic_1, ↓v1_invokestatic_2a, ↓v1_invokevirtual_0, ↓v1_invokespecial_0, ↓v1_invokespecial_1a, ↓v1_invokespecial_1b, ↓vi_ii_e, ↓vi_i_e, ↓vi_jj_e, ↓vi_j_e, ↓vi_ij_e, ↓vi_r_e, ↓vi_rr_e, ↓vi_o_e, ↓vi_ir_e, ↓vi_iir_e, ↓vi_jir_e, ↓vi_rir_e, ↓vi_pop_z, ↓vi_pop_s, ↓vi_sw_n, ↓vi_sw_c, ↓vi_li_z, ↓vi_li_s, ↓vi_ll_z, ↓vi_ll_s, ↓vi_lr_z, ↓vi_lr_s, ↓vi_ret_l, ↓vi_ret_r, vi_sv, vg_set1, vg_set2, vg_lo, List.headD, List.contains_nil, List.contains_cons, Bool.or_false, Bool.false_eq_true, if_false, if_true, Nat.reduceAdd, Nat.reduceBEq, List.nil_append, List.cons_append, List.append_nil, Option.toList, Int32.reduceOfNat, Int64.reduceOfNat, reduceCtorEq, Nat.reduceLeDiff, Nat.le_refl, Nat.zero_le, true_and, and_true, false_or, or_false, or_true, true_or, and_self, not_true_eq_false, not_false_eq_true, forall_const, false_implies, true_implies, Sum.inl.injEq, Sum.inr.injEq, Option.some.injEq, eq_self, oI_1, oI_m, oI_5, oI_L, vi_ws_nil, vi_ws_I, vi_ws_J, vi_ws_R, wi_k, wi_n, wi_r, wi_l, wr_k, wr_n, wr_i, wr_l, wl_k, wl_n, wl_i, wl_r, Nat.reduceSub, Nat.reduceMul, cd_14_0, cd_14_28, cd_14_29, cd_14_44, cd_14_45, cd_14_70, at_14_28, at_14_29, at_14_44, at_14_45, at_14_70, mc_14, ms_14, mr_14, mh_14, ml_14, mc_26, ms_26, mc_27, ms_27, mc_38, ms_38, mc_45, ms_45, mc_46, ms_46, mc_61, ms_61, mc_64, ms_64, xk, xr0, xr1, xr2, xr3, xr4, xr5, xr6, xr7, xr8, ak1, ak2, ak3, ak4, ak5, ak6, ak7, ak8, ak9, ak10, ak11, ak12, ak13, ak14, ak15, ak16, an1, an2, an4, an5, an6, an7, an8, an9, an10, an11, an12, an14, an15, an16, vr0, vr1, vr2, vr3, vr4, hr0, hr1, xi9, xi10, xi11, xi12]
  exact ⟨fun e => k1 _ (by clear h0 h1 h2 k2 k1; grind (splits := 30) [bI]), fun e => k1 _ (by clear h0 h1 h2 k2 k1; grind (splits := 30) [bI])⟩
theorem sPlate_26 {c : Nat} {p : Int32} (d : Nat) : sPlate S c p 26 d = if d = c then S 26 c + 1 else S 26 d := by
  unfold sPlate; rw [up_e, upf (by decide)]; simp
theorem sPlate_27 {c : Nat} {p : Int32} (j : Nat) : sPlate S c p 27 j = if j = 12 * c + (S 26 c).toNatClampNeg then p else S 27 j := by
  unfold sPlate; rw [upf (by decide), up_e]; simp
theorem plS_add {c n : Nat} {p : Int32} {f : Nat → Int32} (hn : S 26 c = nI n) (hn2 : n < 12) (hp : plS S c f) (hni : ¬ InC S p c) : plS (sPlate S c p) c (fun k => if k = n then p else f k) := by
  have cn : (S 26 c).toNatClampNeg = n := by rw [hn]; exact nI_clamp (by omega)
  have c1 : (sPlate S c p 26 c).toNatClampNeg = n + 1 := by rw [sPlate_26, if_pos rfl, hn, nI_1, nI_clamp (by omega)]
  unfold plS at *
  rw [cn] at hp
  obtain ⟨p1, p2, p3⟩ := hp
  have nin : ∀ j, j < n → ¬ S 27 (12 * c + j) = p := fun j hj z => hni ⟨j, by rw [cn]; exact hj, z⟩
  rw [c1]
  refine ⟨fun i hi => ?_, fun j hj => ?_, fun i j hi hj he => ?_⟩
  · by_cases e : i = n
    · exact ⟨n, by omega, by rw [sPlate_27, cn, if_pos rfl]; simp [e]⟩
    · obtain ⟨j, j1, j2⟩ := p1 i (by omega)
      exact ⟨j, by omega, by rw [sPlate_27, cn, if_neg (by omega)]; simp only [e, if_false]; exact j2⟩
  · by_cases e : j = n
    · exact ⟨n, by omega, by rw [sPlate_27, cn, if_pos (by omega)]; simp⟩
    · obtain ⟨i, i1, i2⟩ := p2 j (by omega)
      have ne : ¬ i = n := by omega
      exact ⟨i, by omega, by rw [sPlate_27, cn, if_neg (by omega)]; simp only [ne, if_false]; exact i2⟩
  · have q : ∀ k, k < n → ¬ f k = p := fun k hk z => by
      obtain ⟨j, j1, j2⟩ := p1 k hk
      exact nin j j1 (by rw [← j2]; exact z)
    by_cases e : i = n
    · by_cases e2 : j = n
      · omega
      · simp only [e, e2, if_true, if_false] at he
        exact absurd he.symm (q j (by omega))
    · by_cases e2 : j = n
      · simp only [e, e2, if_true, if_false] at he
        exact absurd he (q i (by omega))
      · simp only [e, e2, if_false] at he
        exact p3 i j (by omega) (by omega) he
/-- the plates of a contract are different ones -/
def dsC (S : SS) : Prop := ∀ c, c < 20 → ∀ i j, i < (S 26 c).toNatClampNeg → j < (S 26 c).toNatClampNeg → S 27 (12 * c + i) = S 27 (12 * c + j) → i = j
theorem dpL_a {c : Nat} {p : Int32} : ∀ (m : Nat) (S : SS) (k l : Nat), l ≤ k → (∀ i, i < m → ¬ S 27 (12 * c + (k + i)) = p) → (dpL c p S k l m).2 = l + m ∧ (∀ i, i < m → (dpL c p S k l m).1 27 (12 * c + (l + i)) = S 27 (12 * c + (k + i))) ∧ (∀ j, j < 12 * c + l ∨ 12 * c + l + m ≤ j → (dpL c p S k l m).1 27 j = S 27 j) ∧ ∀ f, ¬ f = 27 → (dpL c p S k l m).1 f = S f := by
  intro m
  induction m with
  | zero => intro S k l _ _; exact ⟨rfl, fun i hi => by omega, fun _ _ => rfl, fun _ _ => rfl⟩
  | succ m ih =>
    intro S k l hl hn
    have h0 := hn 0 (by omega)
    rw [Nat.add_zero] at h0
    have key := ih (up S 27 (12 * c + l) (S 27 (12 * c + k))) (k + 1) (l + 1) (by omega) (fun i hi => by
      rw [up_ne _ _ (Or.inr (by omega))]
      have := hn (i + 1) (by omega)
      rw [show k + 1 + i = k + (i + 1) by omega]; exact this)
    rw [dpL, if_neg h0]
    obtain ⟨k1, k2, k3, k4⟩ := key
    refine ⟨by rw [k1]; omega, fun i hi => ?_, fun j hj => ?_, fun f hf => by rw [k4 f hf, upf (Ne.symm hf)]⟩
    · by_cases e : i = 0
      · subst e
        rw [k3 _ (Or.inl (by omega)), Nat.add_zero, up_same, Nat.add_zero]
      · have := k2 (i - 1) (by omega)
        rw [show l + 1 + (i - 1) = l + i by omega, show k + 1 + (i - 1) = k + i by omega, up_ne _ _ (Or.inr (by omega))] at this
        exact this
    · rw [k3 j (by omega), up_ne _ _ (Or.inr (by omega))]
theorem dpL_b {c : Nat} {p : Int32} : ∀ (m : Nat) (S : SS) (k m2 : Nat), (∀ i, i < m → ¬ S 27 (12 * c + (k + i)) = p) → dpL c p S k k (m + m2) = dpL c p S (k + m) (k + m) m2 := by
  intro m
  induction m with
  | zero => intro S k m2 _; rw [Nat.zero_add, Nat.add_zero]
  | succ m ih =>
    intro S k m2 hn
    have h0 := hn 0 (by omega)
    rw [Nat.add_zero] at h0
    have e : up S 27 (12 * c + k) (S 27 (12 * c + k)) = S := by
      funext f j
      rw [up_e]
      by_cases q : f = 27 ∧ j = 12 * c + k
      · rw [if_pos q, q.1, q.2]
      · rw [if_neg q]
    rw [show m + 1 + m2 = (m + m2) + 1 by omega, dpL, if_neg h0, e, ih S (k + 1) m2 (fun i hi => by
      have := hn (i + 1) (by omega)
      rw [show k + 1 + i = k + (i + 1) by omega]; exact this), show k + 1 + m = k + (m + 1) by omega]
/-- dropping the plate at place j0 -/
theorem sDrop_e {c n j0 : Nat} {p : Int32} (hc : c < 20) (hd : dsC S) (hn : S 26 c = nI n) (hn2 : n ≤ 12) (hj : j0 < n) (hp : S 27 (12 * c + j0) = p) : (∀ d, sDrop S c p 26 d = if d = c then nI (n - 1) else S 26 d) ∧ (∀ j, j < n - 1 → sDrop S c p 27 (12 * c + j) = if j < j0 then S 27 (12 * c + j) else S 27 (12 * c + (j + 1))) ∧ (∀ j, j < 12 * c ∨ 12 * c + n ≤ j → sDrop S c p 27 j = S 27 j) ∧ ∀ f, ¬ f = 26 → ¬ f = 27 → sDrop S c p f = S f := by
  have cn : (S 26 c).toNatClampNeg = n := by rw [hn]; exact nI_clamp (by omega)
  have ne : ∀ i, i < n → ¬ i = j0 → ¬ S 27 (12 * c + i) = p := fun i hi e z => e (hd c hc i j0 (by rw [cn]; exact hi) (by rw [cn]; exact hj) (z.trans hp.symm))
  have e1 : dpL c p S 0 0 n = dpL c p S (j0 + 1) j0 (n - 1 - j0) := by
    rw [show n = j0 + ((n - 1 - j0) + 1) by omega, dpL_b j0 S 0 _ (fun i hi => by rw [Nat.zero_add]; exact ne i (by omega) (by omega)), Nat.zero_add, dpL, if_pos hp, show j0 + (n - 1 - j0 + 1) - 1 - j0 = n - 1 - j0 by omega]
  obtain ⟨k1, k2, k3, k4⟩ := dpL_a (c := c) (p := p) (n - 1 - j0) S (j0 + 1) j0 (by omega) (fun i hi => ne _ (by omega) (by omega))
  have s27 : sDrop S c p 27 = (dpL c p S (j0 + 1) j0 (n - 1 - j0)).1 27 := by unfold sDrop; rw [cn, e1, upf (by decide)]
  refine ⟨fun d => ?_, fun j hj2 => ?_, fun j hj2 => ?_, fun f hf hf2 => ?_⟩
  · unfold sDrop
    rw [cn, e1, up_e, k1, k4 26 (by decide), show j0 + (n - 1 - j0) = n - 1 by omega]; simp
  · rw [s27]
    by_cases e : j < j0
    · rw [if_pos e, k3 _ (Or.inl (by omega))]
    · rw [if_neg e]
      have := k2 (j - j0) (by omega)
      rw [show j0 + (j - j0) = j by omega, show j0 + 1 + (j - j0) = j + 1 by omega] at this
      exact this
  · rw [s27, k3 j (by omega)]
  · unfold sDrop; rw [cn, e1, upf (Ne.symm hf), k4 f hf2]
theorem plS_drop {c n i0 : Nat} {p : Int32} {f : Nat → Int32} (hc : c < 20) (hd : dsC S) (hn : S 26 c = nI n) (hn2 : n ≤ 12) (hi : i0 < n) (hf : plS S c f) (hp : f i0 = p) : plS (sDrop S c p) c (fun k => if k = i0 then f (n - 1) else f k) ∧ ∃ j0, j0 < n ∧ S 27 (12 * c + j0) = p := by
  have cn : (S 26 c).toNatClampNeg = n := by rw [hn]; exact nI_clamp (by omega)
  unfold plS at hf
  rw [cn] at hf
  obtain ⟨p1, p2, p3⟩ := hf
  obtain ⟨j0, j1, j2⟩ := p1 i0 hi
  have hj0 : S 27 (12 * c + j0) = p := by rw [← j2]; exact hp
  refine ⟨?_, j0, j1, hj0⟩
  obtain ⟨d1, d2, d3, d4⟩ := sDrop_e hc hd hn hn2 j1 hj0
  have c1 : (sDrop S c p 26 c).toNatClampNeg = n - 1 := by rw [d1, if_pos rfl, nI_clamp (by omega)]
  have dm : ∀ i j, i < n → j < n → S 27 (12 * c + i) = S 27 (12 * c + j) → i = j := fun i j h1 h2 => hd c hc i j (by rw [cn]; exact h1) (by rw [cn]; exact h2)
  -- where the model keeps what stood at place j
  have mv : ∀ j, j < n → ¬ j = j0 → ∃ j', j' < n - 1 ∧ sDrop S c p 27 (12 * c + j') = S 27 (12 * c + j) := fun j hj hne => by
    by_cases e : j < j0
    · exact ⟨j, by omega, by rw [d2 j (by omega), if_pos e]⟩
    · exact ⟨j - 1, by omega, by rw [d2 (j - 1) (by omega), if_neg (by omega), show j - 1 + 1 = j by omega]⟩
  have mb : ∀ j', j' < n - 1 → ∃ j, j < n ∧ ¬ j = j0 ∧ sDrop S c p 27 (12 * c + j') = S 27 (12 * c + j) := fun j' hj => by
    by_cases e : j' < j0
    · exact ⟨j', by omega, by omega, by rw [d2 j' hj, if_pos e]⟩
    · exact ⟨j' + 1, by omega, by omega, by rw [d2 j' hj, if_neg e]⟩
  unfold plS
  rw [c1]
  -- which old place stands at i
  have g : ∀ i, i < n - 1 → ∃ i', i' < n ∧ ¬ i' = i0 ∧ (if i = i0 then f (n - 1) else f i) = f i' := fun i hi2 => by
    by_cases e : i = i0
    · exact ⟨n - 1, by omega, by omega, by rw [if_pos e]⟩
    · exact ⟨i, by omega, e, by rw [if_neg e]⟩
  refine ⟨fun i hi2 => ?_, fun j' hj' => ?_, fun i j hi2 hj2 he => ?_⟩
  · obtain ⟨i', g1, g2, g3⟩ := g i hi2
    obtain ⟨j, h1, h2⟩ := p1 i' g1
    have hne : ¬ j = j0 := fun z => by
      rw [z, hj0, ← hp] at h2
      exact g2 (p3 i' i0 g1 hi h2)
    obtain ⟨j', m1, m2⟩ := mv j h1 hne
    exact ⟨j', m1, by show (if i = i0 then f (n - 1) else f i) = _; rw [g3, m2]; exact h2⟩
  · obtain ⟨j, h1, h2, h3⟩ := mb j' hj'
    obtain ⟨i', h4, h5⟩ := p2 j h1
    have hne : ¬ i' = i0 := fun z => by
      rw [z, hp, ← hj0] at h5
      exact h2 (dm j j0 h1 j1 h5.symm)
    by_cases e : i' = n - 1
    · exact ⟨i0, by omega, by show (if i0 = i0 then f (n - 1) else f i0) = _; rw [if_pos rfl, h3, ← h5, e]⟩
    · exact ⟨i', by omega, by show (if i' = i0 then f (n - 1) else f i') = _; rw [if_neg hne, h3]; exact h5⟩
  · have he : (if i = i0 then f (n - 1) else f i) = (if j = i0 then f (n - 1) else f j) := he
    by_cases e1 : i = i0
    · by_cases e2 : j = i0
      · omega
      · rw [if_pos e1, if_neg e2] at he
        have := p3 _ _ (by omega) (by omega) he
        omega
    · by_cases e2 : j = i0
      · rw [if_neg e1, if_pos e2] at he
        have := p3 _ _ (by omega) (by omega) he
        omega
      · rw [if_neg e1, if_neg e2] at he
        exact p3 i j (by omega) (by omega) he
end CCO
