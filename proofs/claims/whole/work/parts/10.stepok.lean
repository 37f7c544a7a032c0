/-! ===== that a step's demand is enough ===== -/
section VS
variable {G : vg_G} {MT : Nat → vg_M} {M : vg_M} {uc us pc len : Nat} {ax : List Nat} {L : List (Option vg_V)} {st : List vg_V} {h : vg_H} {Q : vg_O → vg_H → Prop}
/-- the judgement at the next instruction, and at a target -/
abbrev vi_Kn (G : vg_G) (M : vg_M) (Q : vg_O → vg_H → Prop) (pc : Nat) : vi_K := fun uc us L st h => vg_A G M uc us pc L st h Q
abbrev vi_Jn (G : vg_G) (M : vg_M) (Q : vg_O → vg_H → Prop) : Nat → vi_K := fun t uc us L st h => vg_A G M uc us t L st h Q
theorem vi_o_ok {o : Option Nat} {K : Nat → Prop} (h : vi_o o K) : ∃ a, o = some a ∧ K a := by
  cases o with
  | none => exact h.elim
  | some a => exact ⟨a, rfl, h⟩

theorem vs_iadd  (hd : decode M.2.1 pc = .ok (.iadd, len)) (hk : vi_ok1 MT M (pc, len, .iadd, ax) = true) {K : vi_K} {J : Nat → vi_K} (hK : ∀ uc us L st h, K uc us L st h → vg_A G M uc us (pc + len) L st h Q) (hJ : ∀ t uc us L st h, J t uc us L st h → vg_A G M uc us t L st h Q) (hv : vi_1 G MT M (pc, len, .iadd, ax) uc us L st h Q K J) : vg_A G M uc us pc L st h Q := by
  simp only [vi_ok1, decide_eq_true_eq] at hk
  subst hk
  simp only [vi_1, vi_ii] at hv
  split at hv
  · exact vr_iadd hd (hK _ _ _ _ _ (hv _ rfl))
  · exact hv.elim
theorem vs_isub  (hd : decode M.2.1 pc = .ok (.isub, len)) (hk : vi_ok1 MT M (pc, len, .isub, ax) = true) {K : vi_K} {J : Nat → vi_K} (hK : ∀ uc us L st h, K uc us L st h → vg_A G M uc us (pc + len) L st h Q) (hJ : ∀ t uc us L st h, J t uc us L st h → vg_A G M uc us t L st h Q) (hv : vi_1 G MT M (pc, len, .isub, ax) uc us L st h Q K J) : vg_A G M uc us pc L st h Q := by
  simp only [vi_ok1, decide_eq_true_eq] at hk
  subst hk
  simp only [vi_1, vi_ii] at hv
  split at hv
  · exact vr_isub hd (hK _ _ _ _ _ (hv _ rfl))
  · exact hv.elim
theorem vs_imul  (hd : decode M.2.1 pc = .ok (.imul, len)) (hk : vi_ok1 MT M (pc, len, .imul, ax) = true) {K : vi_K} {J : Nat → vi_K} (hK : ∀ uc us L st h, K uc us L st h → vg_A G M uc us (pc + len) L st h Q) (hJ : ∀ t uc us L st h, J t uc us L st h → vg_A G M uc us t L st h Q) (hv : vi_1 G MT M (pc, len, .imul, ax) uc us L st h Q K J) : vg_A G M uc us pc L st h Q := by
  simp only [vi_ok1, decide_eq_true_eq] at hk
  subst hk
  simp only [vi_1, vi_ii] at hv
  split at hv
  · exact vr_imul hd (hK _ _ _ _ _ (hv _ rfl))
  · exact hv.elim
theorem vs_iand  (hd : decode M.2.1 pc = .ok (.iand, len)) (hk : vi_ok1 MT M (pc, len, .iand, ax) = true) {K : vi_K} {J : Nat → vi_K} (hK : ∀ uc us L st h, K uc us L st h → vg_A G M uc us (pc + len) L st h Q) (hJ : ∀ t uc us L st h, J t uc us L st h → vg_A G M uc us t L st h Q) (hv : vi_1 G MT M (pc, len, .iand, ax) uc us L st h Q K J) : vg_A G M uc us pc L st h Q := by
  simp only [vi_ok1, decide_eq_true_eq] at hk
  subst hk
  simp only [vi_1, vi_ii] at hv
  split at hv
  · exact vr_iand hd (hK _ _ _ _ _ (hv _ rfl))
  · exact hv.elim
theorem vs_idiv  (hd : decode M.2.1 pc = .ok (.idiv, len)) (hk : vi_ok1 MT M (pc, len, .idiv, ax) = true) {K : vi_K} {J : Nat → vi_K} (hK : ∀ uc us L st h, K uc us L st h → vg_A G M uc us (pc + len) L st h Q) (hJ : ∀ t uc us L st h, J t uc us L st h → vg_A G M uc us t L st h Q) (hv : vi_1 G MT M (pc, len, .idiv, ax) uc us L st h Q K J) : vg_A G M uc us pc L st h Q := by
  simp only [vi_ok1, decide_eq_true_eq] at hk
  subst hk
  simp only [vi_1, vi_ii] at hv
  split at hv
  · exact vr_idiv hd hv.1 (hK _ _ _ _ _ (hv.2 _ rfl))
  · exact hv.elim
theorem vs_irem  (hd : decode M.2.1 pc = .ok (.irem, len)) (hk : vi_ok1 MT M (pc, len, .irem, ax) = true) {K : vi_K} {J : Nat → vi_K} (hK : ∀ uc us L st h, K uc us L st h → vg_A G M uc us (pc + len) L st h Q) (hJ : ∀ t uc us L st h, J t uc us L st h → vg_A G M uc us t L st h Q) (hv : vi_1 G MT M (pc, len, .irem, ax) uc us L st h Q K J) : vg_A G M uc us pc L st h Q := by
  simp only [vi_ok1, decide_eq_true_eq] at hk
  subst hk
  simp only [vi_1, vi_ii] at hv
  split at hv
  · exact vr_irem hd hv.1 (hK _ _ _ _ _ (hv.2 _ rfl))
  · exact hv.elim
theorem vs_ineg  (hd : decode M.2.1 pc = .ok (.ineg, len)) (hk : vi_ok1 MT M (pc, len, .ineg, ax) = true) {K : vi_K} {J : Nat → vi_K} (hK : ∀ uc us L st h, K uc us L st h → vg_A G M uc us (pc + len) L st h Q) (hJ : ∀ t uc us L st h, J t uc us L st h → vg_A G M uc us t L st h Q) (hv : vi_1 G MT M (pc, len, .ineg, ax) uc us L st h Q K J) : vg_A G M uc us pc L st h Q := by
  simp only [vi_ok1, decide_eq_true_eq] at hk
  subst hk
  simp only [vi_1, vi_i] at hv
  split at hv
  · exact vr_ineg hd (hK _ _ _ _ _ (hv _ rfl))
  · exact hv.elim
theorem vs_ladd  (hd : decode M.2.1 pc = .ok (.ladd, len)) (hk : vi_ok1 MT M (pc, len, .ladd, ax) = true) {K : vi_K} {J : Nat → vi_K} (hK : ∀ uc us L st h, K uc us L st h → vg_A G M uc us (pc + len) L st h Q) (hJ : ∀ t uc us L st h, J t uc us L st h → vg_A G M uc us t L st h Q) (hv : vi_1 G MT M (pc, len, .ladd, ax) uc us L st h Q K J) : vg_A G M uc us pc L st h Q := by
  simp only [vi_ok1, decide_eq_true_eq] at hk
  subst hk
  simp only [vi_1, vi_jj] at hv
  split at hv
  · exact vr_ladd hd (hK _ _ _ _ _ (hv _ rfl))
  · exact hv.elim
theorem vs_lsub  (hd : decode M.2.1 pc = .ok (.lsub, len)) (hk : vi_ok1 MT M (pc, len, .lsub, ax) = true) {K : vi_K} {J : Nat → vi_K} (hK : ∀ uc us L st h, K uc us L st h → vg_A G M uc us (pc + len) L st h Q) (hJ : ∀ t uc us L st h, J t uc us L st h → vg_A G M uc us t L st h Q) (hv : vi_1 G MT M (pc, len, .lsub, ax) uc us L st h Q K J) : vg_A G M uc us pc L st h Q := by
  simp only [vi_ok1, decide_eq_true_eq] at hk
  subst hk
  simp only [vi_1, vi_jj] at hv
  split at hv
  · exact vr_lsub hd (hK _ _ _ _ _ (hv _ rfl))
  · exact hv.elim
theorem vs_land  (hd : decode M.2.1 pc = .ok (.land, len)) (hk : vi_ok1 MT M (pc, len, .land, ax) = true) {K : vi_K} {J : Nat → vi_K} (hK : ∀ uc us L st h, K uc us L st h → vg_A G M uc us (pc + len) L st h Q) (hJ : ∀ t uc us L st h, J t uc us L st h → vg_A G M uc us t L st h Q) (hv : vi_1 G MT M (pc, len, .land, ax) uc us L st h Q K J) : vg_A G M uc us pc L st h Q := by
  simp only [vi_ok1, decide_eq_true_eq] at hk
  subst hk
  simp only [vi_1, vi_jj] at hv
  split at hv
  · exact vr_land hd (hK _ _ _ _ _ (hv _ rfl))
  · exact hv.elim
theorem vs_lcmp  (hd : decode M.2.1 pc = .ok (.lcmp, len)) (hk : vi_ok1 MT M (pc, len, .lcmp, ax) = true) {K : vi_K} {J : Nat → vi_K} (hK : ∀ uc us L st h, K uc us L st h → vg_A G M uc us (pc + len) L st h Q) (hJ : ∀ t uc us L st h, J t uc us L st h → vg_A G M uc us t L st h Q) (hv : vi_1 G MT M (pc, len, .lcmp, ax) uc us L st h Q K J) : vg_A G M uc us pc L st h Q := by
  simp only [vi_ok1, decide_eq_true_eq] at hk
  subst hk
  simp only [vi_1, vi_jj] at hv
  split at hv
  · exact vr_lcmp hd (hK _ _ _ _ _ (hv _ rfl))
  · exact hv.elim
theorem vs_lshl  (hd : decode M.2.1 pc = .ok (.lshl, len)) (hk : vi_ok1 MT M (pc, len, .lshl, ax) = true) {K : vi_K} {J : Nat → vi_K} (hK : ∀ uc us L st h, K uc us L st h → vg_A G M uc us (pc + len) L st h Q) (hJ : ∀ t uc us L st h, J t uc us L st h → vg_A G M uc us t L st h Q) (hv : vi_1 G MT M (pc, len, .lshl, ax) uc us L st h Q K J) : vg_A G M uc us pc L st h Q := by
  simp only [vi_ok1, decide_eq_true_eq] at hk
  subst hk
  simp only [vi_1, vi_ij] at hv
  split at hv
  · exact vr_lshl hd (hK _ _ _ _ _ (hv _ rfl))
  · exact hv.elim
theorem vs_lshr  (hd : decode M.2.1 pc = .ok (.lshr, len)) (hk : vi_ok1 MT M (pc, len, .lshr, ax) = true) {K : vi_K} {J : Nat → vi_K} (hK : ∀ uc us L st h, K uc us L st h → vg_A G M uc us (pc + len) L st h Q) (hJ : ∀ t uc us L st h, J t uc us L st h → vg_A G M uc us t L st h Q) (hv : vi_1 G MT M (pc, len, .lshr, ax) uc us L st h Q K J) : vg_A G M uc us pc L st h Q := by
  simp only [vi_ok1, decide_eq_true_eq] at hk
  subst hk
  simp only [vi_1, vi_ij] at hv
  split at hv
  · exact vr_lshr hd (hK _ _ _ _ _ (hv _ rfl))
  · exact hv.elim
theorem vs_i2l  (hd : decode M.2.1 pc = .ok (.i2l, len)) (hk : vi_ok1 MT M (pc, len, .i2l, ax) = true) {K : vi_K} {J : Nat → vi_K} (hK : ∀ uc us L st h, K uc us L st h → vg_A G M uc us (pc + len) L st h Q) (hJ : ∀ t uc us L st h, J t uc us L st h → vg_A G M uc us t L st h Q) (hv : vi_1 G MT M (pc, len, .i2l, ax) uc us L st h Q K J) : vg_A G M uc us pc L st h Q := by
  simp only [vi_ok1, decide_eq_true_eq] at hk
  subst hk
  simp only [vi_1, vi_i] at hv
  split at hv
  · exact vr_i2l hd (hK _ _ _ _ _ (hv _ rfl))
  · exact hv.elim
theorem vs_l2i  (hd : decode M.2.1 pc = .ok (.l2i, len)) (hk : vi_ok1 MT M (pc, len, .l2i, ax) = true) {K : vi_K} {J : Nat → vi_K} (hK : ∀ uc us L st h, K uc us L st h → vg_A G M uc us (pc + len) L st h Q) (hJ : ∀ t uc us L st h, J t uc us L st h → vg_A G M uc us t L st h Q) (hv : vi_1 G MT M (pc, len, .l2i, ax) uc us L st h Q K J) : vg_A G M uc us pc L st h Q := by
  simp only [vi_ok1, decide_eq_true_eq] at hk
  subst hk
  simp only [vi_1, vi_j] at hv
  split at hv
  · exact vr_l2i hd (hK _ _ _ _ _ (hv _ rfl))
  · exact hv.elim
theorem vs_aconst_null  (hd : decode M.2.1 pc = .ok (.aconst_null, len)) (hk : vi_ok1 MT M (pc, len, .aconst_null, ax) = true) {K : vi_K} {J : Nat → vi_K} (hK : ∀ uc us L st h, K uc us L st h → vg_A G M uc us (pc + len) L st h Q) (hJ : ∀ t uc us L st h, J t uc us L st h → vg_A G M uc us t L st h Q) (hv : vi_1 G MT M (pc, len, .aconst_null, ax) uc us L st h Q K J) : vg_A G M uc us pc L st h Q := by
  simp only [vi_ok1, decide_eq_true_eq] at hk
  subst hk
  exact vr_null hd (hK _ _ _ _ _ hv)
theorem vs_iconst {n : Int} (hd : decode M.2.1 pc = .ok ((.iconst n), len)) (hk : vi_ok1 MT M (pc, len, (.iconst n), ax) = true) {K : vi_K} {J : Nat → vi_K} (hK : ∀ uc us L st h, K uc us L st h → vg_A G M uc us (pc + len) L st h Q) (hJ : ∀ t uc us L st h, J t uc us L st h → vg_A G M uc us t L st h Q) (hv : vi_1 G MT M (pc, len, (.iconst n), ax) uc us L st h Q K J) : vg_A G M uc us pc L st h Q := by
  match ax, hk, hv with
  | [v], hk, hv =>
    simp only [vi_ok1, Bool.and_eq_true, decide_eq_true_eq] at hk
    obtain ⟨rfl, h2⟩ := hk
    simp only [vi_1] at hv
    rw [← h2] at hv
    exact vr_iconst hd (hK _ _ _ _ _ hv)
  | [], hk, hv =>
    simp only [vi_ok1, Bool.and_eq_true, decide_eq_true_eq] at hk
    obtain ⟨rfl, rfl⟩ := hk
    exact vr_iconst hd (hK _ _ _ _ _ hv)
  | _ :: _ :: _, hk, hv =>
    simp only [vi_ok1, Bool.and_eq_true, decide_eq_true_eq] at hk
    obtain ⟨rfl, rfl⟩ := hk
    exact vr_iconst hd (hK _ _ _ _ _ hv)
theorem vs_bipush {n : Int} (hd : decode M.2.1 pc = .ok ((.bipush n), len)) (hk : vi_ok1 MT M (pc, len, (.bipush n), ax) = true) {K : vi_K} {J : Nat → vi_K} (hK : ∀ uc us L st h, K uc us L st h → vg_A G M uc us (pc + len) L st h Q) (hJ : ∀ t uc us L st h, J t uc us L st h → vg_A G M uc us t L st h Q) (hv : vi_1 G MT M (pc, len, (.bipush n), ax) uc us L st h Q K J) : vg_A G M uc us pc L st h Q := by
  match ax, hk, hv with
  | [v], hk, hv =>
    simp only [vi_ok1, Bool.and_eq_true, decide_eq_true_eq] at hk
    obtain ⟨rfl, h2⟩ := hk
    simp only [vi_1, List.headD] at hv
    rw [← h2] at hv
    exact vr_bipush hd (hK _ _ _ _ _ hv)
  | [], hk, hv => simp [vi_ok1] at hk
  | _ :: _ :: _, hk, hv => simp [vi_ok1] at hk
theorem vs_sipush {n : Int} (hd : decode M.2.1 pc = .ok ((.sipush n), len)) (hk : vi_ok1 MT M (pc, len, (.sipush n), ax) = true) {K : vi_K} {J : Nat → vi_K} (hK : ∀ uc us L st h, K uc us L st h → vg_A G M uc us (pc + len) L st h Q) (hJ : ∀ t uc us L st h, J t uc us L st h → vg_A G M uc us t L st h Q) (hv : vi_1 G MT M (pc, len, (.sipush n), ax) uc us L st h Q K J) : vg_A G M uc us pc L st h Q := by
  match ax, hk, hv with
  | [v], hk, hv =>
    simp only [vi_ok1, Bool.and_eq_true, decide_eq_true_eq] at hk
    obtain ⟨rfl, h2⟩ := hk
    simp only [vi_1, List.headD] at hv
    rw [← h2] at hv
    exact vr_sipush hd (hK _ _ _ _ _ hv)
  | [], hk, hv => simp [vi_ok1] at hk
  | _ :: _ :: _, hk, hv => simp [vi_ok1] at hk
theorem vs_lconst {n : Fin 2} (hd : decode M.2.1 pc = .ok ((.lconst n), len)) (hk : vi_ok1 MT M (pc, len, (.lconst n), ax) = true) {K : vi_K} {J : Nat → vi_K} (hK : ∀ uc us L st h, K uc us L st h → vg_A G M uc us (pc + len) L st h Q) (hJ : ∀ t uc us L st h, J t uc us L st h → vg_A G M uc us t L st h Q) (hv : vi_1 G MT M (pc, len, (.lconst n), ax) uc us L st h Q K J) : vg_A G M uc us pc L st h Q := by
  match ax, hk, hv with
  | [v], hk, hv =>
    simp only [vi_ok1, Bool.and_eq_true, decide_eq_true_eq] at hk
    obtain ⟨rfl, h2⟩ := hk
    simp only [vi_1, List.headD] at hv
    rw [← h2] at hv
    exact vr_lconst hd (hK _ _ _ _ _ hv)
  | [], hk, hv => simp [vi_ok1] at hk
  | _ :: _ :: _, hk, hv => simp [vi_ok1] at hk
theorem vs_ldc {n : Nat} (hd : decode M.2.1 pc = .ok ((.ldc n), len)) (hk : vi_ok1 MT M (pc, len, (.ldc n), ax) = true) {K : vi_K} {J : Nat → vi_K} (hK : ∀ uc us L st h, K uc us L st h → vg_A G M uc us (pc + len) L st h Q) (hJ : ∀ t uc us L st h, J t uc us L st h → vg_A G M uc us t L st h Q) (hv : vi_1 G MT M (pc, len, (.ldc n), ax) uc us L st h Q K J) : vg_A G M uc us pc L st h Q := by
  match ax, hk, hv with
  | [v, a], hk, hv =>
    simp only [vi_ok1, Bool.and_eq_true, decide_eq_true_eq] at hk
    obtain ⟨rfl, h2⟩ := hk
    simp only [vi_1, List.headD] at hv
    exact vr_ldc (vi_w_ok h2) hd (hK _ _ _ _ _ hv)
  | [], hk, hv => simp [vi_ok1] at hk
  | [_], hk, hv => simp [vi_ok1] at hk
  | _ :: _ :: _ :: _, hk, hv => simp [vi_ok1] at hk
theorem vs_ldc_w {n : Nat} (hd : decode M.2.1 pc = .ok ((.ldc_w n), len)) (hk : vi_ok1 MT M (pc, len, (.ldc_w n), ax) = true) {K : vi_K} {J : Nat → vi_K} (hK : ∀ uc us L st h, K uc us L st h → vg_A G M uc us (pc + len) L st h Q) (hJ : ∀ t uc us L st h, J t uc us L st h → vg_A G M uc us t L st h Q) (hv : vi_1 G MT M (pc, len, (.ldc_w n), ax) uc us L st h Q K J) : vg_A G M uc us pc L st h Q := by
  match ax, hk, hv with
  | [v, a], hk, hv =>
    simp only [vi_ok1, Bool.and_eq_true, decide_eq_true_eq] at hk
    obtain ⟨rfl, h2⟩ := hk
    simp only [vi_1, List.headD] at hv
    exact vr_ldcw (vi_w_ok h2) hd (hK _ _ _ _ _ hv)
  | [], hk, hv => simp [vi_ok1] at hk
  | [_], hk, hv => simp [vi_ok1] at hk
  | _ :: _ :: _ :: _, hk, hv => simp [vi_ok1] at hk
theorem vs_ldc2_w {n : Nat} (hd : decode M.2.1 pc = .ok ((.ldc2_w n), len)) (hk : vi_ok1 MT M (pc, len, (.ldc2_w n), ax) = true) {K : vi_K} {J : Nat → vi_K} (hK : ∀ uc us L st h, K uc us L st h → vg_A G M uc us (pc + len) L st h Q) (hJ : ∀ t uc us L st h, J t uc us L st h → vg_A G M uc us t L st h Q) (hv : vi_1 G MT M (pc, len, (.ldc2_w n), ax) uc us L st h Q K J) : vg_A G M uc us pc L st h Q := by
  match ax, hk, hv with
  | [v, a], hk, hv =>
    simp only [vi_ok1, Bool.and_eq_true, decide_eq_true_eq] at hk
    obtain ⟨rfl, h2⟩ := hk
    simp only [vi_1, List.headD] at hv
    exact vr_ldc2 (vi_w_ok h2) hd (hK _ _ _ _ _ hv)
  | [], hk, hv => simp [vi_ok1] at hk
  | [_], hk, hv => simp [vi_ok1] at hk
  | _ :: _ :: _ :: _, hk, hv => simp [vi_ok1] at hk
theorem vs_iload {n : Nat} (hd : decode M.2.1 pc = .ok ((.iload n), len)) (hk : vi_ok1 MT M (pc, len, (.iload n), ax) = true) {K : vi_K} {J : Nat → vi_K} (hK : ∀ uc us L st h, K uc us L st h → vg_A G M uc us (pc + len) L st h Q) (hJ : ∀ t uc us L st h, J t uc us L st h → vg_A G M uc us t L st h Q) (hv : vi_1 G MT M (pc, len, (.iload n), ax) uc us L st h Q K J) : vg_A G M uc us pc L st h Q := by
  match ax, hk, hv with
  | [j], hk, hv =>
    simp only [vi_ok1, Bool.and_eq_true, decide_eq_true_eq] at hk
    obtain ⟨rfl, rfl⟩ := hk
    simp only [vi_1, vi_li, List.headD] at hv
    split at hv
    · rename_i heq
      exact vr_iload hd (vi_lk_at _ _ _ heq) (hK _ _ _ _ _ hv)
    · exact hv.elim
  | [], hk, hv => simp [vi_ok1] at hk
  | _ :: _ :: _, hk, hv => simp [vi_ok1] at hk
theorem vs_iload_n {n : Fin 4} (hd : decode M.2.1 pc = .ok ((.iload_n n), len)) (hk : vi_ok1 MT M (pc, len, (.iload_n n), ax) = true) {K : vi_K} {J : Nat → vi_K} (hK : ∀ uc us L st h, K uc us L st h → vg_A G M uc us (pc + len) L st h Q) (hJ : ∀ t uc us L st h, J t uc us L st h → vg_A G M uc us t L st h Q) (hv : vi_1 G MT M (pc, len, (.iload_n n), ax) uc us L st h Q K J) : vg_A G M uc us pc L st h Q := by
  match ax, hk, hv with
  | [j], hk, hv =>
    simp only [vi_ok1, Bool.and_eq_true, decide_eq_true_eq] at hk
    obtain ⟨rfl, rfl⟩ := hk
    simp only [vi_1, vi_li, List.headD] at hv
    split at hv
    · rename_i heq
      exact vr_iload_n hd (vi_lk_at _ _ _ heq) (hK _ _ _ _ _ hv)
    · exact hv.elim
  | [], hk, hv => simp [vi_ok1] at hk
  | _ :: _ :: _, hk, hv => simp [vi_ok1] at hk
theorem vs_lload {n : Nat} (hd : decode M.2.1 pc = .ok ((.lload n), len)) (hk : vi_ok1 MT M (pc, len, (.lload n), ax) = true) {K : vi_K} {J : Nat → vi_K} (hK : ∀ uc us L st h, K uc us L st h → vg_A G M uc us (pc + len) L st h Q) (hJ : ∀ t uc us L st h, J t uc us L st h → vg_A G M uc us t L st h Q) (hv : vi_1 G MT M (pc, len, (.lload n), ax) uc us L st h Q K J) : vg_A G M uc us pc L st h Q := by
  match ax, hk, hv with
  | [j], hk, hv =>
    simp only [vi_ok1, Bool.and_eq_true, decide_eq_true_eq] at hk
    obtain ⟨rfl, rfl⟩ := hk
    simp only [vi_1, vi_ll, List.headD] at hv
    split at hv
    · rename_i heq
      exact vr_lload hd (vi_lk_at _ _ _ heq) (hK _ _ _ _ _ hv)
    · exact hv.elim
  | [], hk, hv => simp [vi_ok1] at hk
  | _ :: _ :: _, hk, hv => simp [vi_ok1] at hk
theorem vs_lload_n {n : Fin 4} (hd : decode M.2.1 pc = .ok ((.lload_n n), len)) (hk : vi_ok1 MT M (pc, len, (.lload_n n), ax) = true) {K : vi_K} {J : Nat → vi_K} (hK : ∀ uc us L st h, K uc us L st h → vg_A G M uc us (pc + len) L st h Q) (hJ : ∀ t uc us L st h, J t uc us L st h → vg_A G M uc us t L st h Q) (hv : vi_1 G MT M (pc, len, (.lload_n n), ax) uc us L st h Q K J) : vg_A G M uc us pc L st h Q := by
  match ax, hk, hv with
  | [j], hk, hv =>
    simp only [vi_ok1, Bool.and_eq_true, decide_eq_true_eq] at hk
    obtain ⟨rfl, rfl⟩ := hk
    simp only [vi_1, vi_ll, List.headD] at hv
    split at hv
    · rename_i heq
      exact vr_lload_n hd (vi_lk_at _ _ _ heq) (hK _ _ _ _ _ hv)
    · exact hv.elim
  | [], hk, hv => simp [vi_ok1] at hk
  | _ :: _ :: _, hk, hv => simp [vi_ok1] at hk
theorem vs_aload {n : Nat} (hd : decode M.2.1 pc = .ok ((.aload n), len)) (hk : vi_ok1 MT M (pc, len, (.aload n), ax) = true) {K : vi_K} {J : Nat → vi_K} (hK : ∀ uc us L st h, K uc us L st h → vg_A G M uc us (pc + len) L st h Q) (hJ : ∀ t uc us L st h, J t uc us L st h → vg_A G M uc us t L st h Q) (hv : vi_1 G MT M (pc, len, (.aload n), ax) uc us L st h Q K J) : vg_A G M uc us pc L st h Q := by
  match ax, hk, hv with
  | [j], hk, hv =>
    simp only [vi_ok1, Bool.and_eq_true, decide_eq_true_eq] at hk
    obtain ⟨rfl, rfl⟩ := hk
    simp only [vi_1, vi_lr, List.headD] at hv
    split at hv
    · rename_i heq
      exact vr_aload hd (vi_lk_at _ _ _ heq) (hK _ _ _ _ _ hv)
    · exact hv.elim
  | [], hk, hv => simp [vi_ok1] at hk
  | _ :: _ :: _, hk, hv => simp [vi_ok1] at hk
theorem vs_aload_n {n : Fin 4} (hd : decode M.2.1 pc = .ok ((.aload_n n), len)) (hk : vi_ok1 MT M (pc, len, (.aload_n n), ax) = true) {K : vi_K} {J : Nat → vi_K} (hK : ∀ uc us L st h, K uc us L st h → vg_A G M uc us (pc + len) L st h Q) (hJ : ∀ t uc us L st h, J t uc us L st h → vg_A G M uc us t L st h Q) (hv : vi_1 G MT M (pc, len, (.aload_n n), ax) uc us L st h Q K J) : vg_A G M uc us pc L st h Q := by
  match ax, hk, hv with
  | [j], hk, hv =>
    simp only [vi_ok1, Bool.and_eq_true, decide_eq_true_eq] at hk
    obtain ⟨rfl, rfl⟩ := hk
    simp only [vi_1, vi_lr, List.headD] at hv
    split at hv
    · rename_i heq
      exact vr_aload_n hd (vi_lk_at _ _ _ heq) (hK _ _ _ _ _ hv)
    · exact hv.elim
  | [], hk, hv => simp [vi_ok1] at hk
  | _ :: _ :: _, hk, hv => simp [vi_ok1] at hk
theorem vs_istore {n : Nat} (hd : decode M.2.1 pc = .ok ((.istore n), len)) (hk : vi_ok1 MT M (pc, len, (.istore n), ax) = true) {K : vi_K} {J : Nat → vi_K} (hK : ∀ uc us L st h, K uc us L st h → vg_A G M uc us (pc + len) L st h Q) (hJ : ∀ t uc us L st h, J t uc us L st h → vg_A G M uc us t L st h Q) (hv : vi_1 G MT M (pc, len, (.istore n), ax) uc us L st h Q K J) : vg_A G M uc us pc L st h Q := by
  match ax, hk, hv with
  | [j], hk, hv =>
    simp only [vi_ok1, Bool.and_eq_true, decide_eq_true_eq] at hk
    obtain ⟨⟨rfl, rfl⟩, h3⟩ := hk
    simp only [vi_1, vi_i, List.headD] at hv
    split at hv
    · exact vr_istore hd h3 (hK _ _ _ _ _ hv)
    · exact hv.elim
  | [], hk, hv => simp [vi_ok1] at hk
  | _ :: _ :: _, hk, hv => simp [vi_ok1] at hk
theorem vs_istore_n {n : Fin 4} (hd : decode M.2.1 pc = .ok ((.istore_n n), len)) (hk : vi_ok1 MT M (pc, len, (.istore_n n), ax) = true) {K : vi_K} {J : Nat → vi_K} (hK : ∀ uc us L st h, K uc us L st h → vg_A G M uc us (pc + len) L st h Q) (hJ : ∀ t uc us L st h, J t uc us L st h → vg_A G M uc us t L st h Q) (hv : vi_1 G MT M (pc, len, (.istore_n n), ax) uc us L st h Q K J) : vg_A G M uc us pc L st h Q := by
  match ax, hk, hv with
  | [j], hk, hv =>
    simp only [vi_ok1, Bool.and_eq_true, decide_eq_true_eq] at hk
    obtain ⟨⟨rfl, rfl⟩, h3⟩ := hk
    simp only [vi_1, vi_i, List.headD] at hv
    split at hv
    · exact vr_istore_n hd h3 (hK _ _ _ _ _ hv)
    · exact hv.elim
  | [], hk, hv => simp [vi_ok1] at hk
  | _ :: _ :: _, hk, hv => simp [vi_ok1] at hk
theorem vs_lstore {n : Nat} (hd : decode M.2.1 pc = .ok ((.lstore n), len)) (hk : vi_ok1 MT M (pc, len, (.lstore n), ax) = true) {K : vi_K} {J : Nat → vi_K} (hK : ∀ uc us L st h, K uc us L st h → vg_A G M uc us (pc + len) L st h Q) (hJ : ∀ t uc us L st h, J t uc us L st h → vg_A G M uc us t L st h Q) (hv : vi_1 G MT M (pc, len, (.lstore n), ax) uc us L st h Q K J) : vg_A G M uc us pc L st h Q := by
  match ax, hk, hv with
  | [j], hk, hv =>
    simp only [vi_ok1, Bool.and_eq_true, decide_eq_true_eq] at hk
    obtain ⟨⟨rfl, rfl⟩, h3⟩ := hk
    simp only [vi_1, vi_j, List.headD] at hv
    split at hv
    · exact vr_lstore hd h3 (hK _ _ _ _ _ hv)
    · exact hv.elim
  | [], hk, hv => simp [vi_ok1] at hk
  | _ :: _ :: _, hk, hv => simp [vi_ok1] at hk
theorem vs_lstore_n {n : Fin 4} (hd : decode M.2.1 pc = .ok ((.lstore_n n), len)) (hk : vi_ok1 MT M (pc, len, (.lstore_n n), ax) = true) {K : vi_K} {J : Nat → vi_K} (hK : ∀ uc us L st h, K uc us L st h → vg_A G M uc us (pc + len) L st h Q) (hJ : ∀ t uc us L st h, J t uc us L st h → vg_A G M uc us t L st h Q) (hv : vi_1 G MT M (pc, len, (.lstore_n n), ax) uc us L st h Q K J) : vg_A G M uc us pc L st h Q := by
  match ax, hk, hv with
  | [j], hk, hv =>
    simp only [vi_ok1, Bool.and_eq_true, decide_eq_true_eq] at hk
    obtain ⟨⟨rfl, rfl⟩, h3⟩ := hk
    simp only [vi_1, vi_j, List.headD] at hv
    split at hv
    · exact vr_lstore_n hd h3 (hK _ _ _ _ _ hv)
    · exact hv.elim
  | [], hk, hv => simp [vi_ok1] at hk
  | _ :: _ :: _, hk, hv => simp [vi_ok1] at hk
theorem vs_astore {n : Nat} (hd : decode M.2.1 pc = .ok ((.astore n), len)) (hk : vi_ok1 MT M (pc, len, (.astore n), ax) = true) {K : vi_K} {J : Nat → vi_K} (hK : ∀ uc us L st h, K uc us L st h → vg_A G M uc us (pc + len) L st h Q) (hJ : ∀ t uc us L st h, J t uc us L st h → vg_A G M uc us t L st h Q) (hv : vi_1 G MT M (pc, len, (.astore n), ax) uc us L st h Q K J) : vg_A G M uc us pc L st h Q := by
  match ax, hk, hv with
  | [j], hk, hv =>
    simp only [vi_ok1, Bool.and_eq_true, decide_eq_true_eq] at hk
    obtain ⟨⟨rfl, rfl⟩, h3⟩ := hk
    simp only [vi_1, vi_r, List.headD] at hv
    split at hv
    · exact vr_astore hd h3 (hK _ _ _ _ _ hv)
    · exact hv.elim
  | [], hk, hv => simp [vi_ok1] at hk
  | _ :: _ :: _, hk, hv => simp [vi_ok1] at hk
theorem vs_astore_n {n : Fin 4} (hd : decode M.2.1 pc = .ok ((.astore_n n), len)) (hk : vi_ok1 MT M (pc, len, (.astore_n n), ax) = true) {K : vi_K} {J : Nat → vi_K} (hK : ∀ uc us L st h, K uc us L st h → vg_A G M uc us (pc + len) L st h Q) (hJ : ∀ t uc us L st h, J t uc us L st h → vg_A G M uc us t L st h Q) (hv : vi_1 G MT M (pc, len, (.astore_n n), ax) uc us L st h Q K J) : vg_A G M uc us pc L st h Q := by
  match ax, hk, hv with
  | [j], hk, hv =>
    simp only [vi_ok1, Bool.and_eq_true, decide_eq_true_eq] at hk
    obtain ⟨⟨rfl, rfl⟩, h3⟩ := hk
    simp only [vi_1, vi_r, List.headD] at hv
    split at hv
    · exact vr_astore_n hd h3 (hK _ _ _ _ _ hv)
    · exact hv.elim
  | [], hk, hv => simp [vi_ok1] at hk
  | _ :: _ :: _, hk, hv => simp [vi_ok1] at hk
theorem vs_iinc {n : Nat} {d : Int} (hd : decode M.2.1 pc = .ok ((.iinc n d), len)) (hk : vi_ok1 MT M (pc, len, (.iinc n d), ax) = true) {K : vi_K} {J : Nat → vi_K} (hK : ∀ uc us L st h, K uc us L st h → vg_A G M uc us (pc + len) L st h Q) (hJ : ∀ t uc us L st h, J t uc us L st h → vg_A G M uc us t L st h Q) (hv : vi_1 G MT M (pc, len, (.iinc n d), ax) uc us L st h Q K J) : vg_A G M uc us pc L st h Q := by
  simp only [vi_ok1, Bool.and_eq_true, Bool.or_eq_true, decide_eq_true_eq] at hk
  obtain ⟨h1, h3⟩ := hk
  simp only [vi_1, vi_li] at hv
  split at hv
  · rename_i heq
    rcases h1 with rfl | rfl
    · exact vr_iinc hd h3 (vi_lk_at _ _ _ heq) (hK _ _ _ _ _ (hv _ rfl))
    · exact vr_iincW hd h3 (vi_lk_at _ _ _ heq) (hK _ _ _ _ _ (hv _ rfl))
  · exact hv.elim
theorem vs_dup  (hd : decode M.2.1 pc = .ok (.dup, len)) (hk : vi_ok1 MT M (pc, len, .dup, ax) = true) {K : vi_K} {J : Nat → vi_K} (hK : ∀ uc us L st h, K uc us L st h → vg_A G M uc us (pc + len) L st h Q) (hJ : ∀ t uc us L st h, J t uc us L st h → vg_A G M uc us t L st h Q) (hv : vi_1 G MT M (pc, len, .dup, ax) uc us L st h Q K J) : vg_A G M uc us pc L st h Q := by
  simp only [vi_ok1, decide_eq_true_eq] at hk
  subst hk
  simp only [vi_1] at hv
  split at hv
  · exact vr_dupI hd (hK _ _ _ _ _ hv)
  · exact vr_dupR hd (hK _ _ _ _ _ hv)
  · exact hv.elim
theorem vs_dup2  (hd : decode M.2.1 pc = .ok (.dup2, len)) (hk : vi_ok1 MT M (pc, len, .dup2, ax) = true) {K : vi_K} {J : Nat → vi_K} (hK : ∀ uc us L st h, K uc us L st h → vg_A G M uc us (pc + len) L st h Q) (hJ : ∀ t uc us L st h, J t uc us L st h → vg_A G M uc us t L st h Q) (hv : vi_1 G MT M (pc, len, .dup2, ax) uc us L st h Q K J) : vg_A G M uc us pc L st h Q := by
  simp only [vi_ok1, decide_eq_true_eq] at hk
  subst hk
  simp only [vi_1] at hv
  split at hv
  · exact vr_dup2 (fun z hz => by cases hz) (fun z hz => by cases hz) hd (hK _ _ _ _ _ hv)
  · exact hv.elim
theorem vs_if_eq {off : Int} (hd : decode M.2.1 pc = .ok ((.ifCond .eq off), len)) (hk : vi_ok1 MT M (pc, len, (.ifCond .eq off), ax) = true) {K : vi_K} {J : Nat → vi_K} (hK : ∀ uc us L st h, K uc us L st h → vg_A G M uc us (pc + len) L st h Q) (hJ : ∀ t uc us L st h, J t uc us L st h → vg_A G M uc us t L st h Q) (hv : vi_1 G MT M (pc, len, (.ifCond .eq off), ax) uc us L st h Q K J) : vg_A G M uc us pc L st h Q := by
  match ax, hk, hv with
  | [t], hk, hv =>
    simp only [vi_ok1, Bool.and_eq_true, decide_eq_true_eq] at hk
    obtain ⟨rfl, h2⟩ := hk
    simp only [vi_1, vi_i, List.headD] at hv
    split at hv
    · exact vr_if_eq hd h2 ⟨fun z => hJ _ _ _ _ _ _ (hv.1 z), fun z => hK _ _ _ _ _ (hv.2 z)⟩
    · exact hv.elim
  | [], hk, hv => simp [vi_ok1] at hk
  | _ :: _ :: _, hk, hv => simp [vi_ok1] at hk
theorem vs_icmp_eq {off : Int} (hd : decode M.2.1 pc = .ok ((.if_icmp .eq off), len)) (hk : vi_ok1 MT M (pc, len, (.if_icmp .eq off), ax) = true) {K : vi_K} {J : Nat → vi_K} (hK : ∀ uc us L st h, K uc us L st h → vg_A G M uc us (pc + len) L st h Q) (hJ : ∀ t uc us L st h, J t uc us L st h → vg_A G M uc us t L st h Q) (hv : vi_1 G MT M (pc, len, (.if_icmp .eq off), ax) uc us L st h Q K J) : vg_A G M uc us pc L st h Q := by
  match ax, hk, hv with
  | [t], hk, hv =>
    simp only [vi_ok1, Bool.and_eq_true, decide_eq_true_eq] at hk
    obtain ⟨rfl, h2⟩ := hk
    simp only [vi_1, vi_ii, List.headD] at hv
    split at hv
    · exact vr_icmp_eq hd h2 ⟨fun z => hJ _ _ _ _ _ _ (hv.1 z), fun z => hK _ _ _ _ _ (hv.2 z)⟩
    · exact hv.elim
  | [], hk, hv => simp [vi_ok1] at hk
  | _ :: _ :: _, hk, hv => simp [vi_ok1] at hk
theorem vs_if_ne {off : Int} (hd : decode M.2.1 pc = .ok ((.ifCond .ne off), len)) (hk : vi_ok1 MT M (pc, len, (.ifCond .ne off), ax) = true) {K : vi_K} {J : Nat → vi_K} (hK : ∀ uc us L st h, K uc us L st h → vg_A G M uc us (pc + len) L st h Q) (hJ : ∀ t uc us L st h, J t uc us L st h → vg_A G M uc us t L st h Q) (hv : vi_1 G MT M (pc, len, (.ifCond .ne off), ax) uc us L st h Q K J) : vg_A G M uc us pc L st h Q := by
  match ax, hk, hv with
  | [t], hk, hv =>
    simp only [vi_ok1, Bool.and_eq_true, decide_eq_true_eq] at hk
    obtain ⟨rfl, h2⟩ := hk
    simp only [vi_1, vi_i, List.headD] at hv
    split at hv
    · exact vr_if_ne hd h2 ⟨fun z => hJ _ _ _ _ _ _ (hv.1 z), fun z => hK _ _ _ _ _ (hv.2 z)⟩
    · exact hv.elim
  | [], hk, hv => simp [vi_ok1] at hk
  | _ :: _ :: _, hk, hv => simp [vi_ok1] at hk
theorem vs_icmp_ne {off : Int} (hd : decode M.2.1 pc = .ok ((.if_icmp .ne off), len)) (hk : vi_ok1 MT M (pc, len, (.if_icmp .ne off), ax) = true) {K : vi_K} {J : Nat → vi_K} (hK : ∀ uc us L st h, K uc us L st h → vg_A G M uc us (pc + len) L st h Q) (hJ : ∀ t uc us L st h, J t uc us L st h → vg_A G M uc us t L st h Q) (hv : vi_1 G MT M (pc, len, (.if_icmp .ne off), ax) uc us L st h Q K J) : vg_A G M uc us pc L st h Q := by
  match ax, hk, hv with
  | [t], hk, hv =>
    simp only [vi_ok1, Bool.and_eq_true, decide_eq_true_eq] at hk
    obtain ⟨rfl, h2⟩ := hk
    simp only [vi_1, vi_ii, List.headD] at hv
    split at hv
    · exact vr_icmp_ne hd h2 ⟨fun z => hJ _ _ _ _ _ _ (hv.1 z), fun z => hK _ _ _ _ _ (hv.2 z)⟩
    · exact hv.elim
  | [], hk, hv => simp [vi_ok1] at hk
  | _ :: _ :: _, hk, hv => simp [vi_ok1] at hk
theorem vs_if_lt {off : Int} (hd : decode M.2.1 pc = .ok ((.ifCond .lt off), len)) (hk : vi_ok1 MT M (pc, len, (.ifCond .lt off), ax) = true) {K : vi_K} {J : Nat → vi_K} (hK : ∀ uc us L st h, K uc us L st h → vg_A G M uc us (pc + len) L st h Q) (hJ : ∀ t uc us L st h, J t uc us L st h → vg_A G M uc us t L st h Q) (hv : vi_1 G MT M (pc, len, (.ifCond .lt off), ax) uc us L st h Q K J) : vg_A G M uc us pc L st h Q := by
  match ax, hk, hv with
  | [t], hk, hv =>
    simp only [vi_ok1, Bool.and_eq_true, decide_eq_true_eq] at hk
    obtain ⟨rfl, h2⟩ := hk
    simp only [vi_1, vi_i, List.headD] at hv
    split at hv
    · exact vr_if_lt hd h2 ⟨fun z => hJ _ _ _ _ _ _ (hv.1 z), fun z => hK _ _ _ _ _ (hv.2 z)⟩
    · exact hv.elim
  | [], hk, hv => simp [vi_ok1] at hk
  | _ :: _ :: _, hk, hv => simp [vi_ok1] at hk
theorem vs_icmp_lt {off : Int} (hd : decode M.2.1 pc = .ok ((.if_icmp .lt off), len)) (hk : vi_ok1 MT M (pc, len, (.if_icmp .lt off), ax) = true) {K : vi_K} {J : Nat → vi_K} (hK : ∀ uc us L st h, K uc us L st h → vg_A G M uc us (pc + len) L st h Q) (hJ : ∀ t uc us L st h, J t uc us L st h → vg_A G M uc us t L st h Q) (hv : vi_1 G MT M (pc, len, (.if_icmp .lt off), ax) uc us L st h Q K J) : vg_A G M uc us pc L st h Q := by
  match ax, hk, hv with
  | [t], hk, hv =>
    simp only [vi_ok1, Bool.and_eq_true, decide_eq_true_eq] at hk
    obtain ⟨rfl, h2⟩ := hk
    simp only [vi_1, vi_ii, List.headD] at hv
    split at hv
    · exact vr_icmp_lt hd h2 ⟨fun z => hJ _ _ _ _ _ _ (hv.1 z), fun z => hK _ _ _ _ _ (hv.2 z)⟩
    · exact hv.elim
  | [], hk, hv => simp [vi_ok1] at hk
  | _ :: _ :: _, hk, hv => simp [vi_ok1] at hk
theorem vs_if_ge {off : Int} (hd : decode M.2.1 pc = .ok ((.ifCond .ge off), len)) (hk : vi_ok1 MT M (pc, len, (.ifCond .ge off), ax) = true) {K : vi_K} {J : Nat → vi_K} (hK : ∀ uc us L st h, K uc us L st h → vg_A G M uc us (pc + len) L st h Q) (hJ : ∀ t uc us L st h, J t uc us L st h → vg_A G M uc us t L st h Q) (hv : vi_1 G MT M (pc, len, (.ifCond .ge off), ax) uc us L st h Q K J) : vg_A G M uc us pc L st h Q := by
  match ax, hk, hv with
  | [t], hk, hv =>
    simp only [vi_ok1, Bool.and_eq_true, decide_eq_true_eq] at hk
    obtain ⟨rfl, h2⟩ := hk
    simp only [vi_1, vi_i, List.headD] at hv
    split at hv
    · exact vr_if_ge hd h2 ⟨fun z => hJ _ _ _ _ _ _ (hv.1 z), fun z => hK _ _ _ _ _ (hv.2 z)⟩
    · exact hv.elim
  | [], hk, hv => simp [vi_ok1] at hk
  | _ :: _ :: _, hk, hv => simp [vi_ok1] at hk
theorem vs_icmp_ge {off : Int} (hd : decode M.2.1 pc = .ok ((.if_icmp .ge off), len)) (hk : vi_ok1 MT M (pc, len, (.if_icmp .ge off), ax) = true) {K : vi_K} {J : Nat → vi_K} (hK : ∀ uc us L st h, K uc us L st h → vg_A G M uc us (pc + len) L st h Q) (hJ : ∀ t uc us L st h, J t uc us L st h → vg_A G M uc us t L st h Q) (hv : vi_1 G MT M (pc, len, (.if_icmp .ge off), ax) uc us L st h Q K J) : vg_A G M uc us pc L st h Q := by
  match ax, hk, hv with
  | [t], hk, hv =>
    simp only [vi_ok1, Bool.and_eq_true, decide_eq_true_eq] at hk
    obtain ⟨rfl, h2⟩ := hk
    simp only [vi_1, vi_ii, List.headD] at hv
    split at hv
    · exact vr_icmp_ge hd h2 ⟨fun z => hJ _ _ _ _ _ _ (hv.1 z), fun z => hK _ _ _ _ _ (hv.2 z)⟩
    · exact hv.elim
  | [], hk, hv => simp [vi_ok1] at hk
  | _ :: _ :: _, hk, hv => simp [vi_ok1] at hk
theorem vs_if_gt {off : Int} (hd : decode M.2.1 pc = .ok ((.ifCond .gt off), len)) (hk : vi_ok1 MT M (pc, len, (.ifCond .gt off), ax) = true) {K : vi_K} {J : Nat → vi_K} (hK : ∀ uc us L st h, K uc us L st h → vg_A G M uc us (pc + len) L st h Q) (hJ : ∀ t uc us L st h, J t uc us L st h → vg_A G M uc us t L st h Q) (hv : vi_1 G MT M (pc, len, (.ifCond .gt off), ax) uc us L st h Q K J) : vg_A G M uc us pc L st h Q := by
  match ax, hk, hv with
  | [t], hk, hv =>
    simp only [vi_ok1, Bool.and_eq_true, decide_eq_true_eq] at hk
    obtain ⟨rfl, h2⟩ := hk
    simp only [vi_1, vi_i, List.headD] at hv
    split at hv
    · exact vr_if_gt hd h2 ⟨fun z => hJ _ _ _ _ _ _ (hv.1 z), fun z => hK _ _ _ _ _ (hv.2 z)⟩
    · exact hv.elim
  | [], hk, hv => simp [vi_ok1] at hk
  | _ :: _ :: _, hk, hv => simp [vi_ok1] at hk
theorem vs_icmp_gt {off : Int} (hd : decode M.2.1 pc = .ok ((.if_icmp .gt off), len)) (hk : vi_ok1 MT M (pc, len, (.if_icmp .gt off), ax) = true) {K : vi_K} {J : Nat → vi_K} (hK : ∀ uc us L st h, K uc us L st h → vg_A G M uc us (pc + len) L st h Q) (hJ : ∀ t uc us L st h, J t uc us L st h → vg_A G M uc us t L st h Q) (hv : vi_1 G MT M (pc, len, (.if_icmp .gt off), ax) uc us L st h Q K J) : vg_A G M uc us pc L st h Q := by
  match ax, hk, hv with
  | [t], hk, hv =>
    simp only [vi_ok1, Bool.and_eq_true, decide_eq_true_eq] at hk
    obtain ⟨rfl, h2⟩ := hk
    simp only [vi_1, vi_ii, List.headD] at hv
    split at hv
    · exact vr_icmp_gt hd h2 ⟨fun z => hJ _ _ _ _ _ _ (hv.1 z), fun z => hK _ _ _ _ _ (hv.2 z)⟩
    · exact hv.elim
  | [], hk, hv => simp [vi_ok1] at hk
  | _ :: _ :: _, hk, hv => simp [vi_ok1] at hk
theorem vs_if_le {off : Int} (hd : decode M.2.1 pc = .ok ((.ifCond .le off), len)) (hk : vi_ok1 MT M (pc, len, (.ifCond .le off), ax) = true) {K : vi_K} {J : Nat → vi_K} (hK : ∀ uc us L st h, K uc us L st h → vg_A G M uc us (pc + len) L st h Q) (hJ : ∀ t uc us L st h, J t uc us L st h → vg_A G M uc us t L st h Q) (hv : vi_1 G MT M (pc, len, (.ifCond .le off), ax) uc us L st h Q K J) : vg_A G M uc us pc L st h Q := by
  match ax, hk, hv with
  | [t], hk, hv =>
    simp only [vi_ok1, Bool.and_eq_true, decide_eq_true_eq] at hk
    obtain ⟨rfl, h2⟩ := hk
    simp only [vi_1, vi_i, List.headD] at hv
    split at hv
    · exact vr_if_le hd h2 ⟨fun z => hJ _ _ _ _ _ _ (hv.1 z), fun z => hK _ _ _ _ _ (hv.2 z)⟩
    · exact hv.elim
  | [], hk, hv => simp [vi_ok1] at hk
  | _ :: _ :: _, hk, hv => simp [vi_ok1] at hk
theorem vs_icmp_le {off : Int} (hd : decode M.2.1 pc = .ok ((.if_icmp .le off), len)) (hk : vi_ok1 MT M (pc, len, (.if_icmp .le off), ax) = true) {K : vi_K} {J : Nat → vi_K} (hK : ∀ uc us L st h, K uc us L st h → vg_A G M uc us (pc + len) L st h Q) (hJ : ∀ t uc us L st h, J t uc us L st h → vg_A G M uc us t L st h Q) (hv : vi_1 G MT M (pc, len, (.if_icmp .le off), ax) uc us L st h Q K J) : vg_A G M uc us pc L st h Q := by
  match ax, hk, hv with
  | [t], hk, hv =>
    simp only [vi_ok1, Bool.and_eq_true, decide_eq_true_eq] at hk
    obtain ⟨rfl, h2⟩ := hk
    simp only [vi_1, vi_ii, List.headD] at hv
    split at hv
    · exact vr_icmp_le hd h2 ⟨fun z => hJ _ _ _ _ _ _ (hv.1 z), fun z => hK _ _ _ _ _ (hv.2 z)⟩
    · exact hv.elim
  | [], hk, hv => simp [vi_ok1] at hk
  | _ :: _ :: _, hk, hv => simp [vi_ok1] at hk
theorem vs_acmp_ne {off : Int} (hd : decode M.2.1 pc = .ok ((.if_acmp .ne off), len)) (hk : vi_ok1 MT M (pc, len, (.if_acmp .ne off), ax) = true) {K : vi_K} {J : Nat → vi_K} (hK : ∀ uc us L st h, K uc us L st h → vg_A G M uc us (pc + len) L st h Q) (hJ : ∀ t uc us L st h, J t uc us L st h → vg_A G M uc us t L st h Q) (hv : vi_1 G MT M (pc, len, (.if_acmp .ne off), ax) uc us L st h Q K J) : vg_A G M uc us pc L st h Q := by
  match ax, hk, hv with
  | [t], hk, hv =>
    simp only [vi_ok1, Bool.and_eq_true, decide_eq_true_eq] at hk
    obtain ⟨rfl, h2⟩ := hk
    simp only [vi_1, vi_rr, List.headD] at hv
    split at hv
    · exact vr_acmp_ne hd h2 ⟨fun z => hJ _ _ _ _ _ _ (hv.1 z), fun z => hK _ _ _ _ _ (hv.2 z)⟩
    · exact hv.elim
  | [], hk, hv => simp [vi_ok1] at hk
  | _ :: _ :: _, hk, hv => simp [vi_ok1] at hk
theorem vs_ifnull {off : Int} (hd : decode M.2.1 pc = .ok ((.ifnull off), len)) (hk : vi_ok1 MT M (pc, len, (.ifnull off), ax) = true) {K : vi_K} {J : Nat → vi_K} (hK : ∀ uc us L st h, K uc us L st h → vg_A G M uc us (pc + len) L st h Q) (hJ : ∀ t uc us L st h, J t uc us L st h → vg_A G M uc us t L st h Q) (hv : vi_1 G MT M (pc, len, (.ifnull off), ax) uc us L st h Q K J) : vg_A G M uc us pc L st h Q := by
  match ax, hk, hv with
  | [t], hk, hv =>
    simp only [vi_ok1, Bool.and_eq_true, decide_eq_true_eq] at hk
    obtain ⟨rfl, h2⟩ := hk
    simp only [vi_1, vi_r, List.headD] at hv
    split at hv
    · exact vr_ifnull hd h2 ⟨fun z => hJ _ _ _ _ _ _ (hv.1 z), fun z => hK _ _ _ _ _ (hv.2 z)⟩
    · exact hv.elim
  | [], hk, hv => simp [vi_ok1] at hk
  | _ :: _ :: _, hk, hv => simp [vi_ok1] at hk
theorem vs_ifnonnull {off : Int} (hd : decode M.2.1 pc = .ok ((.ifnonnull off), len)) (hk : vi_ok1 MT M (pc, len, (.ifnonnull off), ax) = true) {K : vi_K} {J : Nat → vi_K} (hK : ∀ uc us L st h, K uc us L st h → vg_A G M uc us (pc + len) L st h Q) (hJ : ∀ t uc us L st h, J t uc us L st h → vg_A G M uc us t L st h Q) (hv : vi_1 G MT M (pc, len, (.ifnonnull off), ax) uc us L st h Q K J) : vg_A G M uc us pc L st h Q := by
  match ax, hk, hv with
  | [t], hk, hv =>
    simp only [vi_ok1, Bool.and_eq_true, decide_eq_true_eq] at hk
    obtain ⟨rfl, h2⟩ := hk
    simp only [vi_1, vi_r, List.headD] at hv
    split at hv
    · exact vr_ifnonnull hd h2 ⟨fun z => hJ _ _ _ _ _ _ (hv.1 z), fun z => hK _ _ _ _ _ (hv.2 z)⟩
    · exact hv.elim
  | [], hk, hv => simp [vi_ok1] at hk
  | _ :: _ :: _, hk, hv => simp [vi_ok1] at hk
theorem vs_goto {off : Int} (hd : decode M.2.1 pc = .ok ((.goto off), len)) (hk : vi_ok1 MT M (pc, len, (.goto off), ax) = true) {K : vi_K} {J : Nat → vi_K} (hK : ∀ uc us L st h, K uc us L st h → vg_A G M uc us (pc + len) L st h Q) (hJ : ∀ t uc us L st h, J t uc us L st h → vg_A G M uc us t L st h Q) (hv : vi_1 G MT M (pc, len, (.goto off), ax) uc us L st h Q K J) : vg_A G M uc us pc L st h Q := by
  match ax, hk, hv with
  | [t], hk, hv =>
    simp only [vi_ok1, Bool.and_eq_true, decide_eq_true_eq] at hk
    obtain ⟨rfl, h2⟩ := hk
    simp only [vi_1, List.headD] at hv
    exact vr_goto hd h2 (hJ _ _ _ _ _ _ hv)
  | [], hk, hv => simp [vi_ok1] at hk
  | _ :: _ :: _, hk, hv => simp [vi_ok1] at hk
theorem vs_return_  (hd : decode M.2.1 pc = .ok (.return_, len)) (hk : vi_ok1 MT M (pc, len, .return_, ax) = true) {K : vi_K} {J : Nat → vi_K} (hK : ∀ uc us L st h, K uc us L st h → vg_A G M uc us (pc + len) L st h Q) (hJ : ∀ t uc us L st h, J t uc us L st h → vg_A G M uc us t L st h Q) (hv : vi_1 G MT M (pc, len, .return_, ax) uc us L st h Q K J) : vg_A G M uc us pc L st h Q := by
  simp only [vi_ok1, Bool.and_eq_true, decide_eq_true_eq] at hk
  obtain ⟨rfl, h2⟩ := hk
  simp only [vi_1] at hv
  obtain ⟨rfl, h3, h4⟩ := hv
  exact vr_vret h2 h3 hd h4
theorem vs_ireturn  (hd : decode M.2.1 pc = .ok (.ireturn, len)) (hk : vi_ok1 MT M (pc, len, .ireturn, ax) = true) {K : vi_K} {J : Nat → vi_K} (hK : ∀ uc us L st h, K uc us L st h → vg_A G M uc us (pc + len) L st h Q) (hJ : ∀ t uc us L st h, J t uc us L st h → vg_A G M uc us t L st h Q) (hv : vi_1 G MT M (pc, len, .ireturn, ax) uc us L st h Q K J) : vg_A G M uc us pc L st h Q := by
  simp only [vi_ok1, decide_eq_true_eq] at hk
  subst hk
  simp only [vi_1] at hv
  split at hv
  · obtain ⟨h3, h4 | ⟨h4, h5⟩, h6⟩ := hv
    · exact vr_iret h4 rfl h3 hd h6
    · exact vr_iret h4 (by rcases h5 with rfl | rfl <;> rfl) h3 hd h6
  · exact hv.elim
theorem vs_lreturn  (hd : decode M.2.1 pc = .ok (.lreturn, len)) (hk : vi_ok1 MT M (pc, len, .lreturn, ax) = true) {K : vi_K} {J : Nat → vi_K} (hK : ∀ uc us L st h, K uc us L st h → vg_A G M uc us (pc + len) L st h Q) (hJ : ∀ t uc us L st h, J t uc us L st h → vg_A G M uc us t L st h Q) (hv : vi_1 G MT M (pc, len, .lreturn, ax) uc us L st h Q K J) : vg_A G M uc us pc L st h Q := by
  simp only [vi_ok1, Bool.and_eq_true, decide_eq_true_eq] at hk
  obtain ⟨rfl, h2⟩ := hk
  simp only [vi_1] at hv
  split at hv
  · exact vr_lret h2 hv.1 hd hv.2
  · exact hv.elim
theorem vs_areturn  (hd : decode M.2.1 pc = .ok (.areturn, len)) (hk : vi_ok1 MT M (pc, len, .areturn, ax) = true) {K : vi_K} {J : Nat → vi_K} (hK : ∀ uc us L st h, K uc us L st h → vg_A G M uc us (pc + len) L st h Q) (hJ : ∀ t uc us L st h, J t uc us L st h → vg_A G M uc us t L st h Q) (hv : vi_1 G MT M (pc, len, .areturn, ax) uc us L st h Q K J) : vg_A G M uc us pc L st h Q := by
  simp only [vi_ok1, Bool.and_eq_true, decide_eq_true_eq] at hk
  obtain ⟨rfl, h2⟩ := hk
  simp only [vi_1] at hv
  split at h2
  · rename_i C heq
    split at hv
    · exact vr_aret heq hv.1 hd hv.2
    · exact hv.elim
  · cases h2
theorem vs_iaload  (hd : decode M.2.1 pc = .ok (.iaload, len)) (hk : vi_ok1 MT M (pc, len, .iaload, ax) = true) {K : vi_K} {J : Nat → vi_K} (hK : ∀ uc us L st h, K uc us L st h → vg_A G M uc us (pc + len) L st h Q) (hJ : ∀ t uc us L st h, J t uc us L st h → vg_A G M uc us t L st h Q) (hv : vi_1 G MT M (pc, len, .iaload, ax) uc us L st h Q K J) : vg_A G M uc us pc L st h Q := by
  simp only [vi_ok1, decide_eq_true_eq] at hk
  subst hk
  simp only [vi_1, vi_ir] at hv
  split at hv
  · obtain ⟨a, rfl, hv⟩ := vi_o_ok hv
    exact vr_iald hd hv.1 hv.2.1 (hK _ _ _ _ _ hv.2.2)
  · exact hv.elim
theorem vs_laload  (hd : decode M.2.1 pc = .ok (.laload, len)) (hk : vi_ok1 MT M (pc, len, .laload, ax) = true) {K : vi_K} {J : Nat → vi_K} (hK : ∀ uc us L st h, K uc us L st h → vg_A G M uc us (pc + len) L st h Q) (hJ : ∀ t uc us L st h, J t uc us L st h → vg_A G M uc us t L st h Q) (hv : vi_1 G MT M (pc, len, .laload, ax) uc us L st h Q K J) : vg_A G M uc us pc L st h Q := by
  simp only [vi_ok1, decide_eq_true_eq] at hk
  subst hk
  simp only [vi_1, vi_ir] at hv
  split at hv
  · obtain ⟨a, rfl, hv⟩ := vi_o_ok hv
    exact vr_lald hd hv.1 hv.2.1 (hK _ _ _ _ _ hv.2.2)
  · exact hv.elim
theorem vs_baload  (hd : decode M.2.1 pc = .ok (.baload, len)) (hk : vi_ok1 MT M (pc, len, .baload, ax) = true) {K : vi_K} {J : Nat → vi_K} (hK : ∀ uc us L st h, K uc us L st h → vg_A G M uc us (pc + len) L st h Q) (hJ : ∀ t uc us L st h, J t uc us L st h → vg_A G M uc us t L st h Q) (hv : vi_1 G MT M (pc, len, .baload, ax) uc us L st h Q K J) : vg_A G M uc us pc L st h Q := by
  simp only [vi_ok1, decide_eq_true_eq] at hk
  subst hk
  simp only [vi_1, vi_ir] at hv
  split at hv
  · obtain ⟨a, rfl, hv⟩ := vi_o_ok hv
    exact vr_zald hd hv.1 hv.2.1 (hK _ _ _ _ _ hv.2.2)
  · exact hv.elim
theorem vs_iastore  (hd : decode M.2.1 pc = .ok (.iastore, len)) (hk : vi_ok1 MT M (pc, len, .iastore, ax) = true) {K : vi_K} {J : Nat → vi_K} (hK : ∀ uc us L st h, K uc us L st h → vg_A G M uc us (pc + len) L st h Q) (hJ : ∀ t uc us L st h, J t uc us L st h → vg_A G M uc us t L st h Q) (hv : vi_1 G MT M (pc, len, .iastore, ax) uc us L st h Q K J) : vg_A G M uc us pc L st h Q := by
  simp only [vi_ok1, decide_eq_true_eq] at hk
  subst hk
  simp only [vi_1, vi_iir] at hv
  split at hv
  · obtain ⟨a, rfl, hv⟩ := vi_o_ok hv
    exact vr_iast hd hv.1 hv.2.1 (hK _ _ _ _ _ hv.2.2)
  · exact hv.elim
theorem vs_lastore  (hd : decode M.2.1 pc = .ok (.lastore, len)) (hk : vi_ok1 MT M (pc, len, .lastore, ax) = true) {K : vi_K} {J : Nat → vi_K} (hK : ∀ uc us L st h, K uc us L st h → vg_A G M uc us (pc + len) L st h Q) (hJ : ∀ t uc us L st h, J t uc us L st h → vg_A G M uc us t L st h Q) (hv : vi_1 G MT M (pc, len, .lastore, ax) uc us L st h Q K J) : vg_A G M uc us pc L st h Q := by
  simp only [vi_ok1, decide_eq_true_eq] at hk
  subst hk
  simp only [vi_1, vi_jir] at hv
  split at hv
  · obtain ⟨a, rfl, hv⟩ := vi_o_ok hv
    exact vr_last hd hv.1 hv.2.1 (hK _ _ _ _ _ hv.2.2)
  · exact hv.elim
theorem vs_bastore  (hd : decode M.2.1 pc = .ok (.bastore, len)) (hk : vi_ok1 MT M (pc, len, .bastore, ax) = true) {K : vi_K} {J : Nat → vi_K} (hK : ∀ uc us L st h, K uc us L st h → vg_A G M uc us (pc + len) L st h Q) (hJ : ∀ t uc us L st h, J t uc us L st h → vg_A G M uc us t L st h Q) (hv : vi_1 G MT M (pc, len, .bastore, ax) uc us L st h Q K J) : vg_A G M uc us pc L st h Q := by
  simp only [vi_ok1, decide_eq_true_eq] at hk
  subst hk
  simp only [vi_1, vi_iir] at hv
  split at hv
  · obtain ⟨a, rfl, hv⟩ := vi_o_ok hv
    exact vr_zast hd hv.1 hv.2.1 (by rcases hv.2.2.1 with rfl | rfl <;> rfl) (hK _ _ _ _ _ hv.2.2.2)
  · exact hv.elim
theorem vs_aaload  (hd : decode M.2.1 pc = .ok (.aaload, len)) (hk : vi_ok1 MT M (pc, len, .aaload, ax) = true) {K : vi_K} {J : Nat → vi_K} (hK : ∀ uc us L st h, K uc us L st h → vg_A G M uc us (pc + len) L st h Q) (hJ : ∀ t uc us L st h, J t uc us L st h → vg_A G M uc us t L st h Q) (hv : vi_1 G MT M (pc, len, .aaload, ax) uc us L st h Q K J) : vg_A G M uc us pc L st h Q := by
  match ax, hk, hv with
  | [t], hk, hv =>
    simp only [vi_ok1, Bool.and_eq_true, decide_eq_true_eq] at hk
    obtain ⟨rfl, h2⟩ := hk
    simp only [vi_1, vi_ir, List.headD] at hv
    split at h2
    · rename_i C heq
      split at hv
      · obtain ⟨a, rfl, hv⟩ := vi_o_ok hv
        exact vr_aald heq hd hv.1 hv.2.1 (hK _ _ _ _ _ hv.2.2)
      · exact hv.elim
    · cases h2
  | [], hk, hv => simp [vi_ok1] at hk
  | _ :: _ :: _, hk, hv => simp [vi_ok1] at hk
theorem vs_aastore  (hd : decode M.2.1 pc = .ok (.aastore, len)) (hk : vi_ok1 MT M (pc, len, .aastore, ax) = true) {K : vi_K} {J : Nat → vi_K} (hK : ∀ uc us L st h, K uc us L st h → vg_A G M uc us (pc + len) L st h Q) (hJ : ∀ t uc us L st h, J t uc us L st h → vg_A G M uc us t L st h Q) (hv : vi_1 G MT M (pc, len, .aastore, ax) uc us L st h Q K J) : vg_A G M uc us pc L st h Q := by
  match ax, hk, hv with
  | [t, ci], hk, hv =>
    simp only [vi_ok1, Bool.and_eq_true, decide_eq_true_eq] at hk
    obtain ⟨rfl, h2⟩ := hk
    simp only [vi_1, vi_rir] at hv
    split at h2
    · rename_i r0 heq
      have h3 := of_decide_eq_true h2
      split at hv
      · obtain ⟨a, rfl, hv2⟩ := vi_o_ok hv
        obtain ⟨b, rfl, hv3⟩ := vi_o_ok hv2
        exact vr_aast h3 heq hd hv3.1 hv3.2.1 hv3.2.2.1 (hK _ _ _ _ _ hv3.2.2.2)
      · exact hv.elim
    · cases h2
  | [], hk, hv => simp [vi_ok1] at hk
  | [_], hk, hv => simp [vi_ok1] at hk
  | _ :: _ :: _ :: _, hk, hv => simp [vi_ok1] at hk
theorem vs_arraylength  (hd : decode M.2.1 pc = .ok (.arraylength, len)) (hk : vi_ok1 MT M (pc, len, .arraylength, ax) = true) {K : vi_K} {J : Nat → vi_K} (hK : ∀ uc us L st h, K uc us L st h → vg_A G M uc us (pc + len) L st h Q) (hJ : ∀ t uc us L st h, J t uc us L st h → vg_A G M uc us t L st h Q) (hv : vi_1 G MT M (pc, len, .arraylength, ax) uc us L st h Q K J) : vg_A G M uc us pc L st h Q := by
  simp only [vi_ok1, decide_eq_true_eq] at hk
  subst hk
  simp only [vi_1, vi_r] at hv
  split at hv
  · obtain ⟨a, rfl, hv⟩ := vi_o_ok hv
    exact vr_alenI hd hv.1 (hK _ _ _ _ _ hv.2)
  · exact hv.elim
theorem vi_fld_ok {idx ci k kd a : Nat} (hf : vi_fld M idx ci k kd a = true) : ∃ r : vw_C, vwCl[ci]? = some r ∧ k < r.2.2 ∧ vi_kd (vg_ty ci k) = kd ∧ kd ≠ 9 ∧ Cond.fieldLink M.1.cls idx (r.2.1 k).1 (r.2.1 k).2.1 (r.2.1 k).2.2.1 ∈ vg_ws := by
  unfold vi_fld at hf
  split at hf
  · rename_i r heq
    simp only [Bool.and_eq_true, decide_eq_true_eq] at hf
    exact ⟨r, heq, hf.1.1.1, hf.1.1.2, hf.1.2, vi_w_ok hf.2⟩
  · cases hf
theorem vi_kd0 {ty : FieldType} (h : vi_kd ty = 0) : ty = .int := by cases ty <;> simp [vi_kd] at h <;> rfl
theorem vi_kd3 {ty : FieldType} (h : vi_kd ty = 3) : ty = .boolean := by cases ty <;> simp [vi_kd] at h <;> rfl
theorem vi_kd1 {ty : FieldType} (h : vi_kd ty = 1) : ty = .long := by cases ty <;> simp [vi_kd] at h <;> rfl
theorem vi_kd2 {ty : FieldType} (h : vi_kd ty = 2) : (∃ C, ty = .object C) ∨ ∃ t, ty = .array t := by
  cases ty <;> simp [vi_kd] at h
  · exact Or.inl ⟨_, rfl⟩
  · exact Or.inr ⟨_, rfl⟩
theorem vi_kdx (ty : FieldType) : vi_kd ty = 0 ∨ vi_kd ty = 3 ∨ vi_kd ty = 1 ∨ vi_kd ty = 2 ∨ vi_kd ty = 9 := by cases ty <;> simp [vi_kd]
theorem vs_getfield {idx : Nat} (hd : decode M.2.1 pc = .ok ((.getfield idx), len)) (hk : vi_ok1 MT M (pc, len, (.getfield idx), ax) = true) {K : vi_K} {J : Nat → vi_K} (hK : ∀ uc us L st h, K uc us L st h → vg_A G M uc us (pc + len) L st h Q) (hJ : ∀ t uc us L st h, J t uc us L st h → vg_A G M uc us t L st h Q) (hv : vi_1 G MT M (pc, len, (.getfield idx), ax) uc us L st h Q K J) : vg_A G M uc us pc L st h Q := by
  match ax, hk, hv with
  | [ci, k, kd, a], hk, hv =>
    simp only [vi_ok1, Bool.and_eq_true, decide_eq_true_eq] at hk
    obtain ⟨rfl, h2⟩ := hk
    obtain ⟨r, e1, e2, e3, e4, e5⟩ := vi_fld_ok h2
    simp only [vi_1, vi_r] at hv
    split at hv
    · obtain ⟨b, rfl, h3, h4⟩ := vi_o_ok hv
      rcases vi_kdx (vg_ty ci k) with hz | hz | hz | hz | hz
      · rw [hz] at e3; subst e3
        exact vr_get (v := .inl (h.2.2.1 b k)) e1 e2 e5 hd h3 (by rw [vi_kd0 hz]; rfl) (hK _ _ _ _ _ h4)
      · rw [hz] at e3; subst e3
        exact vr_get (v := .inl (h.2.2.1 b k)) e1 e2 e5 hd h3 (by rw [vi_kd3 hz]; rfl) (hK _ _ _ _ _ h4)
      · rw [hz] at e3; subst e3
        exact vr_get (v := .inr (.inl (h.2.2.2.1 b k))) e1 e2 e5 hd h3 (by rw [vi_kd1 hz]; rfl) (hK _ _ _ _ _ h4)
      · rw [hz] at e3; subst e3
        exact vr_get (v := .inr (.inr (h.2.2.2.2.1 b k))) e1 e2 e5 hd h3 (by rcases vi_kd2 hz with ⟨C, hC⟩ | ⟨t, hC⟩ <;> rw [hC] <;> rfl) (hK _ _ _ _ _ h4)
      · rw [hz] at e3; exact absurd e3.symm e4
    · exact hv.elim
  | [], hk, hv => simp [vi_ok1] at hk
  | [_], hk, hv => simp [vi_ok1] at hk
  | [_, _], hk, hv => simp [vi_ok1] at hk
  | [_, _, _], hk, hv => simp [vi_ok1] at hk
  | _ :: _ :: _ :: _ :: _ :: _, hk, hv => simp [vi_ok1] at hk
theorem vi_fin_ok {ci k : Nat} {r : vw_C} (hr : vwCl[ci]? = some r) (hf : vi_fin M ci k = true) : (r.2.1 k).2.2.2 = false ∨ ((r.2.1 k).2.2.2 = true ∧ M.1.name = "<init>" ∧ (r.2.1 k).1 = M.1.cls) := by
  unfold vi_fin at hf
  rw [hr] at hf
  simp only [Bool.or_eq_true, Bool.and_eq_true, decide_eq_true_eq] at hf
  rcases hf with h | ⟨⟨h1, h2⟩, h3⟩
  · exact Or.inl h
  · exact Or.inr ⟨h1, h2, h3⟩
theorem vi_fitR {ty : FieldType} (ht : (∃ C, ty = .object C) ∨ ∃ t, ty = .array t) (x : Option Nat) : narrow ty (va_rf x) = va_rf x ∧ fits ty (va_rf x) = true := by
  rcases ht with ⟨C, rfl⟩ | ⟨t, rfl⟩ <;> cases x <;> exact ⟨rfl, rfl⟩
theorem vs_putfield {idx : Nat} (hd : decode M.2.1 pc = .ok ((.putfield idx), len)) (hk : vi_ok1 MT M (pc, len, (.putfield idx), ax) = true) {K : vi_K} {J : Nat → vi_K} (hK : ∀ uc us L st h, K uc us L st h → vg_A G M uc us (pc + len) L st h Q) (hJ : ∀ t uc us L st h, J t uc us L st h → vg_A G M uc us t L st h Q) (hv : vi_1 G MT M (pc, len, (.putfield idx), ax) uc us L st h Q K J) : vg_A G M uc us pc L st h Q := by
  match ax, hk, hv with
  | [ci, k, kd, a], hk, hv =>
    simp only [vi_ok1, Bool.and_eq_true, decide_eq_true_eq] at hk
    obtain ⟨⟨rfl, h2⟩, h2f⟩ := hk
    obtain ⟨r, e1, e2, e3, e4, e5⟩ := vi_fld_ok h2
    have e6 := vi_fin_ok e1 h2f
    simp only [vi_1] at hv
    split at hv
    · have hz := vi_kd0 e3
      obtain ⟨b, rfl, hv⟩ := vi_o_ok hv
      exact vr_put e1 e2 e5 hd e6 (by rw [hz]; rfl) (by rw [hz]; rfl) hv.1 (by rw [hz]; exact vg_putI h b k _ (Or.inl rfl)) (hK _ _ _ _ _ hv.2)
    · have hz := vi_kd3 e3
      obtain ⟨b, rfl, hv⟩ := vi_o_ok hv
      exact vr_put e1 e2 e5 hd e6 (by rw [hz]; rcases hv.2.1 with rfl | rfl <;> rfl) (by rw [hz]; rcases hv.2.1 with rfl | rfl <;> rfl) hv.1 (by rw [hz]; exact vg_putI h b k _ (Or.inr rfl)) (hK _ _ _ _ _ hv.2.2)
    · have hz := vi_kd1 e3
      obtain ⟨b, rfl, hv⟩ := vi_o_ok hv
      exact vr_put e1 e2 e5 hd e6 (by rw [hz]; rfl) (by rw [hz]; rfl) hv.1 (by rw [hz]; exact vg_putL h b k _) (hK _ _ _ _ _ hv.2)
    · have hz := vi_kd2 e3
      obtain ⟨b, rfl, hv⟩ := vi_o_ok hv
      exact vr_put e1 e2 e5 hd e6 (vi_fitR hz _).1 (vi_fitR hz _).2 hv.1 (vg_putR h b k _ hz) (hK _ _ _ _ _ hv.2)
    · exact hv.elim
  | [], hk, hv => simp [vi_ok1] at hk
  | [_], hk, hv => simp [vi_ok1] at hk
  | [_, _], hk, hv => simp [vi_ok1] at hk
  | [_, _, _], hk, hv => simp [vi_ok1] at hk
  | _ :: _ :: _ :: _ :: _ :: _, hk, hv => simp [vi_ok1] at hk
end VS
