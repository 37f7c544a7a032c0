/-! ===== a stretch of code at once ===== -/
section VG
variable {G : vg_G} {MT : Nat → vg_M} {M : vg_M} {Q : vg_O → vg_H → Prop}
def vi_okE (MT : Nat → vg_M) (M : vg_M) (e : vi_E) : Bool := decide (decode M.2.1 e.1 = .ok (e.2.2.1, e.2.1)) && vi_ok1 MT M e && decide (e.2.2.2.length < 1000)
def vi_adj : List vi_E → Bool
  | [] => true
  | [_] => true
  | e :: e' :: r => decide (e'.1 = e.1 + e.2.1) && vi_adj (e' :: r)
def vi_okC (MT : Nat → vg_M) (M : vg_M) (cd : List vi_E) : Bool := cd.all (vi_okE MT M) && vi_adj cd
theorem vi_1_ok {e : vi_E} {uc us : Nat} {L : List (Option vg_V)} {st : List vg_V} {h : vg_H} {K : vi_K} {J : Nat → vi_K} (ho : vi_okE MT M e = true) (hK : ∀ uc us L st h, K uc us L st h → vg_A G M uc us (e.1 + e.2.1) L st h Q) (hJ : ∀ t uc us L st h, J t uc us L st h → vg_A G M uc us t L st h Q) (hv : vi_1 G MT M e uc us L st h Q K J) : vg_A G M uc us e.1 L st h Q := by
  obtain ⟨pc, len, i, ax⟩ := e
  simp only [vi_okE, Bool.and_eq_true, decide_eq_true_eq] at ho
  obtain ⟨⟨hd, hk⟩, hl⟩ := ho
  cases i with
  | iadd => exact vs_iadd hd hk hK hJ hv
  | isub => exact vs_isub hd hk hK hJ hv
  | imul => exact vs_imul hd hk hK hJ hv
  | iand => exact vs_iand hd hk hK hJ hv
  | idiv => exact vs_idiv hd hk hK hJ hv
  | irem => exact vs_irem hd hk hK hJ hv
  | ineg => exact vs_ineg hd hk hK hJ hv
  | ladd => exact vs_ladd hd hk hK hJ hv
  | lsub => exact vs_lsub hd hk hK hJ hv
  | land => exact vs_land hd hk hK hJ hv
  | lcmp => exact vs_lcmp hd hk hK hJ hv
  | lshl => exact vs_lshl hd hk hK hJ hv
  | lshr => exact vs_lshr hd hk hK hJ hv
  | i2l => exact vs_i2l hd hk hK hJ hv
  | l2i => exact vs_l2i hd hk hK hJ hv
  | aconst_null => exact vs_aconst_null hd hk hK hJ hv
  | dup => exact vs_dup hd hk hK hJ hv
  | dup2 => exact vs_dup2 hd hk hK hJ hv
  | iaload => exact vs_iaload hd hk hK hJ hv
  | laload => exact vs_laload hd hk hK hJ hv
  | baload => exact vs_baload hd hk hK hJ hv
  | aaload => exact vs_aaload hd hk hK hJ hv
  | iastore => exact vs_iastore hd hk hK hJ hv
  | lastore => exact vs_lastore hd hk hK hJ hv
  | bastore => exact vs_bastore hd hk hK hJ hv
  | aastore => exact vs_aastore hd hk hK hJ hv
  | arraylength => exact vs_arraylength hd hk hK hJ hv
  | return_ => exact vs_return_ hd hk hK hJ hv
  | ireturn => exact vs_ireturn hd hk hK hJ hv
  | lreturn => exact vs_lreturn hd hk hK hJ hv
  | areturn => exact vs_areturn hd hk hK hJ hv
  | iconst a => exact vs_iconst hd hk hK hJ hv
  | bipush a => exact vs_bipush hd hk hK hJ hv
  | sipush a => exact vs_sipush hd hk hK hJ hv
  | lconst a => exact vs_lconst hd hk hK hJ hv
  | ldc a => exact vs_ldc hd hk hK hJ hv
  | ldc_w a => exact vs_ldc_w hd hk hK hJ hv
  | ldc2_w a => exact vs_ldc2_w hd hk hK hJ hv
  | iload a => exact vs_iload hd hk hK hJ hv
  | iload_n a => exact vs_iload_n hd hk hK hJ hv
  | lload a => exact vs_lload hd hk hK hJ hv
  | lload_n a => exact vs_lload_n hd hk hK hJ hv
  | aload a => exact vs_aload hd hk hK hJ hv
  | aload_n a => exact vs_aload_n hd hk hK hJ hv
  | istore a => exact vs_istore hd hk hK hJ hv
  | istore_n a => exact vs_istore_n hd hk hK hJ hv
  | lstore a => exact vs_lstore hd hk hK hJ hv
  | lstore_n a => exact vs_lstore_n hd hk hK hJ hv
  | astore a => exact vs_astore hd hk hK hJ hv
  | astore_n a => exact vs_astore_n hd hk hK hJ hv
  | ifnull a => exact vs_ifnull hd hk hK hJ hv
  | ifnonnull a => exact vs_ifnonnull hd hk hK hJ hv
  | goto a => exact vs_goto hd hk hK hJ hv
  | getfield a => exact vs_getfield hd hk hK hJ hv
  | putfield a => exact vs_putfield hd hk hK hJ hv
  | getstatic a => exact vs_getstatic hd hk hK hJ hv
  | new a => exact vs_new hd hk hK hJ hv
  | newarray a => exact vs_newarray hd hk hK hJ hv
  | anewarray a => exact vs_anewarray hd hk hK hJ hv
  | invokestatic a => exact vs_invokestatic hd hk hK hJ hv
  | invokevirtual a => exact vs_invokevirtual hd hk hK hJ hv
  | invokespecial a => exact vs_invokespecial hd hk hK hJ hv
  | iinc a b => exact vs_iinc hd hk hK hJ hv
  | tableswitch a b c d => exact vs_tableswitch hl hd hk hK hJ hv
  | ifCond c off =>
    cases c with
    | eq => exact vs_if_eq hd hk hK hJ hv
    | ne => exact vs_if_ne hd hk hK hJ hv
    | lt => exact vs_if_lt hd hk hK hJ hv
    | ge => exact vs_if_ge hd hk hK hJ hv
    | gt => exact vs_if_gt hd hk hK hJ hv
    | le => exact vs_if_le hd hk hK hJ hv
  | if_icmp c off =>
    cases c with
    | eq => exact vs_icmp_eq hd hk hK hJ hv
    | ne => exact vs_icmp_ne hd hk hK hJ hv
    | lt => exact vs_icmp_lt hd hk hK hJ hv
    | ge => exact vs_icmp_ge hd hk hK hJ hv
    | gt => exact vs_icmp_gt hd hk hK hJ hv
    | le => exact vs_icmp_le hd hk hK hJ hv
  | if_acmp c off =>
    cases c with
    | ne => exact vs_acmp_ne hd hk hK hJ hv
    | eq => exact hv.elim
  | _ => exact hv.elim
def vi_at : List vi_E → Nat → List vi_E
  | [], _ => []
  | e :: r, t => if e.1 = t then e :: r else vi_at r t
/-- from the head of the list on, at most n instructions, up to the cuts: what it asks -/
def vi_go (G : vg_G) (MT : Nat → vg_M) (M : vg_M) (cd : List vi_E) (cuts : List Nat) (Q : vg_O → vg_H → Prop) : Nat → List vi_E → vi_K
  | 0, _, _, _, _, _, _ => False
  | _ + 1, [], _, _, _, _, _ => False
  | n + 1, e :: r, uc, us, L, st, h => vi_1 G MT M e uc us L st h Q
      (fun uc us L st h => if cuts.contains (e.1 + e.2.1) = true then vg_A G M uc us (e.1 + e.2.1) L st h Q else vi_go G MT M cd cuts Q n r uc us L st h)
      (fun t uc us L st h => if cuts.contains t = true then vg_A G M uc us t L st h Q else vi_go G MT M cd cuts Q n (vi_at cd t) uc us L st h)
theorem vi_at_ok : ∀ (cd : List vi_E) (t : Nat), vi_at cd t = [] ∨ ∃ pre e r, cd = pre ++ e :: r ∧ vi_at cd t = e :: r ∧ e.1 = t
  | [], t => Or.inl rfl
  | e :: r, t => by
    by_cases h : e.1 = t
    · exact Or.inr ⟨[], e, r, rfl, by simp [vi_at, h], h⟩
    · rcases vi_at_ok r t with h1 | ⟨pre, e', r', h1, h2, h3⟩
      · exact Or.inl (by simp [vi_at, h, h1])
      · exact Or.inr ⟨e :: pre, e', r', by simp [h1], by simp [vi_at, h, h2], h3⟩
theorem vi_adj_ok : ∀ (pre : List vi_E) (e e' : vi_E) (r : List vi_E), vi_adj (pre ++ e :: e' :: r) = true → e'.1 = e.1 + e.2.1
  | [], e, e', r, h => by
    simp only [List.nil_append, vi_adj, Bool.and_eq_true, decide_eq_true_eq] at h
    exact h.1
  | [x], e, e', r, h => by
    simp only [List.cons_append, List.nil_append, vi_adj, Bool.and_eq_true] at h
    exact vi_adj_ok [] e e' r (by simpa [vi_adj] using h.2)
  | x :: y :: pre, e, e', r, h => by
    simp only [List.cons_append, vi_adj, Bool.and_eq_true] at h
    exact vi_adj_ok (y :: pre) e e' r h.2
theorem vi_go_ok {cd : List vi_E} (ho : vi_okC MT M cd = true) (cuts : List Nat) : ∀ (n : Nat) (pre : List vi_E) (e : vi_E) (r : List vi_E), cd = pre ++ e :: r → ∀ uc us L st h, vi_go G MT M cd cuts Q n (e :: r) uc us L st h → vg_A G M uc us e.1 L st h Q := by
  simp only [vi_okC, Bool.and_eq_true] at ho
  intro n
  induction n with
  | zero => intro pre e r _ uc us L st h hv; exact hv.elim
  | succ n ih =>
    intro pre e r hcd uc us L st h hv
    have he : vi_okE MT M e = true := List.all_eq_true.mp ho.1 e (by rw [hcd]; simp)
    refine vi_1_ok he ?_ ?_ hv
    · intro uc us L st h hk
      split at hk
      · exact hk
      · cases r with
        | nil => cases n <;> exact hk.elim
        | cons e' r =>
          have hadj := vi_adj_ok pre e e' r (by rw [← hcd]; exact ho.2)
          rw [← hadj]
          exact ih (pre ++ [e]) e' r (by rw [hcd]; simp) uc us L st h hk
    · intro t uc us L st h hk
      split at hk
      · exact hk
      · rcases vi_at_ok cd t with h1 | ⟨pre', e', r', h1, h2, h3⟩
        · rw [h1] at hk
          cases n <;> exact hk.elim
        · rw [h2] at hk
          rw [← h3]
          exact ih pre' e' r' h1 uc us L st h hk
/-- from any pc of the code -/
theorem vi_run {cd : List vi_E} (ho : vi_okC MT M cd = true) (cuts : List Nat) (n : Nat) {pc uc us : Nat} {L : List (Option vg_V)} {st : List vg_V} {h : vg_H} (hv : vi_go G MT M cd cuts Q n (vi_at cd pc) uc us L st h) : vg_A G M uc us pc L st h Q := by
  rcases vi_at_ok cd pc with h1 | ⟨pre', e', r', h1, h2, h3⟩
  · rw [h1] at hv
    cases n <;> exact hv.elim
  · rw [h2] at hv
    rw [← h3]
    exact vi_go_ok ho cuts n pre' e' r' h1 uc us L st h hv
end VG
