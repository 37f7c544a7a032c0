/-! ===== one step, instruction by instruction ===== -/
section V1
variable {G : vg_G} {MT : Nat → vg_M} {M : vg_M} {pc len uc us : Nat} {L : List (Option vg_V)} {st : List vg_V} {h : vg_H} {Q : vg_O → vg_H → Prop} {K : vi_K} {J : Nat → vi_K}
theorem v1_iadd {ax : List Nat} : vi_1 G MT M (pc, len, .iadd, ax) uc us L st h Q K J = (vi_ii st (fun x y r => ∀ v, v = x + y → K uc us L (.inl v :: r) h)) := propext Iff.rfl
theorem v1_isub {ax : List Nat} : vi_1 G MT M (pc, len, .isub, ax) uc us L st h Q K J = (vi_ii st (fun x y r => ∀ v, v = x - y → K uc us L (.inl v :: r) h)) := propext Iff.rfl
theorem v1_imul {ax : List Nat} : vi_1 G MT M (pc, len, .imul, ax) uc us L st h Q K J = (vi_ii st (fun x y r => ∀ v, v = x * y → K uc us L (.inl v :: r) h)) := propext Iff.rfl
theorem v1_iand {ax : List Nat} : vi_1 G MT M (pc, len, .iand, ax) uc us L st h Q K J = (vi_ii st (fun x y r => ∀ v, v = x &&& y → K uc us L (.inl v :: r) h)) := propext Iff.rfl
theorem v1_idiv {ax : List Nat} : vi_1 G MT M (pc, len, .idiv, ax) uc us L st h Q K J = (vi_ii st (fun x y r => (¬ y = 0) ∧ ∀ v, v = x / y → K uc us L (.inl v :: r) h)) := propext Iff.rfl
theorem v1_irem {ax : List Nat} : vi_1 G MT M (pc, len, .irem, ax) uc us L st h Q K J = (vi_ii st (fun x y r => (¬ y = 0) ∧ ∀ v, v = x - x / y * y → K uc us L (.inl v :: r) h)) := propext Iff.rfl
theorem v1_ineg {ax : List Nat} : vi_1 G MT M (pc, len, .ineg, ax) uc us L st h Q K J = (vi_i st (fun x r => ∀ v, v = -x → K uc us L (.inl v :: r) h)) := propext Iff.rfl
theorem v1_ladd {ax : List Nat} : vi_1 G MT M (pc, len, .ladd, ax) uc us L st h Q K J = (vi_jj st (fun x y r => ∀ v, v = x + y → K uc us L (.inr (.inl v) :: r) h)) := propext Iff.rfl
theorem v1_lsub {ax : List Nat} : vi_1 G MT M (pc, len, .lsub, ax) uc us L st h Q K J = (vi_jj st (fun x y r => ∀ v, v = x - y → K uc us L (.inr (.inl v) :: r) h)) := propext Iff.rfl
theorem v1_land {ax : List Nat} : vi_1 G MT M (pc, len, .land, ax) uc us L st h Q K J = (vi_jj st (fun x y r => ∀ v, v = x &&& y → K uc us L (.inr (.inl v) :: r) h)) := propext Iff.rfl
theorem v1_lcmp {ax : List Nat} : vi_1 G MT M (pc, len, .lcmp, ax) uc us L st h Q K J = (vi_jj st (fun x y r => ∀ v, v = lg_cmp x y → K uc us L (.inl v :: r) h)) := propext Iff.rfl
theorem v1_lshl {ax : List Nat} : vi_1 G MT M (pc, len, .lshl, ax) uc us L st h Q K J = (vi_ij st (fun x y r => ∀ v, v = x <<< (y.toInt64 &&& 63) → K uc us L (.inr (.inl v) :: r) h)) := propext Iff.rfl
theorem v1_lshr {ax : List Nat} : vi_1 G MT M (pc, len, .lshr, ax) uc us L st h Q K J = (vi_ij st (fun x y r => ∀ v, v = x >>> (y.toInt64 &&& 63) → K uc us L (.inr (.inl v) :: r) h)) := propext Iff.rfl
theorem v1_i2l {ax : List Nat} : vi_1 G MT M (pc, len, .i2l, ax) uc us L st h Q K J = (vi_i st (fun x r => ∀ v, v = x.toInt64 → K uc us L (.inr (.inl v) :: r) h)) := propext Iff.rfl
theorem v1_l2i {ax : List Nat} : vi_1 G MT M (pc, len, .l2i, ax) uc us L st h Q K J = (vi_j st (fun x r => ∀ v, v = x.toInt32 → K uc us L (.inl v :: r) h)) := propext Iff.rfl
theorem v1_iconst_0 {q0 : Int} {v : Nat} : vi_1 G MT M (pc, len, (.iconst q0), [v]) uc us L st h Q K J = (K uc us L (.inl (Int32.ofNat v) :: st) h) := propext Iff.rfl
theorem v1_iconst_m {q0 : Int}  : vi_1 G MT M (pc, len, (.iconst q0), []) uc us L st h Q K J = (K uc us L (.inl (-1) :: st) h) := propext Iff.rfl
theorem v1_bipush {q0 : Int} {ax : List Nat} : vi_1 G MT M (pc, len, (.bipush q0), ax) uc us L st h Q K J = (K uc us L (.inl (Int32.ofNat (ax.headD 0)) :: st) h) := propext Iff.rfl
theorem v1_sipush {q0 : Int} {ax : List Nat} : vi_1 G MT M (pc, len, (.sipush q0), ax) uc us L st h Q K J = (K uc us L (.inl (Int32.ofNat (ax.headD 0)) :: st) h) := propext Iff.rfl
theorem v1_ldc {q0 : Nat} {ax : List Nat} : vi_1 G MT M (pc, len, (.ldc q0), ax) uc us L st h Q K J = (K uc us L (.inl (Int32.ofNat (ax.headD 0)) :: st) h) := propext Iff.rfl
theorem v1_ldc_w {q0 : Nat} {ax : List Nat} : vi_1 G MT M (pc, len, (.ldc_w q0), ax) uc us L st h Q K J = (K uc us L (.inl (Int32.ofNat (ax.headD 0)) :: st) h) := propext Iff.rfl
theorem v1_lconst {q0 : Fin 2} {ax : List Nat} : vi_1 G MT M (pc, len, (.lconst q0), ax) uc us L st h Q K J = (K uc us L (.inr (.inl (Int64.ofNat (ax.headD 0))) :: st) h) := propext Iff.rfl
theorem v1_ldc2_w {q0 : Nat} {ax : List Nat} : vi_1 G MT M (pc, len, (.ldc2_w q0), ax) uc us L st h Q K J = (K uc us L (.inr (.inl (Int64.ofNat (ax.headD 0))) :: st) h) := propext Iff.rfl
theorem v1_aconst_null {ax : List Nat} : vi_1 G MT M (pc, len, .aconst_null, ax) uc us L st h Q K J = (K uc us L (.inr (.inr none) :: st) h) := propext Iff.rfl
theorem v1_iload {q0 : Nat} {jx : Nat} : vi_1 G MT M (pc, len, (.iload q0), [jx]) uc us L st h Q K J = (vi_li L jx (fun x => K uc us L (.inl x :: st) h)) := propext Iff.rfl
theorem v1_iload_n {q0 : Fin 4} {jx : Nat} : vi_1 G MT M (pc, len, (.iload_n q0), [jx]) uc us L st h Q K J = (vi_li L jx (fun x => K uc us L (.inl x :: st) h)) := propext Iff.rfl
theorem v1_lload {q0 : Nat} {jx : Nat} : vi_1 G MT M (pc, len, (.lload q0), [jx]) uc us L st h Q K J = (vi_ll L jx (fun x => K uc us L (.inr (.inl x) :: st) h)) := propext Iff.rfl
theorem v1_lload_n {q0 : Fin 4} {jx : Nat} : vi_1 G MT M (pc, len, (.lload_n q0), [jx]) uc us L st h Q K J = (vi_ll L jx (fun x => K uc us L (.inr (.inl x) :: st) h)) := propext Iff.rfl
theorem v1_aload {q0 : Nat} {jx : Nat} : vi_1 G MT M (pc, len, (.aload q0), [jx]) uc us L st h Q K J = (vi_lr L jx (fun x => K uc us L (.inr (.inr x) :: st) h)) := propext Iff.rfl
theorem v1_aload_n {q0 : Fin 4} {jx : Nat} : vi_1 G MT M (pc, len, (.aload_n q0), [jx]) uc us L st h Q K J = (vi_lr L jx (fun x => K uc us L (.inr (.inr x) :: st) h)) := propext Iff.rfl
theorem v1_istore {q0 : Nat} {ax : List Nat} : vi_1 G MT M (pc, len, (.istore q0), ax) uc us L st h Q K J = (vi_i st (fun x r => K uc us (vg_set1 L (ax.headD 0) (.inl x)) r h)) := propext Iff.rfl
theorem v1_istore_n {q0 : Fin 4} {ax : List Nat} : vi_1 G MT M (pc, len, (.istore_n q0), ax) uc us L st h Q K J = (vi_i st (fun x r => K uc us (vg_set1 L (ax.headD 0) (.inl x)) r h)) := propext Iff.rfl
theorem v1_lstore {q0 : Nat} {ax : List Nat} : vi_1 G MT M (pc, len, (.lstore q0), ax) uc us L st h Q K J = (vi_j st (fun x r => K uc us (vg_set2 L (ax.headD 0) (.inr (.inl x))) r h)) := propext Iff.rfl
theorem v1_lstore_n {q0 : Fin 4} {ax : List Nat} : vi_1 G MT M (pc, len, (.lstore_n q0), ax) uc us L st h Q K J = (vi_j st (fun x r => K uc us (vg_set2 L (ax.headD 0) (.inr (.inl x))) r h)) := propext Iff.rfl
theorem v1_astore {q0 : Nat} {ax : List Nat} : vi_1 G MT M (pc, len, (.astore q0), ax) uc us L st h Q K J = (vi_r st (fun x r => K uc us (vg_set1 L (ax.headD 0) (.inr (.inr x))) r h)) := propext Iff.rfl
theorem v1_astore_n {q0 : Fin 4} {ax : List Nat} : vi_1 G MT M (pc, len, (.astore_n q0), ax) uc us L st h Q K J = (vi_r st (fun x r => K uc us (vg_set1 L (ax.headD 0) (.inr (.inr x))) r h)) := propext Iff.rfl
theorem v1_iinc {n : Nat} {d : Int}{ax : List Nat} : vi_1 G MT M (pc, len, (.iinc n d), ax) uc us L st h Q K J = (vi_li L n (fun x => ∀ v, v = x + Int32.ofInt d → K uc us (vg_set1 L n (.inl v)) st h)) := propext Iff.rfl
theorem v1_dup {ax : List Nat} : vi_1 G MT M (pc, len, .dup, ax) uc us L st h Q K J = (match st with
    | .inl x :: r => K uc us L (.inl x :: .inl x :: r) h
    | .inr (.inr x) :: r => K uc us L (.inr (.inr x) :: .inr (.inr x) :: r) h
    | _ => False) := propext Iff.rfl
theorem v1_dup2 {ax : List Nat} : vi_1 G MT M (pc, len, .dup2, ax) uc us L st h Q K J = (match st with
    | .inl x :: .inr (.inr y) :: r => K uc us L (.inl x :: .inr (.inr y) :: .inl x :: .inr (.inr y) :: r) h
    | _ => False) := propext Iff.rfl
theorem v1_ifCond_eq {q1 : Int} {ax : List Nat} : vi_1 G MT M (pc, len, (.ifCond .eq q1), ax) uc us L st h Q K J = (vi_i st (fun x r => ((x = 0) → J (ax.headD 0) uc us L r h) ∧ (¬ (x = 0) → K uc us L r h))) := propext Iff.rfl
theorem v1_ifCond_ne {q1 : Int} {ax : List Nat} : vi_1 G MT M (pc, len, (.ifCond .ne q1), ax) uc us L st h Q K J = (vi_i st (fun x r => ((¬ x = 0) → J (ax.headD 0) uc us L r h) ∧ (¬ (¬ x = 0) → K uc us L r h))) := propext Iff.rfl
theorem v1_ifCond_lt {q1 : Int} {ax : List Nat} : vi_1 G MT M (pc, len, (.ifCond .lt q1), ax) uc us L st h Q K J = (vi_i st (fun x r => ((x < 0) → J (ax.headD 0) uc us L r h) ∧ (¬ (x < 0) → K uc us L r h))) := propext Iff.rfl
theorem v1_ifCond_ge {q1 : Int} {ax : List Nat} : vi_1 G MT M (pc, len, (.ifCond .ge q1), ax) uc us L st h Q K J = (vi_i st (fun x r => ((0 ≤ x) → J (ax.headD 0) uc us L r h) ∧ (¬ (0 ≤ x) → K uc us L r h))) := propext Iff.rfl
theorem v1_ifCond_gt {q1 : Int} {ax : List Nat} : vi_1 G MT M (pc, len, (.ifCond .gt q1), ax) uc us L st h Q K J = (vi_i st (fun x r => ((0 < x) → J (ax.headD 0) uc us L r h) ∧ (¬ (0 < x) → K uc us L r h))) := propext Iff.rfl
theorem v1_ifCond_le {q1 : Int} {ax : List Nat} : vi_1 G MT M (pc, len, (.ifCond .le q1), ax) uc us L st h Q K J = (vi_i st (fun x r => ((x ≤ 0) → J (ax.headD 0) uc us L r h) ∧ (¬ (x ≤ 0) → K uc us L r h))) := propext Iff.rfl
theorem v1_if_icmp_eq {q1 : Int} {ax : List Nat} : vi_1 G MT M (pc, len, (.if_icmp .eq q1), ax) uc us L st h Q K J = (vi_ii st (fun x y r => ((x = y) → J (ax.headD 0) uc us L r h) ∧ (¬ (x = y) → K uc us L r h))) := propext Iff.rfl
theorem v1_if_icmp_ne {q1 : Int} {ax : List Nat} : vi_1 G MT M (pc, len, (.if_icmp .ne q1), ax) uc us L st h Q K J = (vi_ii st (fun x y r => ((¬ x = y) → J (ax.headD 0) uc us L r h) ∧ (¬ (¬ x = y) → K uc us L r h))) := propext Iff.rfl
theorem v1_if_icmp_lt {q1 : Int} {ax : List Nat} : vi_1 G MT M (pc, len, (.if_icmp .lt q1), ax) uc us L st h Q K J = (vi_ii st (fun x y r => ((x < y) → J (ax.headD 0) uc us L r h) ∧ (¬ (x < y) → K uc us L r h))) := propext Iff.rfl
theorem v1_if_icmp_ge {q1 : Int} {ax : List Nat} : vi_1 G MT M (pc, len, (.if_icmp .ge q1), ax) uc us L st h Q K J = (vi_ii st (fun x y r => ((y ≤ x) → J (ax.headD 0) uc us L r h) ∧ (¬ (y ≤ x) → K uc us L r h))) := propext Iff.rfl
theorem v1_if_icmp_gt {q1 : Int} {ax : List Nat} : vi_1 G MT M (pc, len, (.if_icmp .gt q1), ax) uc us L st h Q K J = (vi_ii st (fun x y r => ((y < x) → J (ax.headD 0) uc us L r h) ∧ (¬ (y < x) → K uc us L r h))) := propext Iff.rfl
theorem v1_if_icmp_le {q1 : Int} {ax : List Nat} : vi_1 G MT M (pc, len, (.if_icmp .le q1), ax) uc us L st h Q K J = (vi_ii st (fun x y r => ((x ≤ y) → J (ax.headD 0) uc us L r h) ∧ (¬ (x ≤ y) → K uc us L r h))) := propext Iff.rfl
theorem v1_if_acmp_ne {q1 : Int} {ax : List Nat} : vi_1 G MT M (pc, len, (.if_acmp .ne q1), ax) uc us L st h Q K J = (vi_rr st (fun x y r => ((¬ x = y) → J (ax.headD 0) uc us L r h) ∧ (¬ (¬ x = y) → K uc us L r h))) := propext Iff.rfl
theorem v1_ifnull {q0 : Int} {ax : List Nat} : vi_1 G MT M (pc, len, (.ifnull q0), ax) uc us L st h Q K J = (vi_r st (fun x r => (x = none → J (ax.headD 0) uc us L r h) ∧ (¬ x = none → K uc us L r h))) := propext Iff.rfl
theorem v1_ifnonnull {q0 : Int} {ax : List Nat} : vi_1 G MT M (pc, len, (.ifnonnull q0), ax) uc us L st h Q K J = (vi_r st (fun x r => (¬ x = none → J (ax.headD 0) uc us L r h) ∧ (¬ ¬ x = none → K uc us L r h))) := propext Iff.rfl
theorem v1_goto {q0 : Int} {ax : List Nat} : vi_1 G MT M (pc, len, (.goto q0), ax) uc us L st h Q K J = (J (ax.headD 0) uc us L st h) := propext Iff.rfl
theorem v1_tableswitch_0 {q0 q1 q2 : Int} {q3 : Array Int}{d : Nat} {ts : List Nat} : vi_1 G MT M (pc, len, (.tableswitch q0 q1 q2 q3), d :: ts) uc us L st h Q K J = (vi_i st (fun x r => vi_sw x (fun t => J t uc us L r h) 0 ts ∧ ((x.toInt < 0 ∨ (ts.length : Int) - 1 < x.toInt) → J d uc us L r h))) := propext Iff.rfl
theorem v1_return_ {ax : List Nat} : vi_1 G MT M (pc, len, .return_, ax) uc us L st h Q K J = (st = [] ∧ (uc ≤ (vg_rm M).cells ∧ us ≤ (vg_rm M).slots) ∧ Q (.inl none) h) := propext Iff.rfl
theorem v1_ireturn {ax : List Nat} : vi_1 G MT M (pc, len, .ireturn, ax) uc us L st h Q K J = (match st with
    | [.inl x] => (uc ≤ (vg_rm M).cells ∧ us ≤ (vg_rm M).slots) ∧ (M.2.2.2.1 = some .int ∨ (M.2.2.2.1 = some .boolean ∧ (x = 0 ∨ x = 1))) ∧ Q (.inl (some (.inl x))) h
    | _ => False) := propext Iff.rfl
theorem v1_lreturn {ax : List Nat} : vi_1 G MT M (pc, len, .lreturn, ax) uc us L st h Q K J = (match st with
    | [.inr (.inl x)] => (uc ≤ (vg_rm M).cells ∧ us ≤ (vg_rm M).slots) ∧ Q (.inl (some (.inr (.inl x)))) h
    | _ => False) := propext Iff.rfl
theorem v1_areturn {ax : List Nat} : vi_1 G MT M (pc, len, .areturn, ax) uc us L st h Q K J = (match st with
    | [.inr (.inr x)] => (uc ≤ (vg_rm M).cells ∧ us ≤ (vg_rm M).slots) ∧ Q (.inl (some (.inr (.inr x)))) h
    | _ => False) := propext Iff.rfl
theorem v1_getfield_0 {q0 : Nat} {ci k kd : Nat} {rx : List Nat} : vi_1 G MT M (pc, len, (.getfield q0), ci :: k :: kd :: rx) uc us L st h Q K J = (vi_r st (fun o r => vi_o o (fun a => h.1 a = ci + 1 ∧ (match kd with
      | 0 => K uc us L (.inl (h.2.2.1 a k) :: r) h
      | 3 => K uc us L (.inl (h.2.2.1 a k) :: r) h
      | 1 => K uc us L (.inr (.inl (h.2.2.2.1 a k)) :: r) h
      | _ => K uc us L (.inr (.inr (h.2.2.2.2.1 a k)) :: r) h)))) := propext Iff.rfl
theorem v1_putfield_0 {q0 : Nat} {ci k kd : Nat} {rx : List Nat} : vi_1 G MT M (pc, len, (.putfield q0), ci :: k :: kd :: rx) uc us L st h Q K J = ((match kd, st with
      | 0, .inl x :: .inr (.inr o) :: r => vi_o o (fun a => h.1 a = ci + 1 ∧ K uc us L r (vg_wi h a k x))
      | 3, .inl x :: .inr (.inr o) :: r => vi_o o (fun a => h.1 a = ci + 1 ∧ (x = 0 ∨ x = 1) ∧ K uc us L r (vg_wi h a k x))
      | 1, .inr (.inl x) :: .inr (.inr o) :: r => vi_o o (fun a => h.1 a = ci + 1 ∧ K uc us L r (vg_wl h a k x))
      | 2, .inr (.inr x) :: .inr (.inr o) :: r => vi_o o (fun a => h.1 a = ci + 1 ∧ K uc us L r (vg_wr h a k x))
      | _, _ => False)) := propext Iff.rfl
theorem v1_getstatic {q0 : Nat} {ax : List Nat} : vi_1 G MT M (pc, len, (.getstatic q0), ax) uc us L st h Q K J = (K uc us L (vi_sv G (ax.headD 0) :: st) h) := propext Iff.rfl
theorem v1_iaload {ax : List Nat} : vi_1 G MT M (pc, len, .iaload, ax) uc us L st h Q K J = (vi_ir st (fun a j r => (h.1 a = 100 ∨ (h.1 a = 200 ∧ (a = G.2.2.2.2 0 ∨ a = G.2.2.2.2 4))) ∧ vp_in j (h.2.1 a) ∧ K uc us L (.inl (h.2.2.1 a j.toNatClampNeg) :: r) h)) := propext Iff.rfl
theorem v1_laload {ax : List Nat} : vi_1 G MT M (pc, len, .laload, ax) uc us L st h Q K J = (vi_ir st (fun a j r => h.1 a = 101 ∧ vp_in j (h.2.1 a) ∧ K uc us L (.inr (.inl (h.2.2.2.1 a j.toNatClampNeg)) :: r) h)) := propext Iff.rfl
theorem v1_baload {ax : List Nat} : vi_1 G MT M (pc, len, .baload, ax) uc us L st h Q K J = (vi_ir st (fun a j r => h.1 a = 102 ∧ vp_in j (h.2.1 a) ∧ K uc us L (.inl (h.2.2.1 a j.toNatClampNeg) :: r) h)) := propext Iff.rfl
theorem v1_aaload {ax : List Nat} : vi_1 G MT M (pc, len, .aaload, ax) uc us L st h Q K J = (vi_ir st (fun a j r => h.1 a = 100 + ax.headD 0 ∧ vp_in j (h.2.1 a) ∧ K uc us L (.inr (.inr (h.2.2.2.2.1 a j.toNatClampNeg)) :: r) h)) := propext Iff.rfl
theorem v1_iastore {ax : List Nat} : vi_1 G MT M (pc, len, .iastore, ax) uc us L st h Q K J = (vi_iir st (fun a j x r => h.1 a = 100 ∧ vp_in j (h.2.1 a) ∧ K uc us L r (vg_wi h a j.toNatClampNeg x))) := propext Iff.rfl
theorem v1_lastore {ax : List Nat} : vi_1 G MT M (pc, len, .lastore, ax) uc us L st h Q K J = (vi_jir st (fun a j x r => h.1 a = 101 ∧ vp_in j (h.2.1 a) ∧ K uc us L r (vg_wl h a j.toNatClampNeg x))) := propext Iff.rfl
theorem v1_bastore {ax : List Nat} : vi_1 G MT M (pc, len, .bastore, ax) uc us L st h Q K J = (vi_iir st (fun a j x r => h.1 a = 102 ∧ vp_in j (h.2.1 a) ∧ (x = 0 ∨ x = 1) ∧ K uc us L r (vg_wi h a j.toNatClampNeg x))) := propext Iff.rfl
theorem v1_aastore_0 {t ci : Nat} {rx : List Nat} : vi_1 G MT M (pc, len, .aastore, t :: ci :: rx) uc us L st h Q K J = (vi_rir st (fun a j b r => h.1 a = 100 + t ∧ h.1 b = ci + 1 ∧ vp_in j (h.2.1 a) ∧ K uc us L r (vg_wr h a j.toNatClampNeg (some b)))) := propext Iff.rfl
theorem v1_arraylength {ax : List Nat} : vi_1 G MT M (pc, len, .arraylength, ax) uc us L st h Q K J = (vi_r st (fun o r => vi_o o (fun a => (h.1 a = 100 ∨ (h.1 a = 200 ∧ (a = G.2.2.2.2 0 ∨ a = G.2.2.2.2 4))) ∧ K uc us L (.inl (Int32.ofNat (h.2.1 a)) :: r) h))) := propext Iff.rfl
theorem v1_new_0 {q0 : Nat} {ci N : Nat} {rx : List Nat} : vi_1 G MT M (pc, len, (.new q0), ci :: N :: rx) uc us L st h Q K J = ((uc + 1 ≤ (vg_rm M).cells ∧ us + N ≤ (vg_rm M).slots) ∧ K (uc + 1) (us + N) L (.inr (.inr (some (vg_z h))) :: st) (vg_new h (ci + 1) 0)) := propext Iff.rfl
theorem v1_newarray {q0 : ArrayType} {ax : List Nat} : vi_1 G MT M (pc, len, (.newarray q0), ax) uc us L st h Q K J = (vi_i st (fun n r => (¬ n < 0 ∧ n.toNatClampNeg ≤ 1000000) ∧ (uc + 1 ≤ (vg_rm M).cells ∧ us + n.toNatClampNeg ≤ (vg_rm M).slots) ∧ K (uc + 1) (us + n.toNatClampNeg) L (.inr (.inr (some (vg_z h))) :: r) (vg_new h (100 + ax.headD 0) n.toNatClampNeg))) := propext Iff.rfl
theorem v1_anewarray {q0 : Nat} {ax : List Nat} : vi_1 G MT M (pc, len, (.anewarray q0), ax) uc us L st h Q K J = (vi_i st (fun n r => (¬ n < 0 ∧ n.toNatClampNeg ≤ 1000000) ∧ (uc + 1 ≤ (vg_rm M).cells ∧ us + n.toNatClampNeg ≤ (vg_rm M).slots) ∧ K (uc + 1) (us + n.toNatClampNeg) L (.inr (.inr (some (vg_z h))) :: r) (vg_new h (100 + ax.headD 0) n.toNatClampNeg))) := propext Iff.rfl
theorem v1_invokestatic_0 {q0 : Nat} {k y1 y2 y3 y4 : Nat} : vi_1 G MT M (pc, len, (.invokestatic q0), [k, y1, y2, y3, y4]) uc us L st h Q K J = (vi_ii st (fun x y r => vi_ws r ≤ 8 ∧ (uc ≤ (vg_rm M).cells ∧ us ≤ (vg_rm M).slots) ∧ (match k with
      | 0 => (∀ v, v = (if x < y then y else x) → K uc us L (.inl v :: r) h)
      | _ => (∀ v, v = (if y < x then y else x) → K uc us L (.inl v :: r) h)))) := propext Iff.rfl
theorem v1_invokestatic_1 {q0 : Nat} {y0 y1 y2 y3 : Nat} : vi_1 G MT M (pc, len, (.invokestatic q0), [y0, y1, y2, y3]) uc us L st h Q K J = ((match st with
      | .inl n :: .inl dp :: .inr (.inr o) :: .inl sp :: .inr (.inr o0) :: r => vi_o o0 (fun a0 => vi_o o (fun a => vi_ws r ≤ 8 ∧ h.1 a0 = 100 ∧ h.1 a = 100 ∧ ¬ sp < 0 ∧ ¬ dp < 0 ∧ ¬ n < 0 ∧ sp.toNatClampNeg + n.toNatClampNeg ≤ h.2.1 a0 ∧ dp.toNatClampNeg + n.toNatClampNeg ≤ h.2.1 a ∧ K uc us L r (vg_cp h a (va_cpy (h.2.2.1 a0) (h.2.2.1 a) sp.toNatClampNeg dp.toNatClampNeg n.toNatClampNeg))))
      | _ => False)) := propext Iff.rfl
theorem v1_invokestatic_2a {q0 : Nat} {mi n x0 x1 x2 x3 : Nat} : vi_1 G MT M (pc, len, (.invokestatic q0), [mi, n, x0, x1, x2, x3]) uc us L st h Q K J = (vi_pop n [] st (fun as r => vi_ws r ≤ 8 ∧ (uc + (vg_rm (MT mi)).cells ≤ (vg_rm M).cells ∧ us + (vg_rm (MT mi)).slots ≤ (vg_rm M).slots) ∧ vg_C G (MT mi) as h (vi_ret M Q (fun v h' => K (uc + (vg_rm (MT mi)).cells) (us + (vg_rm (MT mi)).slots) L (v.toList ++ r) h')))) := propext Iff.rfl
theorem v1_invokevirtual_0 {q0 : Nat} {mi n ci : Nat} {rx : List Nat} : vi_1 G MT M (pc, len, (.invokevirtual q0), mi :: n :: ci :: rx) uc us L st h Q K J = (vi_pop n [] st (fun as r0 => vi_r r0 (fun o r => vi_o o (fun a => h.1 a = ci + 1 ∧ vi_ws r ≤ 8 ∧ (uc + (vg_rm (MT mi)).cells ≤ (vg_rm M).cells ∧ us + (vg_rm (MT mi)).slots ≤ (vg_rm M).slots) ∧ vg_C G (MT mi) (.inr (.inr (some a)) :: as) h (vi_ret M Q (fun v h' => K (uc + (vg_rm (MT mi)).cells) (us + (vg_rm (MT mi)).slots) L (v.toList ++ r) h')))))) := propext Iff.rfl
theorem v1_invokespecial_0 {q0 : Nat} {y0 y1 y2 : Nat} : vi_1 G MT M (pc, len, (.invokespecial q0), [y0, y1, y2]) uc us L st h Q K J = (vi_r st (fun o r => vi_o o (fun _ => vi_ws r + 12 ≤ (vg_rm M).locals ∧ K uc us L r h))) := propext Iff.rfl
theorem v1_invokespecial_1a {q0 : Nat} {mi n x0 x1 x2 x3 : Nat} : vi_1 G MT M (pc, len, (.invokespecial q0), [mi, n, x0, x1, x2, x3]) uc us L st h Q K J = (vi_pop n [] st (fun as r0 => vi_r r0 (fun o r => vi_o o (fun a => vi_ws r ≤ 8 ∧ (uc + (vg_rm (MT mi)).cells ≤ (vg_rm M).cells ∧ us + (vg_rm (MT mi)).slots ≤ (vg_rm M).slots) ∧ vg_C G (MT mi) (.inr (.inr (some a)) :: as) h (fun o h' => match o with
      | .inl v => K (uc + (vg_rm (MT mi)).cells) (us + (vg_rm (MT mi)).slots) L (v.toList ++ r) h'
      | .inr _ => False))))) := propext Iff.rfl
theorem v1_invokespecial_1b {q0 : Nat} {mi n x0 x1 x2 x3 x4 : Nat} : vi_1 G MT M (pc, len, (.invokespecial q0), [mi, n, x0, x1, x2, x3, x4]) uc us L st h Q K J = (vi_pop n [] st (fun as r0 => vi_r r0 (fun o r => vi_o o (fun a => vi_ws r ≤ 8 ∧ (uc + (vg_rm (MT mi)).cells ≤ (vg_rm M).cells ∧ us + (vg_rm (MT mi)).slots ≤ (vg_rm M).slots) ∧ vg_C G (MT mi) (.inr (.inr (some a)) :: as) h (fun o h' => match o with
      | .inl v => K (uc + (vg_rm (MT mi)).cells) (us + (vg_rm (MT mi)).slots) L (v.toList ++ r) h'
      | .inr _ => False))))) := propext Iff.rfl
theorem vi_go_c {cd : List vi_E} {cuts : List Nat} {n : Nat} {e : vi_E} {r : List vi_E} : vi_go G MT M cd cuts Q (n + 1) (e :: r) uc us L st h = vi_1 G MT M e uc us L st h Q
      (fun uc us L st h => if cuts.contains (e.1 + e.2.1) = true then vg_A G M uc us (e.1 + e.2.1) L st h Q else vi_go G MT M cd cuts Q n r uc us L st h)
      (fun t uc us L st h => if cuts.contains t = true then vg_A G M uc us t L st h Q else vi_go G MT M cd cuts Q n (vi_at cd t) uc us L st h) := propext Iff.rfl
end V1
section V2
variable {x y : Int32} {p q : Int64} {o o' v w : Option Nat} {a i n : Nat} {L r as : List vg_V} {LL : List (Option vg_V)} {s : Option vg_V}
theorem vi_ii_e {K : Int32 → Int32 → List vg_V → Prop} : vi_ii (.inl y :: .inl x :: r) K = K x y r := propext Iff.rfl
theorem vi_i_e {K : Int32 → List vg_V → Prop} : vi_i (.inl x :: r) K = K x r := propext Iff.rfl
theorem vi_jj_e {K : Int64 → Int64 → List vg_V → Prop} : vi_jj (.inr (.inl q) :: .inr (.inl p) :: r) K = K p q r := propext Iff.rfl
theorem vi_j_e {K : Int64 → List vg_V → Prop} : vi_j (.inr (.inl p) :: r) K = K p r := propext Iff.rfl
theorem vi_ij_e {K : Int64 → Int32 → List vg_V → Prop} : vi_ij (.inl y :: .inr (.inl p) :: r) K = K p y r := propext Iff.rfl
theorem vi_r_e {K : Option Nat → List vg_V → Prop} : vi_r (.inr (.inr o) :: r) K = K o r := propext Iff.rfl
theorem vi_rr_e {K : Option Nat → Option Nat → List vg_V → Prop} : vi_rr (.inr (.inr o') :: .inr (.inr o) :: r) K = K o o' r := propext Iff.rfl
theorem vi_o_e {K : Nat → Prop} : vi_o (some a) K = K a := propext Iff.rfl
theorem vi_ir_e {K : Nat → Int32 → List vg_V → Prop} : vi_ir (.inl x :: .inr (.inr o) :: r) K = vi_o o (fun a => K a x r) := propext Iff.rfl
theorem vi_iir_e {K : Nat → Int32 → Int32 → List vg_V → Prop} : vi_iir (.inl y :: .inl x :: .inr (.inr o) :: r) K = vi_o o (fun a => K a x y r) := propext Iff.rfl
theorem vi_jir_e {K : Nat → Int32 → Int64 → List vg_V → Prop} : vi_jir (.inr (.inl p) :: .inl x :: .inr (.inr o) :: r) K = vi_o o (fun a => K a x p r) := propext Iff.rfl
theorem vi_rir_e {K : Nat → Int32 → Nat → List vg_V → Prop} : vi_rir (.inr (.inr v) :: .inl x :: .inr (.inr o) :: r) K = vi_o o (fun a => vi_o v (fun b => K a x b r)) := propext Iff.rfl
theorem vi_pop_z {K : List vg_V → List vg_V → Prop} : vi_pop 0 as r K = K as r := propext Iff.rfl
theorem vi_pop_s {K : List vg_V → List vg_V → Prop} {z : vg_V} : vi_pop (n + 1) as (z :: r) K = vi_pop n (z :: as) r K := propext Iff.rfl
theorem vi_sw_n {K : Nat → Prop} : vi_sw x K i [] = True := propext Iff.rfl
theorem vi_sw_c {K : Nat → Prop} {t : Nat} {l : List Nat} : vi_sw x K i (t :: l) = ((x = Int32.ofNat i → K t) ∧ vi_sw x K (i + 1) l) := propext Iff.rfl
theorem vi_li_z {K : Int32 → Prop} : vi_li (some (.inl x) :: LL) 0 K = K x := propext Iff.rfl
theorem vi_li_s {K : Int32 → Prop} : vi_li (s :: LL) (i + 1) K = vi_li LL i K := propext Iff.rfl
theorem vi_ll_z {K : Int64 → Prop} : vi_ll (some (.inr (.inl p)) :: LL) 0 K = K p := propext Iff.rfl
theorem vi_ll_s {K : Int64 → Prop} : vi_ll (s :: LL) (i + 1) K = vi_ll LL i K := propext Iff.rfl
theorem vi_lr_z {K : Option Nat → Prop} : vi_lr (some (.inr (.inr o)) :: LL) 0 K = K o := propext Iff.rfl
theorem vi_lr_s {K : Option Nat → Prop} : vi_lr (s :: LL) (i + 1) K = vi_lr LL i K := propext Iff.rfl
theorem vi_ret_l {M : vg_M} {Q : vg_O → vg_H → Prop} {K : Option vg_V → vg_H → Prop} {z : Option vg_V} {h : vg_H} : vi_ret M Q K (.inl z) h = K z h := propext Iff.rfl
theorem vi_ret_r {M : vg_M} {Q : vg_O → vg_H → Prop} {K : Option vg_V → vg_H → Prop} {k : Nat} {h : vg_H} : vi_ret M Q K (.inr k) h = (M.2.2.2.2.1 = [] ∧ Q (.inr k) h) := propext Iff.rfl
end V2
