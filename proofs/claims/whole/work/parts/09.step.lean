/-! ===== one step of any instruction, as what it asks; a stretch of code; that this is enough ===== -/
/-- pc, length, the instruction, and what a reader of the tables adds to it -/
abbrev vi_E : Type := Nat × Nat × Instr × List Nat
def vi_lk : List (Option vg_V) → Nat → Option vg_V
  | [], _ => none
  | x :: _, 0 => x
  | _ :: r, i + 1 => vi_lk r i
theorem vi_lk_at : ∀ (L : List (Option vg_V)) (i : Nat) (v : vg_V), vi_lk L i = some v → L[i]? = some (some v)
  | [], i, v, h => by simp [vi_lk] at h
  | x :: r, 0, v, h => by simp [vi_lk] at h; simp [h]
  | x :: r, i + 1, v, h => by simp only [vi_lk] at h; simpa using vi_lk_at r i v h
def vi_li (L : List (Option vg_V)) (i : Nat) (K : Int32 → Prop) : Prop := match vi_lk L i with
  | some (.inl x) => K x
  | _ => False
def vi_ll (L : List (Option vg_V)) (i : Nat) (K : Int64 → Prop) : Prop := match vi_lk L i with
  | some (.inr (.inl x)) => K x
  | _ => False
def vi_lr (L : List (Option vg_V)) (i : Nat) (K : Option Nat → Prop) : Prop := match vi_lk L i with
  | some (.inr (.inr x)) => K x
  | _ => False
def vi_ii (st : List vg_V) (K : Int32 → Int32 → List vg_V → Prop) : Prop := match st with
  | .inl y :: .inl x :: r => K x y r
  | _ => False
def vi_i (st : List vg_V) (K : Int32 → List vg_V → Prop) : Prop := match st with
  | .inl x :: r => K x r
  | _ => False
def vi_jj (st : List vg_V) (K : Int64 → Int64 → List vg_V → Prop) : Prop := match st with
  | .inr (.inl y) :: .inr (.inl x) :: r => K x y r
  | _ => False
def vi_j (st : List vg_V) (K : Int64 → List vg_V → Prop) : Prop := match st with
  | .inr (.inl x) :: r => K x r
  | _ => False
def vi_ij (st : List vg_V) (K : Int64 → Int32 → List vg_V → Prop) : Prop := match st with
  | .inl y :: .inr (.inl x) :: r => K x y r
  | _ => False
def vi_r (st : List vg_V) (K : Option Nat → List vg_V → Prop) : Prop := match st with
  | .inr (.inr x) :: r => K x r
  | _ => False
def vi_rr (st : List vg_V) (K : Option Nat → Option Nat → List vg_V → Prop) : Prop := match st with
  | .inr (.inr y) :: .inr (.inr x) :: r => K x y r
  | _ => False
def vi_o (o : Option Nat) (K : Nat → Prop) : Prop := match o with
  | some a => K a
  | none => False
/-- index above array -/
def vi_ir (st : List vg_V) (K : Nat → Int32 → List vg_V → Prop) : Prop := match st with
  | .inl j :: .inr (.inr o) :: r => vi_o o (fun a => K a j r)
  | _ => False
def vi_iir (st : List vg_V) (K : Nat → Int32 → Int32 → List vg_V → Prop) : Prop := match st with
  | .inl x :: .inl j :: .inr (.inr o) :: r => vi_o o (fun a => K a j x r)
  | _ => False
def vi_jir (st : List vg_V) (K : Nat → Int32 → Int64 → List vg_V → Prop) : Prop := match st with
  | .inr (.inl x) :: .inl j :: .inr (.inr o) :: r => vi_o o (fun a => K a j x r)
  | _ => False
def vi_rir (st : List vg_V) (K : Nat → Int32 → Nat → List vg_V → Prop) : Prop := match st with
  | .inr (.inr v) :: .inl j :: .inr (.inr o) :: r => vi_o o (fun a => vi_o v (fun b => K a j b r))
  | _ => False
/-- arguments from the stack, the last pushed is the last -/
def vi_pop : Nat → List vg_V → List vg_V → (List vg_V → List vg_V → Prop) → Prop
  | 0, as, st, K => K as st
  | n + 1, as, v :: st, K => vi_pop n (v :: as) st K
  | _ + 1, _, [], _ => False
theorem vi_pop_ok : ∀ (n : Nat) (as st : List vg_V) (K : List vg_V → List vg_V → Prop), vi_pop n as st K → ∃ bs r, st = bs.reverse ++ r ∧ bs.length = n ∧ K (bs ++ as) r
  | 0, as, st, K, h => ⟨[], st, rfl, rfl, h⟩
  | n + 1, as, [], K, h => h.elim
  | n + 1, as, v :: st, K, h => by
    obtain ⟨bs, r, h1, h2, h3⟩ := vi_pop_ok n (v :: as) st K h
    exact ⟨bs ++ [v], r, by simp [h1], by simp [h2], by simpa using h3⟩
def vi_ws (st : List vg_V) : Nat := ((st.map vg_v).map fun v => v.category).sum
def vi_kd (ty : FieldType) : Nat := match ty with
  | .int => 0
  | .boolean => 3
  | .long => 1
  | .object _ => 2
  | .array _ => 2
  | _ => 9
/-- cases of a switch from i on -/
def vi_sw (x : Int32) (K : Nat → Prop) : Nat → List Nat → Prop
  | _, [] => True
  | i, t :: r => (x = Int32.ofNat i → K t) ∧ vi_sw x K (i + 1) r
/-- where a static lies -/
def vi_sv (G : vg_G) (i : Nat) : vg_V := .inr (.inr (some (G.2.2.2.2 i)))
def vi_sn (i : Nat) : String × String × String := match i with
  | 0 => ("ParkOffice", "COINS", "[I")
  | 1 => ("ParkOffice$TicketState", "INSIDE", "LParkOffice$TicketState;")
  | 2 => ("ParkOffice$TicketState", "GONE", "LParkOffice$TicketState;")
  | _ => ("ParkOffice$TicketState", "REPLACED", "LParkOffice$TicketState;")
theorem vi_sz (G : vg_G) {i : Nat} (hi : i < 4) (U : State) (h : vg_St G U) : va_Z (vi_sn i).1 (vi_sn i).2.1 (vi_sn i).2.2 (vg_v (vi_sv G i)) (vg_Fr G) U U.heap := by
  obtain ⟨-, -, -, -, h5, h6, h7, h8, -⟩ := h
  match i, hi with
  | 0, _ => exact h5
  | 1, _ => exact h6
  | 2, _ => exact h7
  | 3, _ => exact h8
/-- behind a call: the answer goes on, an exception goes up (a method without handlers) -/
def vi_ret (M : vg_M) (Q : vg_O → vg_H → Prop) (K : Option vg_V → vg_H → Prop) : vg_O → vg_H → Prop := fun o h => match o with
  | .inl v => K v h
  | .inr k => M.2.2.2.2.1 = [] ∧ Q (.inr k) h
/-- .. the next state's judgement -/
abbrev vi_K : Type := Nat → Nat → List (Option vg_V) → List vg_V → vg_H → Prop
def vi_1 (G : vg_G) (MT : Nat → vg_M) (M : vg_M) (e : vi_E) (uc us : Nat) (L : List (Option vg_V)) (st : List vg_V) (h : vg_H) (Q : vg_O → vg_H → Prop) (K : vi_K) (J : Nat → vi_K) : Prop :=
  match e.2.2.1 with
  | .iadd => vi_ii st (fun x y r => ∀ v, v = x + y → K uc us L (.inl v :: r) h)
  | .isub => vi_ii st (fun x y r => ∀ v, v = x - y → K uc us L (.inl v :: r) h)
  | .imul => vi_ii st (fun x y r => ∀ v, v = x * y → K uc us L (.inl v :: r) h)
  | .iand => vi_ii st (fun x y r => ∀ v, v = x &&& y → K uc us L (.inl v :: r) h)
  | .idiv => vi_ii st (fun x y r => (¬ y = 0) ∧ ∀ v, v = x / y → K uc us L (.inl v :: r) h)
  | .irem => vi_ii st (fun x y r => (¬ y = 0) ∧ ∀ v, v = x - x / y * y → K uc us L (.inl v :: r) h)
  | .ineg => vi_i st (fun x r => ∀ v, v = -x → K uc us L (.inl v :: r) h)
  | .ladd => vi_jj st (fun x y r => ∀ v, v = x + y → K uc us L (.inr (.inl v) :: r) h)
  | .lsub => vi_jj st (fun x y r => ∀ v, v = x - y → K uc us L (.inr (.inl v) :: r) h)
  | .land => vi_jj st (fun x y r => ∀ v, v = x &&& y → K uc us L (.inr (.inl v) :: r) h)
  | .lcmp => vi_jj st (fun x y r => ∀ v, v = lg_cmp x y → K uc us L (.inl v :: r) h)
  | .lshl => vi_ij st (fun x y r => ∀ v, v = x <<< (y.toInt64 &&& 63) → K uc us L (.inr (.inl v) :: r) h)
  | .lshr => vi_ij st (fun x y r => ∀ v, v = x >>> (y.toInt64 &&& 63) → K uc us L (.inr (.inl v) :: r) h)
  | .i2l => vi_i st (fun x r => ∀ v, v = x.toInt64 → K uc us L (.inr (.inl v) :: r) h)
  | .l2i => vi_j st (fun x r => ∀ v, v = x.toInt32 → K uc us L (.inl v :: r) h)
  | .iconst _ => match e.2.2.2 with
    | [v] => K uc us L (.inl (Int32.ofNat v) :: st) h
    | _ => K uc us L (.inl (-1) :: st) h
  | .bipush _ => K uc us L (.inl (Int32.ofNat (e.2.2.2.headD 0)) :: st) h
  | .sipush _ => K uc us L (.inl (Int32.ofNat (e.2.2.2.headD 0)) :: st) h
  | .ldc _ => K uc us L (.inl (Int32.ofNat (e.2.2.2.headD 0)) :: st) h
  | .ldc_w _ => K uc us L (.inl (Int32.ofNat (e.2.2.2.headD 0)) :: st) h
  | .lconst _ => K uc us L (.inr (.inl (Int64.ofNat (e.2.2.2.headD 0))) :: st) h
  | .ldc2_w _ => K uc us L (.inr (.inl (Int64.ofNat (e.2.2.2.headD 0))) :: st) h
  | .aconst_null => K uc us L (.inr (.inr none) :: st) h
  | .iload _ => vi_li L (e.2.2.2.headD 0) (fun x => K uc us L (.inl x :: st) h)
  | .iload_n _ => vi_li L (e.2.2.2.headD 0) (fun x => K uc us L (.inl x :: st) h)
  | .lload _ => vi_ll L (e.2.2.2.headD 0) (fun x => K uc us L (.inr (.inl x) :: st) h)
  | .lload_n _ => vi_ll L (e.2.2.2.headD 0) (fun x => K uc us L (.inr (.inl x) :: st) h)
  | .aload _ => vi_lr L (e.2.2.2.headD 0) (fun x => K uc us L (.inr (.inr x) :: st) h)
  | .aload_n _ => vi_lr L (e.2.2.2.headD 0) (fun x => K uc us L (.inr (.inr x) :: st) h)
  | .istore _ => vi_i st (fun x r => K uc us (vg_set1 L (e.2.2.2.headD 0) (.inl x)) r h)
  | .istore_n _ => vi_i st (fun x r => K uc us (vg_set1 L (e.2.2.2.headD 0) (.inl x)) r h)
  | .lstore _ => vi_j st (fun x r => K uc us (vg_set2 L (e.2.2.2.headD 0) (.inr (.inl x))) r h)
  | .lstore_n _ => vi_j st (fun x r => K uc us (vg_set2 L (e.2.2.2.headD 0) (.inr (.inl x))) r h)
  | .astore _ => vi_r st (fun x r => K uc us (vg_set1 L (e.2.2.2.headD 0) (.inr (.inr x))) r h)
  | .astore_n _ => vi_r st (fun x r => K uc us (vg_set1 L (e.2.2.2.headD 0) (.inr (.inr x))) r h)
  | .iinc n d => vi_li L n (fun x => ∀ v, v = x + Int32.ofInt d → K uc us (vg_set1 L n (.inl v)) st h)
  | .dup => match st with
    | .inl x :: r => K uc us L (.inl x :: .inl x :: r) h
    | .inr (.inr x) :: r => K uc us L (.inr (.inr x) :: .inr (.inr x) :: r) h
    | _ => False
  | .dup2 => match st with
    | .inl x :: .inr (.inr y) :: r => K uc us L (.inl x :: .inr (.inr y) :: .inl x :: .inr (.inr y) :: r) h
    | _ => False
  | .ifCond .eq _ => vi_i st (fun x r => ((x = 0) → J (e.2.2.2.headD 0) uc us L r h) ∧ (¬ (x = 0) → K uc us L r h))
  | .ifCond .ne _ => vi_i st (fun x r => ((¬ x = 0) → J (e.2.2.2.headD 0) uc us L r h) ∧ (¬ (¬ x = 0) → K uc us L r h))
  | .ifCond .lt _ => vi_i st (fun x r => ((x < 0) → J (e.2.2.2.headD 0) uc us L r h) ∧ (¬ (x < 0) → K uc us L r h))
  | .ifCond .ge _ => vi_i st (fun x r => ((0 ≤ x) → J (e.2.2.2.headD 0) uc us L r h) ∧ (¬ (0 ≤ x) → K uc us L r h))
  | .ifCond .gt _ => vi_i st (fun x r => ((0 < x) → J (e.2.2.2.headD 0) uc us L r h) ∧ (¬ (0 < x) → K uc us L r h))
  | .ifCond .le _ => vi_i st (fun x r => ((x ≤ 0) → J (e.2.2.2.headD 0) uc us L r h) ∧ (¬ (x ≤ 0) → K uc us L r h))
  | .if_icmp .eq _ => vi_ii st (fun x y r => ((x = y) → J (e.2.2.2.headD 0) uc us L r h) ∧ (¬ (x = y) → K uc us L r h))
  | .if_icmp .ne _ => vi_ii st (fun x y r => ((¬ x = y) → J (e.2.2.2.headD 0) uc us L r h) ∧ (¬ (¬ x = y) → K uc us L r h))
  | .if_icmp .lt _ => vi_ii st (fun x y r => ((x < y) → J (e.2.2.2.headD 0) uc us L r h) ∧ (¬ (x < y) → K uc us L r h))
  | .if_icmp .ge _ => vi_ii st (fun x y r => ((y ≤ x) → J (e.2.2.2.headD 0) uc us L r h) ∧ (¬ (y ≤ x) → K uc us L r h))
  | .if_icmp .gt _ => vi_ii st (fun x y r => ((y < x) → J (e.2.2.2.headD 0) uc us L r h) ∧ (¬ (y < x) → K uc us L r h))
  | .if_icmp .le _ => vi_ii st (fun x y r => ((x ≤ y) → J (e.2.2.2.headD 0) uc us L r h) ∧ (¬ (x ≤ y) → K uc us L r h))
  | .if_acmp .ne _ => vi_rr st (fun x y r => ((¬ x = y) → J (e.2.2.2.headD 0) uc us L r h) ∧ (¬ (¬ x = y) → K uc us L r h))
  | .ifnull _ => vi_r st (fun x r => (x = none → J (e.2.2.2.headD 0) uc us L r h) ∧ (¬ x = none → K uc us L r h))
  | .ifnonnull _ => vi_r st (fun x r => (¬ x = none → J (e.2.2.2.headD 0) uc us L r h) ∧ (¬ ¬ x = none → K uc us L r h))
  | .goto _ => J (e.2.2.2.headD 0) uc us L st h
  | .tableswitch _ _ _ _ => match e.2.2.2 with
    | d :: ts => vi_i st (fun x r => vi_sw x (fun t => J t uc us L r h) 0 ts ∧ ((x.toInt < 0 ∨ (ts.length : Int) - 1 < x.toInt) → J d uc us L r h))
    | _ => False
  | .return_ => st = [] ∧ (uc ≤ (vg_rm M).cells ∧ us ≤ (vg_rm M).slots) ∧ Q (.inl none) h
  | .ireturn => match st with
    | [.inl x] => (uc ≤ (vg_rm M).cells ∧ us ≤ (vg_rm M).slots) ∧ (M.2.2.2.1 = some .int ∨ (M.2.2.2.1 = some .boolean ∧ (x = 0 ∨ x = 1))) ∧ Q (.inl (some (.inl x))) h
    | _ => False
  | .lreturn => match st with
    | [.inr (.inl x)] => (uc ≤ (vg_rm M).cells ∧ us ≤ (vg_rm M).slots) ∧ Q (.inl (some (.inr (.inl x)))) h
    | _ => False
  | .areturn => match st with
    | [.inr (.inr x)] => (uc ≤ (vg_rm M).cells ∧ us ≤ (vg_rm M).slots) ∧ Q (.inl (some (.inr (.inr x)))) h
    | _ => False
  | .getfield _ => match e.2.2.2 with
    | ci :: k :: kd :: _ => vi_r st (fun o r => vi_o o (fun a => h.1 a = ci + 1 ∧ (match kd with
      | 0 => K uc us L (.inl (h.2.2.1 a k) :: r) h
      | 3 => K uc us L (.inl (h.2.2.1 a k) :: r) h
      | 1 => K uc us L (.inr (.inl (h.2.2.2.1 a k)) :: r) h
      | _ => K uc us L (.inr (.inr (h.2.2.2.2.1 a k)) :: r) h)))
    | _ => False
  | .putfield _ => match e.2.2.2 with
    | ci :: k :: kd :: _ => (match kd, st with
      | 0, .inl x :: .inr (.inr o) :: r => vi_o o (fun a => h.1 a = ci + 1 ∧ K uc us L r (vg_wi h a k x))
      | 3, .inl x :: .inr (.inr o) :: r => vi_o o (fun a => h.1 a = ci + 1 ∧ (x = 0 ∨ x = 1) ∧ K uc us L r (vg_wi h a k x))
      | 1, .inr (.inl x) :: .inr (.inr o) :: r => vi_o o (fun a => h.1 a = ci + 1 ∧ K uc us L r (vg_wl h a k x))
      | 2, .inr (.inr x) :: .inr (.inr o) :: r => vi_o o (fun a => h.1 a = ci + 1 ∧ K uc us L r (vg_wr h a k x))
      | _, _ => False)
    | _ => False
  | .getstatic _ => K uc us L (vi_sv G (e.2.2.2.headD 0) :: st) h
  | .iaload => vi_ir st (fun a j r => (h.1 a = 100 ∨ (h.1 a = 200 ∧ (a = G.2.2.2.2 0 ∨ a = G.2.2.2.2 4))) ∧ vp_in j (h.2.1 a) ∧ K uc us L (.inl (h.2.2.1 a j.toNatClampNeg) :: r) h)
  | .laload => vi_ir st (fun a j r => h.1 a = 101 ∧ vp_in j (h.2.1 a) ∧ K uc us L (.inr (.inl (h.2.2.2.1 a j.toNatClampNeg)) :: r) h)
  | .baload => vi_ir st (fun a j r => h.1 a = 102 ∧ vp_in j (h.2.1 a) ∧ K uc us L (.inl (h.2.2.1 a j.toNatClampNeg) :: r) h)
  | .aaload => vi_ir st (fun a j r => h.1 a = 100 + e.2.2.2.headD 0 ∧ vp_in j (h.2.1 a) ∧ K uc us L (.inr (.inr (h.2.2.2.2.1 a j.toNatClampNeg)) :: r) h)
  | .iastore => vi_iir st (fun a j x r => h.1 a = 100 ∧ vp_in j (h.2.1 a) ∧ K uc us L r (vg_wi h a j.toNatClampNeg x))
  | .lastore => vi_jir st (fun a j x r => h.1 a = 101 ∧ vp_in j (h.2.1 a) ∧ K uc us L r (vg_wl h a j.toNatClampNeg x))
  | .bastore => vi_iir st (fun a j x r => h.1 a = 102 ∧ vp_in j (h.2.1 a) ∧ (x = 0 ∨ x = 1) ∧ K uc us L r (vg_wi h a j.toNatClampNeg x))
  | .aastore => match e.2.2.2 with
    | t :: ci :: _ => vi_rir st (fun a j b r => h.1 a = 100 + t ∧ h.1 b = ci + 1 ∧ vp_in j (h.2.1 a) ∧ K uc us L r (vg_wr h a j.toNatClampNeg (some b)))
    | _ => False
  | .arraylength => vi_r st (fun o r => vi_o o (fun a => (h.1 a = 100 ∨ (h.1 a = 200 ∧ (a = G.2.2.2.2 0 ∨ a = G.2.2.2.2 4))) ∧ K uc us L (.inl (Int32.ofNat (h.2.1 a)) :: r) h))
  | .new _ => match e.2.2.2 with
    | ci :: N :: _ => (uc + 1 ≤ (vg_rm M).cells ∧ us + N ≤ (vg_rm M).slots) ∧ K (uc + 1) (us + N) L (.inr (.inr (some (vg_z h))) :: st) (vg_new h (ci + 1) 0)
    | _ => False
  | .newarray _ => vi_i st (fun n r => (¬ n < 0 ∧ n.toNatClampNeg ≤ 1000000) ∧ (uc + 1 ≤ (vg_rm M).cells ∧ us + n.toNatClampNeg ≤ (vg_rm M).slots) ∧ K (uc + 1) (us + n.toNatClampNeg) L (.inr (.inr (some (vg_z h))) :: r) (vg_new h (100 + e.2.2.2.headD 0) n.toNatClampNeg))
  | .anewarray _ => vi_i st (fun n r => (¬ n < 0 ∧ n.toNatClampNeg ≤ 1000000) ∧ (uc + 1 ≤ (vg_rm M).cells ∧ us + n.toNatClampNeg ≤ (vg_rm M).slots) ∧ K (uc + 1) (us + n.toNatClampNeg) L (.inr (.inr (some (vg_z h))) :: r) (vg_new h (100 + e.2.2.2.headD 0) n.toNatClampNeg))
  | .invokestatic _ => match e.2.2.2 with
    | [k, _, _, _, _] => vi_ii st (fun x y r => vi_ws r ≤ 8 ∧ (uc ≤ (vg_rm M).cells ∧ us ≤ (vg_rm M).slots) ∧ (match k with
      | 0 => (∀ v, v = (if x < y then y else x) → K uc us L (.inl v :: r) h)
      | _ => (∀ v, v = (if y < x then y else x) → K uc us L (.inl v :: r) h)))
    | [_, _, _, _] => (match st with
      | .inl n :: .inl dp :: .inr (.inr o) :: .inl sp :: .inr (.inr o0) :: r => vi_o o0 (fun a0 => vi_o o (fun a => vi_ws r ≤ 8 ∧ h.1 a0 = 100 ∧ h.1 a = 100 ∧ ¬ sp < 0 ∧ ¬ dp < 0 ∧ ¬ n < 0 ∧ sp.toNatClampNeg + n.toNatClampNeg ≤ h.2.1 a0 ∧ dp.toNatClampNeg + n.toNatClampNeg ≤ h.2.1 a ∧ K uc us L r (vg_cp h a (va_cpy (h.2.2.1 a0) (h.2.2.1 a) sp.toNatClampNeg dp.toNatClampNeg n.toNatClampNeg))))
      | _ => False)
    | mi :: n :: _ => vi_pop n [] st (fun as r => vi_ws r ≤ 8 ∧ (uc + (vg_rm (MT mi)).cells ≤ (vg_rm M).cells ∧ us + (vg_rm (MT mi)).slots ≤ (vg_rm M).slots) ∧ vg_C G (MT mi) as h (vi_ret M Q (fun v h' => K (uc + (vg_rm (MT mi)).cells) (us + (vg_rm (MT mi)).slots) L (v.toList ++ r) h')))
    | _ => False
  | .invokevirtual _ => match e.2.2.2 with
    | mi :: n :: ci :: _ => vi_pop n [] st (fun as r0 => vi_r r0 (fun o r => vi_o o (fun a => h.1 a = ci + 1 ∧ vi_ws r ≤ 8 ∧ (uc + (vg_rm (MT mi)).cells ≤ (vg_rm M).cells ∧ us + (vg_rm (MT mi)).slots ≤ (vg_rm M).slots) ∧ vg_C G (MT mi) (.inr (.inr (some a)) :: as) h (vi_ret M Q (fun v h' => K (uc + (vg_rm (MT mi)).cells) (us + (vg_rm (MT mi)).slots) L (v.toList ++ r) h')))))
    | _ => False
  | .invokespecial _ => match e.2.2.2 with
    | [_, _, _] => vi_r st (fun o r => vi_o o (fun _ => vi_ws r + 12 ≤ (vg_rm M).locals ∧ K uc us L r h))
    | mi :: n :: _ => vi_pop n [] st (fun as r0 => vi_r r0 (fun o r => vi_o o (fun a => vi_ws r ≤ 8 ∧ (uc + (vg_rm (MT mi)).cells ≤ (vg_rm M).cells ∧ us + (vg_rm (MT mi)).slots ≤ (vg_rm M).slots) ∧ vg_C G (MT mi) (.inr (.inr (some a)) :: as) h (fun o h' => match o with
      | .inl v => K (uc + (vg_rm (MT mi)).cells) (us + (vg_rm (MT mi)).slots) L (v.toList ++ r) h'
      | .inr _ => False))))
    | _ => False
  | _ => False
/-- a word that every state keeps stands at place i -/
def vi_w (i : Nat) (c : Cond) : Bool := decide (lw_tbl[i]? = some c) && goodWord c
def vi_x (i : Nat) (c : Cond) : Bool := decide (lw_tbl[i]? = some c) && vg_wk c
theorem vi_w_ok {i : Nat} {c : Cond} (h : vi_w i c = true) : c ∈ vg_ws := by
  simp only [vi_w, Bool.and_eq_true, decide_eq_true_eq] at h
  exact vg_inW i h.1 h.2
theorem vi_x_ok {i : Nat} {c : Cond} (h : vi_x i c = true) : c ∈ vg_xs := by
  simp only [vi_x, Bool.and_eq_true, decide_eq_true_eq] at h
  exact vg_inX i h.1 h.2
/-- the call's words: link, code, class initialised (places), no handlers, parameters, room -/
def vi_cs (M N : vg_M) (idx n a b c : Nat) : Bool := vi_w a (.methodLink M.1.cls idx N.1) && vi_w b (.code N.1 N.2.1 N.2.2.1 N.2.2.2.1) && vi_w c (.initialized N.1.cls) && decide (N.2.2.2.2.1 = []) && decide (N.1.cls ≠ "java/lang/invoke/MethodHandle") && decide (N.1.cls ≠ "java/lang/invoke/VarHandle") && decide ((parseMethodDescriptor N.1.desc).map (fun d => d.parameters.length) = some n) && decide ((vg_rm N).frames + 1 ≤ (vg_rm M).frames) && decide (8 + (N.2.2.1 + 11) + (vg_rm N).locals ≤ (vg_rm M).locals)
theorem vi_cs_ok {M N : vg_M} {idx n a b c : Nat} (h : vi_cs M N idx n a b c = true) : vg_cs M N idx n := by
  simp only [vi_cs, Bool.and_eq_true, decide_eq_true_eq] at h
  obtain ⟨⟨⟨⟨⟨⟨⟨⟨h1, h2⟩, h3⟩, h4⟩, h5⟩, h6⟩, h7⟩, h8⟩, h9⟩ := h
  exact ⟨vi_w_ok h1, vi_w_ok h2, vi_w_ok h3, h4, ⟨h5, h6, h7⟩, h8, h9⟩
def vi_fld (M : vg_M) (idx ci k kd a : Nat) : Bool := match vwCl[ci]? with
  | some r => decide (k < r.2.2) && decide (vi_kd (vg_ty ci k) = kd) && decide (kd ≠ 9) && vi_w a (.fieldLink M.1.cls idx (r.2.1 k).1 (r.2.1 k).2.1 (r.2.1 k).2.2.1)
  | none => false
def vi_fin (M : vg_M) (ci k : Nat) : Bool := match vwCl[ci]? with
  | some r => decide ((r.2.1 k).2.2.2 = false) || (decide ((r.2.1 k).2.2.2 = true) && decide (M.1.name = "<init>") && decide ((r.2.1 k).1 = M.1.cls))
  | none => false
/-- what of an entry can be looked up once and for all -/
def vi_ok1 (MT : Nat → vg_M) (M : vg_M) (e : vi_E) : Bool := match e.2.2.1, e.2.2.2 with
  | .iload i, [j] => decide (i = j) && decide (e.2.1 = 2)
  | .iload_n i, [j] => decide ((i : Nat) = j) && decide (e.2.1 = 1)
  | .lload i, [j] => decide (i = j) && decide (e.2.1 = 2)
  | .lload_n i, [j] => decide ((i : Nat) = j) && decide (e.2.1 = 1)
  | .aload i, [j] => decide (i = j) && decide (e.2.1 = 2)
  | .aload_n i, [j] => decide ((i : Nat) = j) && decide (e.2.1 = 1)
  | .istore i, [j] => decide (i = j) && decide (e.2.1 = 2) && decide (j < M.2.2.1)
  | .istore_n i, [j] => decide ((i : Nat) = j) && decide (e.2.1 = 1) && decide (j < M.2.2.1)
  | .lstore i, [j] => decide (i = j) && decide (e.2.1 = 2) && decide (j + 1 < M.2.2.1)
  | .lstore_n i, [j] => decide ((i : Nat) = j) && decide (e.2.1 = 1) && decide (j + 1 < M.2.2.1)
  | .astore i, [j] => decide (i = j) && decide (e.2.1 = 2) && decide (j < M.2.2.1)
  | .astore_n i, [j] => decide ((i : Nat) = j) && decide (e.2.1 = 1) && decide (j < M.2.2.1)
  | .iinc n _, _ => (decide (e.2.1 = 3) || decide (e.2.1 = 6)) && decide (n < M.2.2.1)
  | .iconst n, [v] => decide (e.2.1 = 1) && decide (Int32.ofInt n = Int32.ofNat v)
  | .iconst n, _ => decide (e.2.1 = 1) && decide (n = -1)
  | .bipush n, [v] => decide (e.2.1 = 2) && decide ((Int8.ofInt n).toInt32 = Int32.ofNat v)
  | .sipush n, [v] => decide (e.2.1 = 3) && decide ((Int16.ofInt n).toInt32 = Int32.ofNat v)
  | .lconst n, [v] => decide (e.2.1 = 1) && decide ((n : Nat) = v)
  | .ldc i, [v, a] => decide (e.2.1 = 2) && vi_w a (.constant M.1.cls i (Int32.ofNat v))
  | .ldc_w i, [v, a] => decide (e.2.1 = 3) && vi_w a (.constant M.1.cls i (Int32.ofNat v))
  | .ldc2_w i, [v, a] => decide (e.2.1 = 3) && vi_w a (.constantLong M.1.cls i (Int64.ofNat v))
  | .ifCond _ off, [t] => decide (e.2.1 = 3) && decide ((e.1 : Int) + off = (t : Int))
  | .if_icmp _ off, [t] => decide (e.2.1 = 3) && decide ((e.1 : Int) + off = (t : Int))
  | .if_acmp _ off, [t] => decide (e.2.1 = 3) && decide ((e.1 : Int) + off = (t : Int))
  | .ifnull off, [t] => decide (e.2.1 = 3) && decide ((e.1 : Int) + off = (t : Int))
  | .ifnonnull off, [t] => decide (e.2.1 = 3) && decide ((e.1 : Int) + off = (t : Int))
  | .goto off, [t] => decide (e.2.1 = 3) && decide ((e.1 : Int) + off = (t : Int))
  | .tableswitch d lo hi offs, t :: ts => decide (lo = 0) && decide (hi = (ts.length : Int) - 1) && decide ((e.1 : Int) + d = (t : Int)) && decide (offs.toList.map (fun o => (e.1 : Int) + o) = ts.map (fun x : Nat => (x : Int)))
  | .return_, _ => decide (e.2.1 = 1) && decide (M.2.2.2.1 = none)
  | .ireturn, _ => decide (e.2.1 = 1)
  | .lreturn, _ => decide (e.2.1 = 1) && decide (M.2.2.2.1 = some .long)
  | .areturn, _ => decide (e.2.1 = 1) && (match M.2.2.2.1 with
    | some (.object _) => true
    | _ => false)
  | .getfield idx, [ci, k, kd, a] => decide (e.2.1 = 3) && vi_fld M idx ci k kd a
  | .putfield idx, [ci, k, kd, a] => decide (e.2.1 = 3) && vi_fld M idx ci k kd a && vi_fin M ci k
  | .getstatic idx, [i, a, 0] => decide (e.2.1 = 3) && decide (i < 4) && vi_w a (.fieldLink M.1.cls idx (vi_sn i).1 (vi_sn i).2.1 (vi_sn i).2.2)
  | .getstatic idx, [i, a, 1] => decide (e.2.1 = 3) && decide (i < 4) && vi_x a (.fieldLinkNest M.1.cls idx (vi_sn i).1 (vi_sn i).2.1 (vi_sn i).2.2 "ParkOffice")
  | .aaload, [t] => decide (e.2.1 = 1) && (match vg_tys[t]? with
    | some (.object _) => true
    | _ => false)
  | .aastore, [t, ci] => decide (e.2.1 = 1) && (match vwCl[ci]? with
    | some r => decide (vg_tys[t]? = some (.object r.1))
    | none => false)
  | .new idx, [ci, N, a, b, c] => decide (e.2.1 = 3) && (match vwCl[ci]? with
    | some r => decide (N = r.2.2) && vi_w a (.classLink M.1.cls idx r.1) && vi_w b (.instantiable r.1 r.2.2) && vi_w c (.initialized r.1)
    | none => false)
  | .newarray ty, [t, a] => decide (e.2.1 = 2) && decide (t < 3) && decide (vg_tys[t]? = some (newarray.typeOf ty)) && vi_w a (.arrayClass (newarray.typeOf ty))
  | .anewarray idx, [t, a, b] => decide (e.2.1 = 3) && (match vg_tys[t]? with
    | some (.object C) => vi_w a (.classLink M.1.cls idx C) && vi_x b (.arrayOver (.object C))
    | _ => false)
  | .invokestatic idx, [0, a, b, c, d] => decide (e.2.1 = 3) && vi_w a (.methodLink M.1.cls idx Lib.Math.max.name) && vi_w b (.static Lib.Math.max.name) && vi_w c (.initialized "java/lang/Math") && vi_w d (.code Lib.Math.max.name Lib.Math.max.code 2 (some .int)) && decide (1 ≤ (vg_rm M).frames) && decide (21 ≤ (vg_rm M).locals)
  | .invokestatic idx, [1, a, b, c, d] => decide (e.2.1 = 3) && vi_w a (.methodLink M.1.cls idx Lib.Math.min.name) && vi_w b (.static Lib.Math.min.name) && vi_w c (.initialized "java/lang/Math") && vi_w d (.code Lib.Math.min.name Lib.Math.min.code 2 (some .int)) && decide (1 ≤ (vg_rm M).frames) && decide (21 ≤ (vg_rm M).locals)
  | .invokestatic idx, [a, b, c, d] => decide (e.2.1 = 3) && vi_w a (.methodLink M.1.cls idx arraycopyName) && vi_w b (.native arraycopyName) && vi_w c (.static arraycopyName) && vi_w d (.initialized "java/lang/System") && decide (1 ≤ (vg_rm M).frames) && decide (8 + (nativeFrameWords "java/lang/System" "arraycopy" 5 + 11) ≤ (vg_rm M).locals)
  | .invokestatic idx, [mi, n, a, b, c, d] => decide (e.2.1 = 3) && vi_cs M (MT mi) idx n a b c && vi_w d (.static (MT mi).1)
  | .invokevirtual idx, [mi, n, ci, a, b, c, d, f] => decide (e.2.1 = 3) && vi_cs M (MT mi) idx n a b c && vi_w d (.instanceMethod (MT mi).1) && vi_w f (.selects (MT mi).1.cls (MT mi).1 (MT mi).1) && (match vwCl[ci]? with
    | some r => decide ((MT mi).1.cls = r.1)
    | none => false)
  | .invokespecial idx, [a, b, c] => decide (e.2.1 = 3) && vi_w a (.methodLink M.1.cls idx objectInit) && vi_w b (.instanceMethod objectInit) && vi_w c (.code objectInit ⟨#[0xb1]⟩ 1 none) && decide (1 ≤ (vg_rm M).frames)
  | .invokespecial idx, [mi, n, a, b, c, d] => decide (e.2.1 = 3) && vi_cs M (MT mi) idx n a b c && vi_w d (.instanceMethod (MT mi).1) && decide ((MT mi).1.name = "<init>") && decide ((MT mi).2.2.2.1 = none)
  | .invokespecial idx, [mi, n, a, b, c, d, 1] => decide (e.2.1 = 3) && vi_x a (.methodLinkNest M.1.cls idx (MT mi).1 "ParkOffice") && vi_w b (.code (MT mi).1 (MT mi).2.1 (MT mi).2.2.1 (MT mi).2.2.2.1) && vi_w c (.initialized (MT mi).1.cls) && decide ((MT mi).2.2.2.2.1 = []) && decide ((MT mi).1.cls ≠ "java/lang/invoke/MethodHandle") && decide ((MT mi).1.cls ≠ "java/lang/invoke/VarHandle") && decide ((parseMethodDescriptor (MT mi).1.desc).map (fun d => d.parameters.length) = some n) && decide ((vg_rm (MT mi)).frames + 1 ≤ (vg_rm M).frames) && decide (8 + ((MT mi).2.2.1 + 11) + (vg_rm (MT mi)).locals ≤ (vg_rm M).locals) && vi_w d (.instanceMethod (MT mi).1) && decide ((MT mi).1.name = "<init>") && decide ((MT mi).2.2.2.1 = none)
  | .iadd, _ => decide (e.2.1 = 1)
  | .isub, _ => decide (e.2.1 = 1)
  | .imul, _ => decide (e.2.1 = 1)
  | .iand, _ => decide (e.2.1 = 1)
  | .idiv, _ => decide (e.2.1 = 1)
  | .irem, _ => decide (e.2.1 = 1)
  | .ineg, _ => decide (e.2.1 = 1)
  | .ladd, _ => decide (e.2.1 = 1)
  | .lsub, _ => decide (e.2.1 = 1)
  | .land, _ => decide (e.2.1 = 1)
  | .lcmp, _ => decide (e.2.1 = 1)
  | .lshl, _ => decide (e.2.1 = 1)
  | .lshr, _ => decide (e.2.1 = 1)
  | .i2l, _ => decide (e.2.1 = 1)
  | .l2i, _ => decide (e.2.1 = 1)
  | .aconst_null, _ => decide (e.2.1 = 1)
  | .dup, _ => decide (e.2.1 = 1)
  | .dup2, _ => decide (e.2.1 = 1)
  | .iaload, _ => decide (e.2.1 = 1)
  | .laload, _ => decide (e.2.1 = 1)
  | .baload, _ => decide (e.2.1 = 1)
  | .iastore, _ => decide (e.2.1 = 1)
  | .lastore, _ => decide (e.2.1 = 1)
  | .bastore, _ => decide (e.2.1 = 1)
  | .arraylength, _ => decide (e.2.1 = 1)
  | _, _ => false
