/-! ===== the machine's layer: an abstract heap, what stands for it in the machine's heap, one judgement ===== -/
abbrev vg_V : Type := Int32 ⊕ (Int64 ⊕ Option Nat)
def vg_v (x : vg_V) : Value := match x with
  | .inl a => .int a
  | .inr (.inl a) => .long a
  | .inr (.inr o) => va_rf o
/-- kinds (0 none, ci + 1 an object of class ci, 100 + t an array of type t, 200 an old int array), lengths, ints, longs, references, the next address -/
abbrev vg_H : Type := (Nat → Nat) × (Nat → Nat) × (Nat → Nat → Int32) × (Nat → Nat → Int64) × (Nat → Nat → Option Nat) × Nat
abbrev vg_k (h : vg_H) : Nat → Nat := h.1
abbrev vg_n (h : vg_H) : Nat → Nat := h.2.1
abbrev vg_i (h : vg_H) : Nat → Nat → Int32 := h.2.2.1
abbrev vg_l (h : vg_H) : Nat → Nat → Int64 := h.2.2.2.1
abbrev vg_r (h : vg_H) : Nat → Nat → Option Nat := h.2.2.2.2.1
abbrev vg_z (h : vg_H) : Nat := h.2.2.2.2.2
def vg_wi (h : vg_H) (a k : Nat) (x : Int32) : vg_H := (h.1, h.2.1, va_up h.2.2.1 a (va_up (h.2.2.1 a) k x), h.2.2.2.1, h.2.2.2.2.1, h.2.2.2.2.2)
def vg_wl (h : vg_H) (a k : Nat) (x : Int64) : vg_H := (h.1, h.2.1, h.2.2.1, va_up h.2.2.2.1 a (va_up (h.2.2.2.1 a) k x), h.2.2.2.2.1, h.2.2.2.2.2)
def vg_wr (h : vg_H) (a k : Nat) (x : Option Nat) : vg_H := (h.1, h.2.1, h.2.2.1, h.2.2.2.1, va_up h.2.2.2.2.1 a (va_up (h.2.2.2.2.1 a) k x), h.2.2.2.2.2)
/-- a new cell of kind c, of n places, all zero -/
def vg_new (h : vg_H) (c n : Nat) : vg_H := (va_up h.1 h.2.2.2.2.2 c, va_up h.2.1 h.2.2.2.2.2 n, va_up h.2.2.1 h.2.2.2.2.2 (fun _ => 0), va_up h.2.2.2.1 h.2.2.2.2.2 (fun _ => 0), va_up h.2.2.2.2.1 h.2.2.2.2.2 (fun _ => none), h.2.2.2.2.2 + 1)
/-- a cell of no kind more (an exception) -/
def vg_skip (h : vg_H) (n : Nat) : vg_H := (h.1, h.2.1, h.2.2.1, h.2.2.2.1, h.2.2.2.2.1, n)
def vg_ty (ci : Nat) : Nat → FieldType := match ci with
  | 0 => tyX0
  | 1 => tyX1
  | 2 => tyX2
  | 3 => tyX3
  | 4 => tyX4
  | 5 => tyX5
  | 6 => tyX6
  | 7 => tyX7
  | 8 => tyX9
  | 9 => tyX10
  | _ => tyX11
def vg_tys : List FieldType := [.int, .long, .boolean, .object RX1, .object RX3, .object RX4, .object RX5, .object RX6, .object RX7, .object RX9]
def vg_val (ty : FieldType) (h : vg_H) (a k : Nat) : Value := match ty with
  | .long => .long (h.2.2.2.1 a k)
  | .object _ => va_rf (h.2.2.2.2.1 a k)
  | .array _ => va_rf (h.2.2.2.2.1 a k)
  | .float => .float 0
  | .double => .double 0
  | _ => .int (h.2.2.1 a k)
theorem vg_val_of {ty : FieldType} {h h' : vg_H} {a k : Nat} (e : h'.2.2.1 a k = h.2.2.1 a k ∧ h'.2.2.2.1 a k = h.2.2.2.1 a k ∧ h'.2.2.2.2.1 a k = h.2.2.2.2.1 a k) : vg_val ty h' a k = vg_val ty h a k := by
  obtain ⟨e1, e2, e3⟩ := e
  cases ty <;> simp only [vg_val, e1, e2, e3]
/-- the tables' words that every state keeps -/
def vg_ws : List Cond := lw_tbl.filter goodWord
theorem vg_good : GoodIn lw_tbl vg_ws := fun w h => ⟨(List.mem_filter.mp h).1, good_of_word (List.mem_filter.mp h).2⟩
theorem vg_goodSelf : GoodIn vg_ws vg_ws := fun w h => ⟨h, good_of_word (List.mem_filter.mp h).2⟩
theorem vg_inW {w : Cond} (i : Nat) (h : lw_tbl[i]? = some w) (g : goodWord w = true) : w ∈ vg_ws := List.mem_filter.mpr ⟨List.mem_of_getElem? h, g⟩
/-- of a run: the classes' numbers and slots, the array classes, the first address that is new, the heap of the start, where constants lie -/
abbrev vg_G : Type := va_G × List (ClassId × FieldType) × Nat × Heap × (Nat → Nat)
abbrev vg_b (G : vg_G) : Nat := G.2.2.1
abbrev vg_Fr (G : vg_G) : Nat → Prop := fun q => G.2.2.1 ≤ q
def vg_Rep (G : vg_G) (h : vg_H) (H : Heap) : Prop :=
  H.size = vg_z h ∧ vg_b G ≤ H.size ∧ (∀ q, q < vg_b G → H[q]? = G.2.2.2.1[q]?) ∧
  (∀ (a ci : Nat) (r : vw_C), h.1 a = ci + 1 → vwCl[ci]? = some r → vg_b G ≤ a ∧ t_OB a (G.1.1 ci) r.2.2 (G.1.2 ci) H (fun k => vg_val (vg_ty ci k) h a k)) ∧
  (∀ (a t : Nat) (x : ClassId × FieldType), h.1 a = 100 + t → G.2.1[t]? = some x → vg_b G ≤ a ∧ H[a]? = some (arrV x.1 (h.2.1 a) (fun j => vg_val x.2 h a j))) ∧
  (∀ a : Nat, h.1 a = 200 → a < vg_b G ∧ ∃ cell : Cell, H[a]? = some cell ∧ cell.vm ≠ .unknown ∧ cell.slots.size = h.2.1 a ∧ ∀ j, j < h.2.1 a → cell.slots[j]? = some (.int (h.2.2.1 a j)))
/-- one cell of ours is written -/
theorem vg_Rep.set {G : vg_G} {h h' : vg_H} {H H' : Heap} {a : Nat} (hR : vg_Rep G h H) (ha : vg_b G ≤ a) (hz : H'.size = H.size) (ho : ∀ q : Nat, q ≠ a → H'[q]? = H[q]?) (e1 : h'.1 = h.1) (e2 : h'.2.1 = h.2.1) (e3 : vg_z h' = vg_z h)
    (hv : ∀ b : Nat, b ≠ a → ∀ k, h'.2.2.1 b k = h.2.2.1 b k ∧ h'.2.2.2.1 b k = h.2.2.2.1 b k ∧ h'.2.2.2.2.1 b k = h.2.2.2.2.1 b k)
    (hob : ∀ (ci : Nat) (r : vw_C), h.1 a = ci + 1 → vwCl[ci]? = some r → t_OB a (G.1.1 ci) r.2.2 (G.1.2 ci) H' (fun k => vg_val (vg_ty ci k) h' a k))
    (har : ∀ (t : Nat) (x : ClassId × FieldType), h.1 a = 100 + t → G.2.1[t]? = some x → H'[a]? = some (arrV x.1 (h.2.1 a) (fun j => vg_val x.2 h' a j))) : vg_Rep G h' H' := by
  obtain ⟨r1, r2, r3, r4, r5, r6⟩ := hR
  refine ⟨by rw [hz, r1, e3], by rw [hz]; exact r2, fun q hq => ?_, fun b ci r hb hr => ?_, fun b t x hb hx => ?_, fun b hb => ?_⟩
  · rw [ho q (by omega)]; exact r3 q hq
  · rw [e1] at hb
    by_cases hba : b = a
    · subst hba; exact ⟨ha, hob ci r hb hr⟩
    · obtain ⟨q1, q2⟩ := r4 b ci r hb hr
      exact ⟨q1, t_OB.to (t_OB.kept q2 (ho b hba)) (fun k _ => (vg_val_of (hv b hba k)).symm)⟩
  · rw [e1] at hb
    by_cases hba : b = a
    · subst hba; rw [e2]; exact ⟨ha, har t x hb hx⟩
    · obtain ⟨q1, q2⟩ := r5 b t x hb hx
      refine ⟨q1, ?_⟩
      rw [ho b hba, q2, e2]
      congr 2
      funext j
      exact (vg_val_of (hv b hba j)).symm
  · rw [e1] at hb
    obtain ⟨q1, cell, q2, q3, q4, q5⟩ := r6 b hb
    have hba : b ≠ a := by omega
    exact ⟨q1, cell, by rw [ho b hba]; exact q2, q3, by rw [e2]; exact q4, fun j hj => by rw [(hv b hba j).1]; rw [e2] at hj; exact q5 j hj⟩
/-- a cell is new -/
theorem vg_Rep.new {G : vg_G} {h : vg_H} {H H' : Heap} {c n : Nat} (hR : vg_Rep G h H) (hz : H'.size = H.size + 1) (ho : ∀ q : Nat, q < H.size → H'[q]? = H[q]?)
    (hob : ∀ (ci : Nat) (r : vw_C), c = ci + 1 → vwCl[ci]? = some r → t_OB H.size (G.1.1 ci) r.2.2 (G.1.2 ci) H' (fun k => defaultValue (vg_ty ci k)))
    (har : ∀ (t : Nat) (x : ClassId × FieldType), c = 100 + t → G.2.1[t]? = some x → H'[H.size]? = some (arrV x.1 n (fun _ => defaultValue x.2)))
    (hc : c ≠ 200) : vg_Rep G (vg_new h c n) H' := by
  have hd : ∀ (ty : FieldType) (k : Nat), vg_val ty (vg_new h c n) (vg_z h) k = defaultValue ty := by
    intro ty k
    cases ty <;> simp [vg_val, vg_new, va_up, defaultValue, va_rf]
  have hv : ∀ b : Nat, b ≠ vg_z h → ∀ (ty : FieldType) (k : Nat), vg_val ty (vg_new h c n) b k = vg_val ty h b k := by
    intro b hb ty k
    cases ty <;> simp [vg_val, vg_new, va_up, hb]
  have hk : ∀ b : Nat, b ≠ vg_z h → (vg_new h c n).1 b = h.1 b ∧ (vg_new h c n).2.1 b = h.2.1 b ∧ (vg_new h c n).2.2.1 b = h.2.2.1 b := by
    intro b hb
    simp [vg_new, va_up, hb]
  have hk0 : (vg_new h c n).1 (vg_z h) = c ∧ (vg_new h c n).2.1 (vg_z h) = n := by simp [vg_new, va_up]
  obtain ⟨r1, r2, r3, r4, r5, r6⟩ := hR
  have r1' : vg_z h = H.size := r1.symm
  refine ⟨by rw [hz, r1]; rfl, by omega, fun q hq => ?_, fun b ci r hb hr => ?_, fun b t x hb hx => ?_, fun b hb => ?_⟩
  · rw [ho q (by omega)]; exact r3 q hq
  · by_cases hbn : b = vg_z h
    · subst hbn
      rw [hk0.1] at hb
      refine ⟨by omega, ?_⟩
      have q := hob ci r hb hr
      rw [← r1'] at q
      exact t_OB.to q (fun k _ => (hd _ k).symm)
    · rw [(hk b hbn).1] at hb
      obtain ⟨q1, q2⟩ := r4 b ci r hb hr
      obtain ⟨cell, q3, -⟩ := id q2
      have hlt := (Array.getElem?_eq_some_iff.mp q3).1
      exact ⟨q1, t_OB.to (t_OB.kept q2 (ho b hlt)) (fun k _ => (hv b hbn _ k).symm)⟩
  · by_cases hbn : b = vg_z h
    · subst hbn
      rw [hk0.1] at hb
      refine ⟨by omega, ?_⟩
      have q := har t x hb hx
      rw [← r1'] at q
      rw [q, hk0.2]
      congr 2
      funext j
      exact (hd _ j).symm
    · rw [(hk b hbn).1] at hb
      obtain ⟨q1, q2⟩ := r5 b t x hb hx
      have hlt := (Array.getElem?_eq_some_iff.mp q2).1
      refine ⟨q1, ?_⟩
      rw [ho b hlt, q2, (hk b hbn).2.1]
      congr 2
      funext j
      exact (hv b hbn _ j).symm
  · by_cases hbn : b = vg_z h
    · subst hbn
      rw [hk0.1] at hb
      exact absurd hb hc
    · rw [(hk b hbn).1] at hb
      obtain ⟨q1, cell, q2, q3, q4, q5⟩ := r6 b hb
      have hlt := (Array.getElem?_eq_some_iff.mp q2).1
      exact ⟨q1, cell, by rw [ho b hlt]; exact q2, q3, by rw [(hk b hbn).2.1]; exact q4, fun j hj => by rw [(hk b hbn).2.2]; rw [(hk b hbn).2.1] at hj; exact q5 j hj⟩
/-- cells more, of no kind -/
theorem vg_Rep.skip {G : vg_G} {h : vg_H} {H H' : Heap} (hR : vg_Rep G h H) (hz : H.size ≤ H'.size) (ho : ∀ q : Nat, q < H.size → H'[q]? = H[q]?) : vg_Rep G (vg_skip h H'.size) H' := by
  obtain ⟨r1, r2, r3, r4, r5, r6⟩ := hR
  refine ⟨rfl, by omega, fun q hq => ?_, fun b ci r hb hr => ?_, fun b t x hb hx => ?_, fun b hb => ?_⟩
  · rw [ho q (by omega)]; exact r3 q hq
  · obtain ⟨q1, q2⟩ := r4 b ci r hb hr
    obtain ⟨cell, q3, -⟩ := id q2
    exact ⟨q1, t_OB.to (t_OB.kept q2 (ho b (Array.getElem?_eq_some_iff.mp q3).1)) (fun k _ => (vg_val_of ⟨rfl, rfl, rfl⟩).symm)⟩
  · obtain ⟨q1, q2⟩ := r5 b t x hb hx
    refine ⟨q1, ?_⟩
    rw [ho b (Array.getElem?_eq_some_iff.mp q2).1, q2]
    rfl
  · obtain ⟨q1, cell, q2, q3⟩ := r6 b hb
    exact ⟨q1, cell, by rw [ho b (Array.getElem?_eq_some_iff.mp q2).1]; exact q2, q3⟩
/-- words that stay true when the tables grow warmer, by laws of their own -/
def vg_wk : Cond → Bool
  | .methodLinkNest .. => true
  | .fieldLinkNest .. => true
  | .castable .. => true
  | .declares _ => true
  | .arrayOver (.object _) => true
  | _ => false
def vg_xs : List Cond := lw_tbl.filter vg_wk
theorem vg_inX {w : Cond} (i : Nat) (h : lw_tbl[i]? = some w) (g : vg_wk w = true) : w ∈ vg_xs := List.mem_filter.mpr ⟨List.mem_of_getElem? h, g⟩
theorem vg_wk_moved {w : Cond} {s U : State} (hW : s.WarmedH U.vm) (g : vg_wk w = true) (h : va_Nw w s) : va_Nw w U := by
  cases w with
  | methodLinkNest a i x hst => exact va_Nw.warmM hW h
  | fieldLinkNest a i b n d hst => exact va_Nw.warmF hW h
  | castable C T => exact va_Nw.warmC hW h
  | declares x => exact va_Nw.warmD hW h
  | arrayOver ty =>
    cases ty with
    | object C => exact va_AO.moved hW.alike h
    | _ => cases g
  | _ => cases g
/-- what holds of the tables and of the old cells at every state of the run -/
def vg_St (G : vg_G) (U : State) : Prop :=
  va_K G.1 vwCl G.2.1 U ∧ G.2.1.map (fun x => x.2) = vg_tys ∧ vg_b G ≤ U.heap.size ∧ (∀ q, q < vg_b G → U.heap[q]? = G.2.2.2.1[q]?) ∧
  va_Z "ParkOffice" "COINS" "[I" (.ref (G.2.2.2.2 0)) (vg_Fr G) U U.heap ∧
  va_Z "ParkOffice$TicketState" "INSIDE" "LParkOffice$TicketState;" (.ref (G.2.2.2.2 1)) (vg_Fr G) U U.heap ∧
  va_Z "ParkOffice$TicketState" "GONE" "LParkOffice$TicketState;" (.ref (G.2.2.2.2 2)) (vg_Fr G) U U.heap ∧
  va_Z "ParkOffice$TicketState" "REPLACED" "LParkOffice$TicketState;" (.ref (G.2.2.2.2 3)) (vg_Fr G) U U.heap ∧
  vx_Zq Bundle.tN "UNASSIGNED_STACK" Bundle.steD (vg_Fr G) U U.heap ∧ vx_Zq Bundle.tN "SUPPRESSED_SENTINEL" Bundle.listD (vg_Fr G) U U.heap ∧
  va_Nc "java/lang/IllegalStateException" "java/lang/IllegalArgumentException" U ∧
  (∀ (a : Nat) (cell : Cell), a < vg_b G → (a = G.2.2.2.2 0 ∨ a = G.2.2.2.2 4) → G.2.2.2.1[a]? = some cell → U.isArrayOf cell .int) ∧
  (∀ w ∈ vg_xs, va_Nw w U)
theorem vg_St.moved {G : vg_G} {u U : State} (hW : u.WarmedH U.vm) (hh : vg_b G ≤ U.heap.size) (hq : ∀ q, q < vg_b G → U.heap[q]? = G.2.2.2.1[q]?) (h : vg_St G u) : vg_St G U := by
  obtain ⟨h1, h2, h3, h4, h5, h6, h7, h8, h9, h10, h11, h12, h13⟩ := h
  have hvm := hW.alike
  have kp : ∀ a : Nat, a < u.heap.size → ¬ vg_Fr G a → U.heap[a]? = u.heap[a]? := fun a _ ha => by
    have : a < vg_b G := Nat.not_le.mp ha
    rw [hq a this, h4 a this]
  exact ⟨va_K.moved hvm h1, h2, hh, hq, (h5.moved hvm).kept kp, (h6.moved hvm).kept kp, (h7.moved hvm).kept kp, (h8.moved hvm).kept kp, (h9.moved hvm).kept kp, (h10.moved hvm).kept kp, h11.moved hvm, fun a cell ha ho hc => State.isArrayOf_alike hvm (h12 a cell ha ho hc),
    fun w hw => vg_wk_moved hW (List.mem_filter.mp hw).2 (h13 w hw)⟩
/-- frames on the stack don't matter -/
theorem vg_St.same {G : vg_G} {u U : State} (hvm : u.vm = U.vm) (hh : u.heap = U.heap) (h : vg_St G u) : vg_St G U := by
  refine vg_St.moved (by rw [← hvm]; exact State.WarmedH.refl u) ?_ ?_ h
  · rw [← hh]; exact h.2.2.1
  · rw [← hh]; exact h.2.2.2.1
/-! locals by their places -/
def vg_as : Nat → List (Option vg_V) → List (Nat × Value)
  | _, [] => []
  | n, none :: r => vg_as (n + 1) r
  | n, some v :: r => (n, vg_v v) :: vg_as (n + 1) r
theorem vg_as_mem : ∀ (L : List (Option vg_V)) (n : Nat) (q : Nat × Value), q ∈ vg_as n L ↔ ∃ (j : Nat) (w : vg_V), L[j]? = some (some w) ∧ q = (n + j, vg_v w)
  | [], n, q => by simp [vg_as]
  | none :: r, n, q => by
    rw [vg_as, vg_as_mem r (n + 1) q]
    constructor
    · rintro ⟨j, w, h1, h2⟩
      exact ⟨j + 1, w, by simpa using h1, by rw [h2]; congr 1; omega⟩
    · rintro ⟨j, w, h1, h2⟩
      cases j with
      | zero => simp at h1
      | succ j => exact ⟨j, w, by simpa using h1, by rw [h2]; congr 1; omega⟩
  | some v :: r, n, q => by
    rw [vg_as, List.mem_cons, vg_as_mem r (n + 1) q]
    constructor
    · rintro (h | ⟨j, w, h1, h2⟩)
      · exact ⟨0, v, rfl, by rw [h]; rfl⟩
      · exact ⟨j + 1, w, by simpa using h1, by rw [h2]; congr 1; omega⟩
    · rintro ⟨j, w, h1, h2⟩
      cases j with
      | zero =>
        simp at h1
        subst h1
        exact Or.inl h2
      | succ j => exact Or.inr ⟨j, w, by simpa using h1, by rw [h2]; congr 1; omega⟩
def vg_lh (ls : Array Slot) (nL : Nat) (L : List (Option vg_V)) : Prop := lv_has ls nL (vg_as 0 L)
theorem vg_lh.at {ls : Array Slot} {nL : Nat} {L : List (Option vg_V)} (h : vg_lh ls nL L) {i : Nat} {v : vg_V} (hi : L[i]? = some (some v)) : ls[i]? = some (.val (vg_v v)) :=
  h.2.2 (i, vg_v v) ((vg_as_mem L 0 _).mpr ⟨i, v, hi, by simp⟩)
def vg_lo (i : Nat) (x : Option vg_V) : Option vg_V := match i, x with
  | 0, some (.inr (.inl _)) => none
  | _, x => x
def vg_set1 : List (Option vg_V) → Nat → vg_V → List (Option vg_V)
  | [], _, _ => []
  | _ :: r, 0, v => some v :: r
  | x :: r, i + 1, v => vg_lo i x :: vg_set1 r i v
def vg_set2 : List (Option vg_V) → Nat → vg_V → List (Option vg_V)
  | [], _, _ => []
  | _ :: [], 0, v => [some v]
  | _ :: _ :: r, 0, v => some v :: none :: r
  | x :: r, i + 1, v => vg_lo i x :: vg_set2 r i v
theorem vg_lo_at {i : Nat} {x : Option vg_V} {w : vg_V} (h : vg_lo i x = some w) : x = some w ∧ ¬ (i = 0 ∧ (vg_v w).category = 2) := by
  cases i with
  | zero =>
    match x, h with
    | some (.inl a), h => cases h; exact ⟨rfl, by simp [vg_v, Value.category]⟩
    | some (.inr (.inr none)), h => cases h; exact ⟨rfl, by simp [vg_v, va_rf, Value.category]⟩
    | some (.inr (.inr (some a))), h => cases h; exact ⟨rfl, by simp [vg_v, va_rf, Value.category]⟩
  | succ i => exact ⟨h, by omega⟩
theorem vg_set1_at : ∀ (L : List (Option vg_V)) (i : Nat) (v : vg_V) (j : Nat) (w : vg_V), (vg_set1 L i v)[j]? = some (some w) → (j = i ∧ w = v) ∨ (j ≠ i ∧ ¬ (j + 1 = i ∧ (vg_v w).category = 2) ∧ L[j]? = some (some w))
  | [], i, v, j, w, h => by simp [vg_set1] at h
  | x :: r, 0, v, j, w, h => by
    cases j with
    | zero => simp [vg_set1] at h; exact Or.inl ⟨rfl, h.symm⟩
    | succ j => exact Or.inr ⟨by omega, by omega, by simpa [vg_set1] using h⟩
  | x :: r, i + 1, v, j, w, h => by
    cases j with
    | zero =>
      simp [vg_set1] at h
      obtain ⟨h1, h2⟩ := vg_lo_at h
      exact Or.inr ⟨by omega, fun q => h2 ⟨by omega, q.2⟩, by simp [h1]⟩
    | succ j =>
      have h' : (vg_set1 r i v)[j]? = some (some w) := by simpa [vg_set1] using h
      rcases vg_set1_at r i v j w h' with ⟨h1, h2⟩ | ⟨h1, h2, h3⟩
      · exact Or.inl ⟨by omega, h2⟩
      · exact Or.inr ⟨by omega, fun q => h2 ⟨by omega, q.2⟩, by simpa using h3⟩
theorem vg_set2_at : ∀ (L : List (Option vg_V)) (i : Nat) (v : vg_V) (j : Nat) (w : vg_V), (vg_set2 L i v)[j]? = some (some w) → (j = i ∧ w = v) ∨ (j ≠ i ∧ j ≠ i + 1 ∧ ¬ (j + 1 = i ∧ (vg_v w).category = 2) ∧ L[j]? = some (some w))
  | [], i, v, j, w, h => by simp [vg_set2] at h
  | x :: [], 0, v, j, w, h => by
    cases j with
    | zero => simp [vg_set2] at h; exact Or.inl ⟨rfl, h.symm⟩
    | succ j => simp [vg_set2] at h
  | x :: y :: r, 0, v, j, w, h => by
    match j, h with
    | 0, h => simp [vg_set2] at h; exact Or.inl ⟨rfl, h.symm⟩
    | 1, h => simp [vg_set2] at h
    | j + 2, h => exact Or.inr ⟨by omega, by omega, by omega, by simpa [vg_set2] using h⟩
  | x :: r, i + 1, v, j, w, h => by
    cases j with
    | zero =>
      simp [vg_set2] at h
      obtain ⟨h1, h2⟩ := vg_lo_at h
      exact Or.inr ⟨by omega, by omega, fun q => h2 ⟨by omega, q.2⟩, by simp [h1]⟩
    | succ j =>
      have h' : (vg_set2 r i v)[j]? = some (some w) := by simpa [vg_set2] using h
      rcases vg_set2_at r i v j w h' with ⟨h1, h2⟩ | ⟨h1, h2, h3, h4⟩
      · exact Or.inl ⟨by omega, h2⟩
      · exact Or.inr ⟨by omega, by omega, fun q => h3 ⟨by omega, q.2⟩, by simpa using h4⟩
theorem vg_lh.set1 {ls' : Array Slot} {nL i : Nat} {L : List (Option vg_V)} {v : vg_V} (h : lv_has ls' nL ((i, vg_v v) :: (vg_as 0 L).filter (fun q => !(q.1 == i) && !(q.1 + 1 == i && q.2.category == 2)))) : vg_lh ls' nL (vg_set1 L i v) := by
  refine ⟨h.1, h.2.1, fun q hq => ?_⟩
  obtain ⟨j, w, h1, rfl⟩ := (vg_as_mem _ 0 q).mp hq
  rcases vg_set1_at L i v j w h1 with ⟨h2, h3⟩ | ⟨h2, h3, h4⟩
  · subst h2; subst h3
    have := h.2.2 (j, vg_v w) List.mem_cons_self
    simpa using this
  · refine h.2.2 _ (List.mem_cons_of_mem _ (List.mem_filter.mpr ⟨(vg_as_mem L 0 _).mpr ⟨j, w, h4, rfl⟩, ?_⟩))
    simp only [Nat.zero_add, Bool.and_eq_true, Bool.not_eq_true', beq_eq_false_iff_ne, ne_eq, Bool.and_eq_false_imp, beq_iff_eq]
    exact ⟨h2, fun e1 e2 => h3 ⟨e1, e2⟩⟩
theorem vg_lh.set2 {ls' : Array Slot} {nL i : Nat} {L : List (Option vg_V)} {v : vg_V} (h : lv_has ls' nL ((i, vg_v v) :: (vg_as 0 L).filter (fun q => !(q.1 == i) && (!(q.1 == i + 1) && !(q.1 + 1 == i && q.2.category == 2))))) : vg_lh ls' nL (vg_set2 L i v) := by
  refine ⟨h.1, h.2.1, fun q hq => ?_⟩
  obtain ⟨j, w, h1, rfl⟩ := (vg_as_mem _ 0 q).mp hq
  rcases vg_set2_at L i v j w h1 with ⟨h2, h3⟩ | ⟨h2, h5, h3, h4⟩
  · subst h2; subst h3
    have := h.2.2 (j, vg_v w) List.mem_cons_self
    simpa using this
  · refine h.2.2 _ (List.mem_cons_of_mem _ (List.mem_filter.mpr ⟨(vg_as_mem L 0 _).mpr ⟨j, w, h4, rfl⟩, ?_⟩))
    simp only [Nat.zero_add, Bool.and_eq_true, Bool.not_eq_true', beq_eq_false_iff_ne, ne_eq, Bool.and_eq_false_imp, beq_iff_eq]
    exact ⟨h2, h5, fun e1 e2 => h3 ⟨e1, e2⟩⟩
/-- a loop's head: fewer locals are known -/
theorem vg_lh.less {ls : Array Slot} {nL : Nat} {L L' : List (Option vg_V)} (h : vg_lh ls nL L) (hL : ∀ (j : Nat) (w : vg_V), L'[j]? = some (some w) → L[j]? = some (some w)) : vg_lh ls nL L' :=
  ⟨h.1, h.2.1, fun q hq => by
    obtain ⟨j, w, h1, rfl⟩ := (vg_as_mem _ 0 q).mp hq
    exact h.2.2 _ ((vg_as_mem L 0 _).mpr ⟨j, w, hL j w h1, rfl⟩)⟩
