/-! ===== pictures of new cells ===== -/
abbrev PCell : Type := Nat × Nat × List (Nat × Int32) × List (Nat × Option Nat)
abbrev Pic : Type := Nat → PCell
def gi : List (Nat × Int32) → Nat → Int32
  | [], _ => 0
  | (j, v) :: t, k => cond (Nat.beq k j) v (gi t k)
def gx : List (Nat × Option Nat) → Nat → Option Nat
  | [], _ => none
  | (j, v) :: t, k => cond (Nat.beq k j) v (gx t k)
def gr (b : Nat) (l : List (Nat × Option Nat)) (k : Nat) : Option Nat := (gx l k).map (fun x => b + x)
def pn (C : Pic) (n c l : Nat) : Pic := fun o => cond (Nat.beq o n) (c, l, [], []) (C o)
def pI (C : Pic) (o k : Nat) (v : Int32) : Pic := fun p => cond (Nat.beq p o) ((C p).1, (C p).2.1, (k, v) :: (C p).2.2.1, (C p).2.2.2) (C p)
def pR (C : Pic) (o k : Nat) (v : Option Nat) : Pic := fun p => cond (Nat.beq p o) ((C p).1, (C p).2.1, (C p).2.2.1, (k, v) :: (C p).2.2.2) (C p)
/-- the cells from b on are as the picture has them, those before as they were -/
def PX (b : Nat) (C : Pic) (n : Nat) (h0 h : vg_H) : Prop := vg_z h = b + n ∧ (∀ a, a < b → h.1 a = h0.1 a ∧ h.2.1 a = h0.2.1 a ∧ h.2.2.1 a = h0.2.2.1 a) ∧ ∀ o, o < n → h.1 (b + o) = (C o).1 ∧ h.2.1 (b + o) = (C o).2.1 ∧ (∀ k, h.2.2.1 (b + o) k = gi (C o).2.2.1 k) ∧ (∀ k, h.2.2.2.2.1 (b + o) k = gr b (C o).2.2.2 k)
section PC
variable {b n o : Nat} {C : Pic} {h0 h : vg_H}
theorem cbt {α : Type} {o n : Nat} {x y : α} (e : o = n) : cond (Nat.beq o n) x y = x := by rw [e, Nat.beq_refl]; rfl
theorem cbf {α : Type} {o n : Nat} {x y : α} (e : ¬ o = n) : cond (Nat.beq o n) x y = y := by
  rw [show Nat.beq o n = false from by cases q : Nat.beq o n with | true => exact absurd (Nat.eq_of_beq_eq_true q) e | false => rfl]; rfl
theorem pn_ne {c l : Nat} (e : ¬ o = n) : pn C n c l o = C o := cbf e
theorem pn_eq {c l : Nat} : pn C n c l n = (c, l, [], []) := cbt rfl
theorem pI_k {p k : Nat} {v : Int32} : (pI C o k v p).1 = (C p).1 ∧ (pI C o k v p).2.1 = (C p).2.1 ∧ (pI C o k v p).2.2.2 = (C p).2.2.2 := by
  by_cases e : p = o
  · rw [show pI C o k v p = _ from cbt e]; exact ⟨rfl, rfl, rfl⟩
  · rw [show pI C o k v p = C p from cbf e]; exact ⟨rfl, rfl, rfl⟩
theorem pR_k {p k : Nat} {v : Option Nat} : (pR C o k v p).1 = (C p).1 ∧ (pR C o k v p).2.1 = (C p).2.1 ∧ (pR C o k v p).2.2.1 = (C p).2.2.1 := by
  by_cases e : p = o
  · rw [show pR C o k v p = _ from cbt e]; exact ⟨rfl, rfl, rfl⟩
  · rw [show pR C o k v p = C p from cbf e]; exact ⟨rfl, rfl, rfl⟩
theorem PX.start (h : vg_H) (C : Pic) : PX (vg_z h) C 0 h h := ⟨rfl, fun _ _ => ⟨rfl, rfl, rfl⟩, fun o ho => absurd ho (Nat.not_lt_zero _)⟩
theorem PX.new (H : PX b C n h0 h) (c l : Nat) : PX b (pn C n c l) (n + 1) h0 (vg_new h c l) := by
  obtain ⟨z, old, new⟩ := H
  refine ⟨?_, fun a ha => ?_, fun o ho => ?_⟩
  · show vg_z h + 1 = _
    rw [z]; rfl
  · have e : ¬ a = vg_z h := by omega
    obtain ⟨q1, q2, q3⟩ := old a ha
    exact ⟨by rw [nw_k, if_neg e]; exact q1, by rw [nw_n, if_neg e]; exact q2, by funext k; rw [nw_i, if_neg e, q3]⟩
  · by_cases e : o = n
    · subst e
      rw [pn_eq]
      have e : b + o = vg_z h := z.symm
      exact ⟨by rw [nw_k, if_pos e], by rw [nw_n, if_pos e], fun k => by rw [nw_i, if_pos e]; rfl, fun k => by rw [nw_r, if_pos e]; rfl⟩
    · rw [pn_ne e]
      have e2 : ¬ b + o = vg_z h := by omega
      obtain ⟨q1, q2, q3, q4⟩ := new o (by omega)
      exact ⟨by rw [nw_k, if_neg e2]; exact q1, by rw [nw_n, if_neg e2]; exact q2, fun k => by rw [nw_i, if_neg e2]; exact q3 k, fun k => by rw [nw_r, if_neg e2]; exact q4 k⟩
theorem PX.wi (H : PX b C n h0 h) (o k : Nat) (v : Int32) : PX b (pI C o k v) n h0 (vg_wi h (b + o) k v) := by
  obtain ⟨z, old, new⟩ := H
  refine ⟨z, fun a ha => ?_, fun p hp => ?_⟩
  · obtain ⟨q1, q2, q3⟩ := old a ha
    exact ⟨q1, q2, by funext j; rw [wi_i, if_neg (fun y => by omega), q3]⟩
  · obtain ⟨q1, q2, q3, q4⟩ := new p hp
    obtain ⟨e1, e2, e3⟩ := pI_k (C := C) (o := o) (p := p) (k := k) (v := v)
    refine ⟨by rw [e1]; exact q1, by rw [e2]; exact q2, fun j => ?_, fun j => by rw [e3]; exact q4 j⟩
    rw [wi_i]
    by_cases e : p = o
    · subst e
      rw [show (pI C p k v p).2.2.1 = (k, v) :: (C p).2.2.1 from by unfold pI; rw [cbt rfl]]
      show _ = cond (Nat.beq j k) v (gi (C p).2.2.1 j)
      by_cases e : j = k
      · rw [cbt e, if_pos ⟨rfl, e⟩]
      · rw [cbf e, if_neg (fun y => e y.2)]; exact q3 j
    · rw [show pI C o k v p = C p from cbf e, if_neg (fun y => e (by omega))]; exact q3 j
theorem PX.wr (H : PX b C n h0 h) (o k : Nat) (v : Option Nat) : PX b (pR C o k v) n h0 (vg_wr h (b + o) k (v.map (fun x => b + x))) := by
  obtain ⟨z, old, new⟩ := H
  refine ⟨z, old, fun p hp => ?_⟩
  · obtain ⟨q1, q2, q3, q4⟩ := new p hp
    obtain ⟨e1, e2, e3⟩ := pR_k (C := C) (o := o) (p := p) (k := k) (v := v)
    refine ⟨by rw [e1]; exact q1, by rw [e2]; exact q2, fun j => by rw [e3]; exact q3 j, fun j => ?_⟩
    rw [wr_r]
    by_cases e : p = o
    · subst e
      rw [show (pR C p k v p).2.2.2 = (k, v) :: (C p).2.2.2 from by unfold pR; rw [cbt rfl]]
      show _ = (cond (Nat.beq j k) v (gx (C p).2.2.2 j)).map (fun x => b + x)
      by_cases e : j = k
      · rw [cbt e, if_pos ⟨rfl, e⟩]
      · rw [cbf e, if_neg (fun y => e y.2)]; exact q4 j
    · rw [show pR C o k v p = C p from cbf e, if_neg (fun y => e (by omega))]; exact q4 j
theorem PX.k (H : PX b C n h0 h) {o c : Nat} (ho : o < n) (e : (C o).1 = c) : h.1 (b + o) = c := (H.2.2 o ho).1.trans e
theorem PX.l (H : PX b C n h0 h) {o c : Nat} (ho : o < n) (e : (C o).2.1 = c) : h.2.1 (b + o) = c := (H.2.2 o ho).2.1.trans e
theorem PX.i (H : PX b C n h0 h) {o k : Nat} {v : Int32} (ho : o < n) (e : gi (C o).2.2.1 k = v) : h.2.2.1 (b + o) k = v := ((H.2.2 o ho).2.2.1 k).trans e
theorem PX.r (H : PX b C n h0 h) {o k : Nat} {v : Option Nat} (ho : o < n) (e : gx (C o).2.2.2 k = v) : h.2.2.2.2.1 (b + o) k = v.map (fun x => b + x) := ((H.2.2 o ho).2.2.2 k).trans (by unfold gr; rw [e])
theorem okC_dt {MT : Nat → vg_M} {M : vg_M} {l1 l2 l3 : List vi_E} (h : vi_okC MT M (l1 ++ (l2 ++ l3)) = true) : vi_okC MT M l2 = true := by
  have ad : ∀ (l : List vi_E) (e : vi_E), vi_adj (e :: l) = true → vi_adj l = true := fun l e q => by
    cases l with
    | nil => rfl
    | cons x t => simp only [vi_adj, Bool.and_eq_true] at q; exact q.2
  have dr : ∀ (l m : List vi_E), vi_adj (l ++ m) = true → vi_adj m = true := fun l m => by
    induction l with
    | nil => exact id
    | cons x t ih => exact fun q => ih (ad _ _ q)
  have tk : ∀ (l m : List vi_E), vi_adj (l ++ m) = true → vi_adj l = true := fun l m => by
    induction l with
    | nil => exact fun _ => rfl
    | cons x t ih =>
      intro q
      cases t with
      | nil => rfl
      | cons y u =>
        simp only [List.cons_append, vi_adj, Bool.and_eq_true] at q ⊢
        exact ⟨q.1, ih q.2⟩
  simp only [vi_okC, Bool.and_eq_true, List.all_append] at h ⊢
  exact ⟨h.1.2.1, tk _ _ (dr _ _ h.2)⟩
end PC
