/-! ===== fields, arrays, new cells ===== -/
set_option maxRecDepth 100000 in
theorem vg_in0 : ∀ w ∈ u_ws RX0 TX0 4 ++ u_ws RX1 TX1 4 ++ u_ws RX2 TX2 9 ++ u_ws RX3 TX3 8 ++ u_ws RX4 TX4 3 ++ u_ws RX5 TX5 6 ++ u_ws RX6 TX6 3 ++ u_ws RX7 TX7 9 ++ u_ws RX9 TX9 5 ++ u_ws RX10 TX10 13, w ∈ vg_ws := by decide +kernel
set_option maxRecDepth 100000 in
theorem vg_in1 : ∀ w ∈ u_ws RX11 TX11 51, w ∈ vg_ws := by decide +kernel
theorem vg_in {ci : Nat} {r : vw_C} (hr : vwCl[ci]? = some r) : ∀ w ∈ u_ws r.1 r.2.1 r.2.2, w ∈ vg_ws := by
  intro w hw
  match ci, hr with
  | 0, hr => cases hr; exact vg_in0 w (by simp only [List.mem_append]; simp [hw])
  | 1, hr => cases hr; exact vg_in0 w (by simp only [List.mem_append]; simp [hw])
  | 2, hr => cases hr; exact vg_in0 w (by simp only [List.mem_append]; simp [hw])
  | 3, hr => cases hr; exact vg_in0 w (by simp only [List.mem_append]; simp [hw])
  | 4, hr => cases hr; exact vg_in0 w (by simp only [List.mem_append]; simp [hw])
  | 5, hr => cases hr; exact vg_in0 w (by simp only [List.mem_append]; simp [hw])
  | 6, hr => cases hr; exact vg_in0 w (by simp only [List.mem_append]; simp [hw])
  | 7, hr => cases hr; exact vg_in0 w (by simp only [List.mem_append]; simp [hw])
  | 8, hr => cases hr; exact vg_in0 w (by simp only [List.mem_append]; simp [hw])
  | 9, hr => cases hr; exact vg_in0 w (by simp only [List.mem_append]; simp [hw])
  | 10, hr => cases hr; exact vg_in1 w hw
  | k + 11, hr => simp [vwCl] at hr
theorem vg_tyok {ci : Nat} {r : vw_C} (hr : vwCl[ci]? = some r) : ∀ k, k < r.2.2 → parseFieldDescriptor (r.2.1 k).2.2.1 = some (vg_ty ci k) := by
  match ci, hr with
  | 0, hr => cases hr; exact tyX0_ok
  | 1, hr => cases hr; exact tyX1_ok
  | 2, hr => cases hr; exact tyX2_ok
  | 3, hr => cases hr; exact tyX3_ok
  | 4, hr => cases hr; exact tyX4_ok
  | 5, hr => cases hr; exact tyX5_ok
  | 6, hr => cases hr; exact tyX6_ok
  | 7, hr => cases hr; exact tyX7_ok
  | 8, hr => cases hr; exact tyX9_ok
  | 9, hr => cases hr; exact tyX10_ok
  | 10, hr => cases hr; exact tyX11_ok
  | k + 11, hr => simp [vwCl] at hr
theorem vg_nm {ci : Nat} {r : vw_C} (hr : vwCl[ci]? = some r) : ∀ a, a < r.2.2 → ∀ b, b < r.2.2 → a ≠ b → (r.2.1 a).2.1 ≠ (r.2.1 b).2.1 := by
  match ci, hr with
  | 0, hr => cases hr; exact nmX0
  | 1, hr => cases hr; exact nmX1
  | 2, hr => cases hr; exact nmX2
  | 3, hr => cases hr; exact nmX3
  | 4, hr => cases hr; exact nmX4
  | 5, hr => cases hr; exact nmX5
  | 6, hr => cases hr; exact nmX6
  | 7, hr => cases hr; exact nmX7
  | 8, hr => cases hr; exact nmX9
  | 9, hr => cases hr; exact nmX10
  | 10, hr => cases hr; exact nmX11
  | k + 11, hr => simp [vwCl] at hr
/-- the fields' link word, by class and place -/
def vg_fl (own : String) (idx ci k : Nat) : Cond := match vwCl[ci]? with
  | some r => .fieldLink own idx (r.2.1 k).1 (r.2.1 k).2.1 (r.2.1 k).2.2.1
  | none => .tt
section VH
variable {G : vg_G} {M : vg_M} {uc us pc : Nat} {L : List (Option vg_V)} {st : List vg_V} {h : vg_H} {Q : vg_O → vg_H → Prop}
theorem vr_get {idx ci k a : Nat} {r : vw_C} {v : vg_V} (hr : vwCl[ci]? = some r) (hk : k < r.2.2) (hw : Cond.fieldLink M.1.cls idx (r.2.1 k).1 (r.2.1 k).2.1 (r.2.1 k).2.2.1 ∈ vg_ws) (hd : decode M.2.1 pc = .ok (.getfield idx, 3))
    (ha : h.1 a = ci + 1) (hv : vg_val (vg_ty ci k) h a k = vg_v v) (kk : vg_A G M uc us (pc + 3) L (v :: st) h Q) : vg_A G M uc us pc L (.inr (.inr (some a)) :: st) h Q := by
  intro p l e R s m args below meth c F H locs ls hR hlo hl
  obtain ⟨hx, hb, hml, hrt, hlk, hown, hnm, hts, hSt, hRm, hxt, hst⟩ := id F
  obtain ⟨-, cell, q1, q2, q3, q4⟩ := hR.2.2.2.1 a ci r ha hr
  obtain ⟨hS, hfc, kC, hkC, hkind⟩ := hSt.1.1 ci r hr
  obtain ⟨cf, kf, fi, f, hi, hsl⟩ := hS k hk
  refine W.getf (v := vg_v v) hx hb hown (hts _ hw) hi (u_facts hfc hkC (u_lays hts (vg_in hr) hk) hi).1 q1 (by rw [q3]; exact fun h => by cases h) ?_ rfl rfl hd (kk p l e R s m args below meth c F H locs ls hR hlo hl)
  rw [hsl, q4 k hk]; exact congrArg some hv
/-- what a store of v at k into the cell a makes of the heap -/
def vg_Put (h h' : vg_H) (a k : Nat) (ty : FieldType) (v : vg_V) : Prop :=
  h'.1 = h.1 ∧ h'.2.1 = h.2.1 ∧ vg_z h' = vg_z h ∧ (∀ b : Nat, b ≠ a → ∀ j, h'.2.2.1 b j = h.2.2.1 b j ∧ h'.2.2.2.1 b j = h.2.2.2.1 b j ∧ h'.2.2.2.2.1 b j = h.2.2.2.2.1 b j) ∧
  (∀ j, j ≠ k → h'.2.2.1 a j = h.2.2.1 a j ∧ h'.2.2.2.1 a j = h.2.2.2.1 a j ∧ h'.2.2.2.2.1 a j = h.2.2.2.2.1 a j) ∧ vg_val ty h' a k = vg_v v
theorem vg_putI (h : vg_H) (a k : Nat) (x : Int32) {ty : FieldType} (ht : ty = .int ∨ ty = .boolean) : vg_Put h (vg_wi h a k x) a k ty (.inl x) := by
  refine ⟨rfl, rfl, rfl, fun b hb j => ⟨by simp [vg_wi, va_up, hb], rfl, rfl⟩, fun j hj => ⟨by simp [vg_wi, va_up, hj], rfl, rfl⟩, ?_⟩
  rcases ht with rfl | rfl <;> simp [vg_val, vg_wi, va_up, vg_v]
theorem vg_putL (h : vg_H) (a k : Nat) (x : Int64) : vg_Put h (vg_wl h a k x) a k .long (.inr (.inl x)) := by
  refine ⟨rfl, rfl, rfl, fun b hb j => ⟨rfl, by simp [vg_wl, va_up, hb], rfl⟩, fun j hj => ⟨rfl, by simp [vg_wl, va_up, hj], rfl⟩, ?_⟩
  simp [vg_val, vg_wl, va_up, vg_v]
theorem vg_putR (h : vg_H) (a k : Nat) (x : Option Nat) {ty : FieldType} (ht : (∃ C, ty = .object C) ∨ ∃ t, ty = .array t) : vg_Put h (vg_wr h a k x) a k ty (.inr (.inr x)) := by
  refine ⟨rfl, rfl, rfl, fun b hb j => ⟨rfl, rfl, by simp [vg_wr, va_up, hb]⟩, fun j hj => ⟨rfl, rfl, by simp [vg_wr, va_up, hj]⟩, ?_⟩
  rcases ht with ⟨C, rfl⟩ | ⟨t, rfl⟩ <;> simp [vg_val, vg_wr, va_up, vg_v]
theorem vr_put {idx ci k a : Nat} {r : vw_C} {v : vg_V} {h' : vg_H} (hr : vwCl[ci]? = some r) (hk : k < r.2.2) (hw : Cond.fieldLink M.1.cls idx (r.2.1 k).1 (r.2.1 k).2.1 (r.2.1 k).2.2.1 ∈ vg_ws) (hd : decode M.2.1 pc = .ok (.putfield idx, 3))
    (hfin : (r.2.1 k).2.2.2 = false ∨ ((r.2.1 k).2.2.2 = true ∧ M.1.name = "<init>" ∧ (r.2.1 k).1 = M.1.cls)) (hn : narrow (vg_ty ci k) (vg_v v) = vg_v v) (hf : fits (vg_ty ci k) (vg_v v) = true)
    (ha : h.1 a = ci + 1) (hp : vg_Put h h' a k (vg_ty ci k) v) (kk : vg_A G M uc us (pc + 3) L st h' Q) : vg_A G M uc us pc L (v :: .inr (.inr (some a)) :: st) h Q := by
  intro p l e R s m args below meth c F H locs ls hR hlo hl
  obtain ⟨hx, hb, hml, hrt, hlk, hown, hnm, hts, hSt, hRm, hxt, hst⟩ := id F
  obtain ⟨hba, cell, q1, q2, q3, q4⟩ := hR.2.2.2.1 a ci r ha hr
  have hap := va_apart (own := M.1.cls) hts (vg_in hr) (vg_ty ci) (vg_tyok hr) (vg_nm hr) hSt.1 hr
  obtain ⟨hS, hfc, kC, hkC, hkind⟩ := hSt.1.1 ci r hr
  obtain ⟨cf, kf, fi, f, hi, hsl⟩ := hS k hk
  have hlay := hts _ (vg_in hr _ (u_in_lay hk))
  unfold u_lay at hlay
  have hstc := (u_facts hfc hkC (u_lays hts (vg_in hr) hk) hi).1
  have hdty := vg_tyok hr k hk
  obtain ⟨p1, p2, p3, p4, p5, p6⟩ := hp
  have fin : ∀ H' : Heap, H'[a]? = some (cell.setSlot (G.1.2 ci k) (vg_v v)) → H'.size = H.size → (∀ q : Nat, q ≠ a → H'[q]? = H[q]?) → W p l e R s m args below meth c H' (locs ++ [⟨a, G.1.2 ci k⟩]) uc us (vx_MQ below (vg_Qc G Q) (vg_Xc G Q) args s (vg_rm M).cells (vg_rm M).slots (vg_Fr G)) (F0 m (pc + 3) ls (st.map vg_v)) := by
    intro H' e1 e2 e3
    refine kk p l e R s m args below meth c F H' _ ls (hR.set hba e2 e3 p1 p2 p3 p4 (fun ci' r' hc' hr' => ?_) (fun t x ht hx' => ?_)) (fun q hq => ?_) hl
    · have hcc : ci' = ci := by rw [ha] at hc'; omega
      subst hcc
      cases Option.some.inj (hr'.symm.trans hr)
      refine t_OB.to (V := updV (fun j => vg_val (vg_ty ci' j) h a j) k (vg_v v)) ⟨_, e1, q2, q3, t_set q4 hap hk (vg_v v)⟩ (fun j hj => ?_)
      by_cases hjk : j = k
      · subst hjk; simp [updV, p6]
      · simp only [updV, if_neg hjk]; exact (vg_val_of (p5 j hjk)).symm
    · have h1 : ci < 11 := by
        have := (List.getElem?_eq_some_iff.mp hr).1
        exact this
      rw [ha] at ht
      omega
    · rcases List.mem_append.mp hq with h1 | h1
      · exact hlo q h1
      · rw [List.mem_singleton.mp h1]; exact hba
  rcases hfin with hfin | ⟨hfin, hini, hdecl⟩
  · rw [if_neg (by rw [hfin]; decide)] at hlay
    have h6 := u_store hfc hkC hkind hlay hi hdty hn hf
    refine W.putK hx hb (f := f) ⟨hown, hts _ hw, ⟨_, _, _, hi⟩, hstc⟩ (by rw [q2]; exact h6) q1 q3 (by rw [hsl]; exact k2_hasslot (q4 k hk)) rfl rfl hd fun H' e1 e2 e3 => ?_
    rw [hsl] at e1 ⊢
    exact fin H' e1 e2 e3
  · rw [if_pos hfin] at hlay
    have hcf : m.cls = cf := by
      obtain ⟨_, _, c', _, _, _, -, -, hf', -, -, -, hown2, -⟩ := Cond.laysFinal_spec hlay
      have e1 : c' = cf := by have := hi.symm.trans hf'; simp at this; exact this.1.symm
      rw [hdecl] at hown2
      rw [← e1]; exact Option.some.inj (hown.symm.trans hown2)
    have h6 := u_fits hfc hkC hkind (Or.inr hlay) hi hdty hn hf
    refine W.putFinK hx hb hown (hts _ hw) hi hstc hcf (hnm.trans hini) (by rw [q2]; exact h6) q1 q3 (by rw [hsl]; exact k2_hasslot (q4 k hk)) rfl rfl hd fun H' e1 e2 e3 => ?_
    rw [hsl] at e1 ⊢
    exact fin H' e1 e2 e3
end VH
