/-! ===== arrays, new cells, statics ===== -/
section VA
variable {G : vg_G} {M : vg_M} {uc us pc : Nat} {L : List (Option vg_V)} {st : List vg_V} {h : vg_H} {Q : vg_O → vg_H → Prop}
theorem vg_tyAt {U : State} (hSt : vg_St G U) {t : Nat} {ty : FieldType} (ht : vg_tys[t]? = some ty) : ∃ cA : ClassId, G.2.1[t]? = some (cA, ty) := by
  rw [← hSt.2.1, List.getElem?_map] at ht
  obtain ⟨x, h1, h2⟩ := Option.map_eq_some_iff.mp ht
  exact ⟨x.1, by rw [h1, ← h2]⟩
/-- an int array of ours, or an old one -/
theorem vg_ints {H : Heap} {s : State} (hSt : vg_St G s) (hR : vg_Rep G h H) {a : Nat} (ha : h.1 a = 100 ∨ (h.1 a = 200 ∧ (a = G.2.2.2.2 0 ∨ a = G.2.2.2.2 4))) :
    ∃ cell : Cell, H[a]? = some cell ∧ s.isArrayOf cell .int ∧ cell.vm ≠ .unknown ∧ cell.slots.size = h.2.1 a ∧ ∀ j, j < h.2.1 a → cell.slots[j]? = some (.int (h.2.2.1 a j)) := by
  rcases ha with ha | ⟨ha, ho⟩
  · obtain ⟨cA, hcA⟩ := vg_tyAt hSt (t := 0) (ty := .int) rfl
    obtain ⟨-, hc⟩ := hR.2.2.2.2.1 a 0 _ ha hcA
    exact ⟨_, hc, (hSt.1.2 0 _ hcA).1 _ _, (fun q => by cases q), arrV_size _ _ _, (fun j hj => by rw [arrV_read _ _ hj]; rfl)⟩
  · obtain ⟨h1, cell, h2, h3, h4, h5⟩ := hR.2.2.2.2.2 a ha
    exact ⟨cell, h2, hSt.2.2.2.2.2.2.2.2.2.2.2.1 a cell h1 ho (by rw [← hR.2.2.1 a h1]; exact h2), h3, h4, h5⟩
theorem vr_iald {a : Nat} {j : Int32} (hd : decode M.2.1 pc = .ok (.iaload, 1)) (ha : h.1 a = 100 ∨ (h.1 a = 200 ∧ (a = G.2.2.2.2 0 ∨ a = G.2.2.2.2 4))) (hj : vp_in j (h.2.1 a)) (k : vg_A G M uc us (pc + 1) L (.inl (h.2.2.1 a j.toNatClampNeg) :: st) h Q) : vg_A G M uc us pc L (.inl j :: .inr (.inr (some a)) :: st) h Q := by
  intro p l e R s m args below meth c F H locs ls hR hlo hl
  obtain ⟨cell, h1, h2, h3, h4, h5⟩ := vg_ints F.2.2.2.2.2.2.2.2.1 hR ha
  have hlt : j.toNatClampNeg < h.2.1 a := Nat.not_le.mp fun q => hj (Or.inr q)
  exact W.iald (v := .int (h.2.2.1 a j.toNatClampNeg)) F.1 F.2.1 h1 h2 h3 (by rw [h4]; exact hj) (h5 _ hlt) rfl rfl hd (k p l e R s m args below meth c F H locs ls hR hlo hl)
theorem vr_alen {a t : Nat} {ty : FieldType} (ht : vg_tys[t]? = some ty) (hd : decode M.2.1 pc = .ok (.arraylength, 1)) (ha : h.1 a = 100 + t) (k : vg_A G M uc us (pc + 1) L (.inl (Int32.ofNat (h.2.1 a)) :: st) h Q) : vg_A G M uc us pc L (.inr (.inr (some a)) :: st) h Q := by
  intro p l e R s m args below meth c F H locs ls hR hlo hl
  have hSt := F.2.2.2.2.2.2.2.2.1
  obtain ⟨cA, hcA⟩ := vg_tyAt hSt ht
  obtain ⟨-, hc⟩ := hR.2.2.2.2.1 a t _ ha hcA
  exact W.alen (n := Int32.ofNat (h.2.1 a)) F.1 F.2.1 hc ((hSt.1.2 t _ hcA).1 _ _) (by rw [arrV_size] <;> rfl) rfl rfl hd (k p l e R s m args below meth c F H locs ls hR hlo hl)
theorem vr_alenI {a : Nat} (hd : decode M.2.1 pc = .ok (.arraylength, 1)) (ha : h.1 a = 100 ∨ (h.1 a = 200 ∧ (a = G.2.2.2.2 0 ∨ a = G.2.2.2.2 4))) (k : vg_A G M uc us (pc + 1) L (.inl (Int32.ofNat (h.2.1 a)) :: st) h Q) : vg_A G M uc us pc L (.inr (.inr (some a)) :: st) h Q := by
  intro p l e R s m args below meth c F H locs ls hR hlo hl
  obtain ⟨cell, h1, h2, h3, h4, h5⟩ := vg_ints F.2.2.2.2.2.2.2.2.1 hR ha
  exact W.alen (n := Int32.ofNat (h.2.1 a)) F.1 F.2.1 h1 h2 (by rw [h4] <;> rfl) rfl rfl hd (k p l e R s m args below meth c F H locs ls hR hlo hl)
theorem vr_lald {a : Nat} {j : Int32} (hd : decode M.2.1 pc = .ok (.laload, 1)) (ha : h.1 a = 101) (hj : vp_in j (h.2.1 a)) (k : vg_A G M uc us (pc + 1) L (.inr (.inl (h.2.2.2.1 a j.toNatClampNeg)) :: st) h Q) : vg_A G M uc us pc L (.inl j :: .inr (.inr (some a)) :: st) h Q := by
  intro p l e R s m args below meth c F H locs ls hR hlo hl
  have hSt := F.2.2.2.2.2.2.2.2.1
  obtain ⟨cA, hcA⟩ := vg_tyAt hSt (t := 1) (ty := .long) rfl
  obtain ⟨-, hc⟩ := hR.2.2.2.2.1 a 1 _ ha hcA
  have hlt : j.toNatClampNeg < h.2.1 a := Nat.not_le.mp fun q => hj (Or.inr q)
  exact W.lald (v := .long (h.2.2.2.1 a j.toNatClampNeg)) F.1 F.2.1 hc ((hSt.1.2 1 _ hcA).1 _ _) (fun q => by cases q) (by rw [arrV_size]; exact hj) (by rw [arrV_read _ _ hlt]; rfl) rfl rfl hd (k p l e R s m args below meth c F H locs ls hR hlo hl)
theorem vr_zald {a : Nat} {j : Int32} (hd : decode M.2.1 pc = .ok (.baload, 1)) (ha : h.1 a = 102) (hj : vp_in j (h.2.1 a)) (k : vg_A G M uc us (pc + 1) L (.inl (h.2.2.1 a j.toNatClampNeg) :: st) h Q) : vg_A G M uc us pc L (.inl j :: .inr (.inr (some a)) :: st) h Q := by
  intro p l e R s m args below meth c F H locs ls hR hlo hl
  have hSt := F.2.2.2.2.2.2.2.2.1
  obtain ⟨cA, hcA⟩ := vg_tyAt hSt (t := 2) (ty := .boolean) rfl
  obtain ⟨-, hc⟩ := hR.2.2.2.2.1 a 2 _ ha hcA
  have hlt : j.toNatClampNeg < h.2.1 a := Nat.not_le.mp fun q => hj (Or.inr q)
  exact W.zald (v := .int (h.2.2.1 a j.toNatClampNeg)) F.1 F.2.1 hc ((hSt.1.2 2 _ hcA).1 _ _) (fun q => by cases q) (by rw [arrV_size]; exact hj) (by rw [arrV_read _ _ hlt]; rfl) rfl rfl hd (k p l e R s m args below meth c F H locs ls hR hlo hl)
theorem vr_aald {a t : Nat} {j : Int32} {C : String} (ht : vg_tys[t]? = some (.object C)) (hd : decode M.2.1 pc = .ok (.aaload, 1)) (ha : h.1 a = 100 + t) (hj : vp_in j (h.2.1 a)) (k : vg_A G M uc us (pc + 1) L (.inr (.inr (h.2.2.2.2.1 a j.toNatClampNeg)) :: st) h Q) : vg_A G M uc us pc L (.inl j :: .inr (.inr (some a)) :: st) h Q := by
  intro p l e R s m args below meth c F H locs ls hR hlo hl
  have hSt := F.2.2.2.2.2.2.2.2.1
  obtain ⟨cA, hcA⟩ := vg_tyAt hSt ht
  obtain ⟨-, hc⟩ := hR.2.2.2.2.1 a t _ ha hcA
  have hlt : j.toNatClampNeg < h.2.1 a := Nat.not_le.mp fun q => hj (Or.inr q)
  exact W.aald (v := va_rf (h.2.2.2.2.1 a j.toNatClampNeg)) (ty := .object C) F.1 F.2.1 hc ((hSt.1.2 t _ hcA).1 _ _) rfl (fun q => by cases q) (by rw [arrV_size]; exact hj) (by rw [arrV_read _ _ hlt]; rfl) rfl rfl hd (k p l e R s m args below meth c F H locs ls hR hlo hl)
/-- behind a store into an array of ours -/
theorem vg_arrSet {H H' : Heap} {a t n : Nat} {x : ClassId × FieldType} {v : vg_V} {h' : vg_H} (hR : vg_Rep G h H) (hx : G.2.1[t]? = some x) (ha : h.1 a = 100 + t) (ht : t < 10) (hp : vg_Put h h' a n x.2 v)
    (e1 : H'[a]? = some ((arrV x.1 (h.2.1 a) (fun j => vg_val x.2 h a j)).setSlot n (vg_v v))) (e2 : H'.size = H.size) (e3 : ∀ q : Nat, q ≠ a → H'[q]? = H[q]?) : vg_Rep G h' H' := by
  obtain ⟨p1, p2, p3, p4, p5, p6⟩ := hp
  obtain ⟨hba, -⟩ := hR.2.2.2.2.1 a t x ha hx
  refine hR.set hba e2 e3 p1 p2 p3 p4 (fun ci r hc hr => ?_) (fun t' x' ht' hx' => ?_)
  · have h1 : ci < 11 := (List.getElem?_eq_some_iff.mp hr).1
    omega
  · have : t' = t := by omega
    subst this
    cases Option.some.inj (hx'.symm.trans hx)
    rw [e1, arrV_store]
    congr 2
    funext j
    by_cases hj : j = n
    · subst hj; simp [updV, p6]
    · simp only [updV, if_neg hj]; exact (vg_val_of (p5 j hj)).symm
theorem vg_locs {locs : List Loc} {a i : Nat} (hlo : ∀ q ∈ locs, vg_b G ≤ q.base) (ha : vg_b G ≤ a) : ∀ q ∈ locs ++ [(⟨a, i⟩ : Loc)], vg_b G ≤ q.base := fun q hq => by
  rcases List.mem_append.mp hq with h1 | h1
  · exact hlo q h1
  · rw [List.mem_singleton.mp h1]; exact ha
theorem vr_iast {a : Nat} {j x : Int32} (hd : decode M.2.1 pc = .ok (.iastore, 1)) (ha : h.1 a = 100) (hj : vp_in j (h.2.1 a)) (k : vg_A G M uc us (pc + 1) L st (vg_wi h a j.toNatClampNeg x) Q) : vg_A G M uc us pc L (.inl x :: .inl j :: .inr (.inr (some a)) :: st) h Q := by
  intro p l e R s m args below meth c F H locs ls hR hlo hl
  have hSt := F.2.2.2.2.2.2.2.2.1
  obtain ⟨cA, hcA⟩ := vg_tyAt hSt (t := 0) (ty := .int) rfl
  obtain ⟨hba, hc⟩ := hR.2.2.2.2.1 a 0 _ ha hcA
  refine W.iast F.1 F.2.1 hc ((hSt.1.2 0 _ hcA).1 _ _) (fun q => by cases q) (by rw [arrV_size]; exact hj) rfl rfl hd fun H' e1 e2 e3 => ?_
  exact k p l e R s m args below meth c F H' _ ls (vg_arrSet hR hcA ha (by omega) (vg_putI h a _ x (Or.inl rfl)) e1 e2 e3) (vg_locs hlo hba) hl
theorem vr_last {a : Nat} {j : Int32} {x : Int64} (hd : decode M.2.1 pc = .ok (.lastore, 1)) (ha : h.1 a = 101) (hj : vp_in j (h.2.1 a)) (k : vg_A G M uc us (pc + 1) L st (vg_wl h a j.toNatClampNeg x) Q) : vg_A G M uc us pc L (.inr (.inl x) :: .inl j :: .inr (.inr (some a)) :: st) h Q := by
  intro p l e R s m args below meth c F H locs ls hR hlo hl
  have hSt := F.2.2.2.2.2.2.2.2.1
  obtain ⟨cA, hcA⟩ := vg_tyAt hSt (t := 1) (ty := .long) rfl
  obtain ⟨hba, hc⟩ := hR.2.2.2.2.1 a 1 _ ha hcA
  refine W.last F.1 F.2.1 hc ((hSt.1.2 1 _ hcA).1 _ _) (fun q => by cases q) (by rw [arrV_size]; exact hj) rfl rfl hd fun H' e1 e2 e3 => ?_
  exact k p l e R s m args below meth c F H' _ ls (vg_arrSet hR hcA ha (by omega) (vg_putL h a _ x) e1 e2 e3) (vg_locs hlo hba) hl
theorem vr_zast {a : Nat} {j x : Int32} (hd : decode M.2.1 pc = .ok (.bastore, 1)) (ha : h.1 a = 102) (hj : vp_in j (h.2.1 a)) (hn : narrow .boolean (.int x) = .int x) (k : vg_A G M uc us (pc + 1) L st (vg_wi h a j.toNatClampNeg x) Q) : vg_A G M uc us pc L (.inl x :: .inl j :: .inr (.inr (some a)) :: st) h Q := by
  intro p l e R s m args below meth c F H locs ls hR hlo hl
  have hSt := F.2.2.2.2.2.2.2.2.1
  obtain ⟨cA, hcA⟩ := vg_tyAt hSt (t := 2) (ty := .boolean) rfl
  obtain ⟨hba, hc⟩ := hR.2.2.2.2.1 a 2 _ ha hcA
  refine W.zast F.1 F.2.1 hc ((hSt.1.2 2 _ hcA).1 _ _) (fun q => by cases q) (by rw [arrV_size]; exact hj) rfl rfl hd fun H' e1 e2 e3 => ?_
  rw [hn] at e1
  exact k p l e R s m args below meth c F H' _ ls (vg_arrSet hR hcA ha (by omega) (vg_putI h a _ x (Or.inr rfl)) e1 e2 e3) (vg_locs hlo hba) hl
/-- a store of an object of class ci into an array of that class -/
theorem vr_aast {a t v ci : Nat} {r : vw_C} {j : Int32} (ht : vg_tys[t]? = some (.object r.1)) (hr : vwCl[ci]? = some r) (hd : decode M.2.1 pc = .ok (.aastore, 1)) (ha : h.1 a = 100 + t) (hv : h.1 v = ci + 1) (hj : vp_in j (h.2.1 a)) (k : vg_A G M uc us (pc + 1) L st (vg_wr h a j.toNatClampNeg (some v)) Q) : vg_A G M uc us pc L (.inr (.inr (some v)) :: .inl j :: .inr (.inr (some a)) :: st) h Q := by
  intro p l e R s m args below meth c F H locs ls hR hlo hl
  have hSt := F.2.2.2.2.2.2.2.2.1
  obtain ⟨cA, hcA⟩ := vg_tyAt hSt ht
  obtain ⟨hba, hc⟩ := hR.2.2.2.2.1 a t _ ha hcA
  obtain ⟨-, cellV, g1, g2, g3, -⟩ := hR.2.2.2.1 v ci r hv hr
  have hcls := (hSt.1.1 ci r hr).2
  obtain ⟨kA, comp, k1, k2, k3, -⟩ := (hSt.1.2 t _ hcA).2
  have hcomp : comp = G.1.1 ci := Option.some.inj (k3.symm.trans hcls.1)
  subst hcomp
  obtain ⟨kC, hkC, -⟩ := hcls.2
  have hlt : j.toNatClampNeg < h.2.1 a := Nat.not_le.mp fun q => hj (Or.inr q)
  have h0 : ¬ j < 0 := fun q => hj (Or.inl q)
  have ht10 : t < 10 := (List.getElem?_eq_some_iff.mp ht).1
  refine W.aast F.1 F.2.1 hc (fun q h => by cases h) (fun h => by cases h) k1 k2 rfl hkC ⟨h0, by rw [arrV_size]; exact hlt⟩ g1 (fun q h => by rw [g3] at h; cases h) (by rw [g2]; exact hkC) (by rw [g2]; exact va_assign hcls) rfl rfl hd fun H' e1 e2 e3 => ?_
  exact k p l e R s m args below meth c F H' _ ls (vg_arrSet hR hcA ha ht10 (vg_putR h a _ (some v) (Or.inl ⟨_, rfl⟩)) e1 e2 e3) (vg_locs hlo hba) hl
/-- a new object of class ci -/
theorem vr_new {idx ci : Nat} {r : vw_C} (hr : vwCl[ci]? = some r) (hw : Cond.classLink M.1.cls idx r.1 ∈ vg_ws) (hi : Cond.instantiable r.1 r.2.2 ∈ vg_ws) (hn : Cond.initialized r.1 ∈ vg_ws) (hd : decode M.2.1 pc = .ok (.new idx, 3)) (hc : uc + 1 ≤ (vg_rm M).cells ∧ us + r.2.2 ≤ (vg_rm M).slots)
    (k : vg_A G M (uc + 1) (us + r.2.2) (pc + 3) L (.inr (.inr (some (vg_z h))) :: st) (vg_new h (ci + 1) 0) Q) : vg_A G M uc us pc L st h Q := by
  intro p l e R s m args below meth c F H locs ls hR hlo hl
  obtain ⟨hx, hb, hml, hrt, hlk, hown, hnm, hts, hSt, hRm, hxt, hst⟩ := id F
  have hKn := hSt.1.1 ci r hr
  have hz : vg_z h = H.size := hR.1.symm
  refine W.newcK hx hb hown (hts _ hw) (hts _ hi) (hts _ hn) rfl hd (by rw [hRm]; exact hc.1) (by rw [hRm]; exact hc.2) hKn.2.1 rfl fun H1 kC hkC e1 z1 o1 => ?_
  have k' := k p l e R s m args below meth c F H1 locs ls (hR.new z1 o1 (fun ci' r' hc' hr' => ?_) (fun t x ht hx' => ?_) (by
    have h1 : ci < 11 := (List.getElem?_eq_some_iff.mp hr).1
    omega)) hlo hl
  · rw [hz] at k'
    exact k'
  · have : ci' = ci := by omega
    subst this
    cases Option.some.inj (hr'.symm.trans hr)
    exact u_born (vg_ty ci') hts (vg_in hr) hKn hkC e1 (vg_tyok hr)
  · have h1 : ci < 11 := (List.getElem?_eq_some_iff.mp hr).1
    omega
/-- a new array of numbers -/
theorem vr_newa {t : Nat} {aty : ArrayType} {n : Int32} (ht : vg_tys[t]? = some (newarray.typeOf aty)) (hw : Cond.arrayClass (newarray.typeOf aty) ∈ vg_ws) (hp : t < 3) (hd : decode M.2.1 pc = .ok (.newarray aty, 2)) (hn : ¬ n < 0) (hb8 : n.toNatClampNeg ≤ 1000000) (hc : uc + 1 ≤ (vg_rm M).cells ∧ us + n.toNatClampNeg ≤ (vg_rm M).slots)
    (k : vg_A G M (uc + 1) (us + n.toNatClampNeg) (pc + 2) L (.inr (.inr (some (vg_z h))) :: st) (vg_new h (100 + t) n.toNatClampNeg) Q) : vg_A G M uc us pc L (.inl n :: st) h Q := by
  intro p l e R s m args below meth c F H locs ls hR hlo hl
  obtain ⟨hx, hb, hml, hrt, hlk, hown, hnm, hts, hSt, hRm, hxt, hst⟩ := id F
  obtain ⟨cA, hcA⟩ := vg_tyAt hSt ht
  have hz : vg_z h = H.size := hR.1.symm
  have hcb : componentBytes (newarray.typeOf aty) ≤ 8 := by cases aty <;> decide
  refine va_newaK hx hb (hts _ hw) rfl hd rfl hn rfl (Nat.le_trans (Nat.mul_le_mul hb8 hcb) (by decide)) (by rw [hRm]; exact hc.1) (by rw [hRm]; exact hc.2) rfl fun H1 cA' e1 z1 o1 hAr hNm => ?_
  have hcc : cA' = cA := by
    have h2 := (hSt.1.2 t _ hcA).2
    have hprim : s.vm.findClass ("[" ++ (newarray.typeOf aty).toString) = some cA := by cases aty <;> exact h2
    exact Option.some.inj (hNm.symm.trans hprim)
  subst hcc
  have k' := k p l e R s m args below meth c F H1 locs ls (hR.new z1 o1 (fun ci' r' hc' hr' => ?_) (fun t' x ht' hx' => ?_) (by omega)) hlo hl
  · rw [hz] at k'
    exact k'
  · have h1 : ci' < 11 := (List.getElem?_eq_some_iff.mp hr').1
    omega
  · have : t' = t := by omega
    subst this
    cases Option.some.inj (hx'.symm.trans hcA)
    exact e1
/-- a new array of objects -/
theorem vr_newq {t idx : Nat} {C : String} {n : Int32} (ht : vg_tys[t]? = some (.object C)) (hw : Cond.classLink M.1.cls idx C ∈ vg_ws) (ho : Cond.arrayOver (.object C) ∈ vg_xs) (hd : decode M.2.1 pc = .ok (.anewarray idx, 3)) (hn : ¬ n < 0) (hb8 : n.toNatClampNeg ≤ 1000000) (hc : uc + 1 ≤ (vg_rm M).cells ∧ us + n.toNatClampNeg ≤ (vg_rm M).slots)
    (k : vg_A G M (uc + 1) (us + n.toNatClampNeg) (pc + 3) L (.inr (.inr (some (vg_z h))) :: st) (vg_new h (100 + t) n.toNatClampNeg) Q) : vg_A G M uc us pc L (.inl n :: st) h Q := by
  intro p l e R s m args below meth c F H locs ls hR hlo hl
  obtain ⟨hx, hb, hml, hrt, hlk, hown, hnm, hts, hSt, hRm, hxt, hst⟩ := id F
  obtain ⟨cA, hcA⟩ := vg_tyAt hSt ht
  have hz : vg_z h = H.size := hR.1.symm
  have hAO : va_AO C s := hSt.2.2.2.2.2.2.2.2.2.2.2.2 _ ho
  have ht10 : t < 10 := (List.getElem?_eq_some_iff.mp ht).1
  refine W.anew hx hb hown (hts _ hw) (va_AO.use hAO) rfl hd rfl hn (by omega) (by rw [hRm]; exact hc.1) (by rw [hRm]; exact hc.2) fun cA' kA comp f1 f2 f3 f4 => ?_
  have hcc : cA' = cA := by
    obtain ⟨kA9, comp9, -, -, -, h4⟩ := (hSt.1.2 t _ hcA).2
    exact Option.some.inj (f1.symm.trans h4)
  subst hcc
  generalize hH1 : H.push ({ cls := cA', slots := Array.replicate n.toNatClampNeg .null, vm := .none } : Cell) = H1
  have z1 : H1.size = H.size + 1 := by rw [← hH1, Array.size_push]
  have e1 : H1[H.size]? = some (arrV cA' n.toNatClampNeg (fun _ => .null)) := by rw [← hH1, Array.getElem?_push_size, ← arrV_new]
  have o1 : ∀ q : Nat, q < H.size → H1[q]? = H[q]? := fun q hq => by rw [← hH1, Array.getElem?_push, if_neg (Nat.ne_of_lt hq)]
  have k' := k p l e R s m args below meth c F H1 locs ls (hR.new z1 o1 (fun ci' r' hc' hr' => ?_) (fun t' x ht' hx' => ?_) (by omega)) hlo hl
  · rw [hz] at k'
    exact k'
  · have h1 : ci' < 11 := (List.getElem?_eq_some_iff.mp hr').1
    omega
  · have : t' = t := by omega
    subst this
    cases Option.some.inj (hx'.symm.trans hcA)
    exact e1
/-- what the heap was outside the new cells, it is -/
theorem vg_S {p : Program} {l : Launch} {e : Env} {R : Room} {s : State} {m : MethodId} {args : Array Value} {below : List Frame} {meth : Method} {c : Code} {T : State} {H : Heap} {locs : List Loc} {cells slots : Nat} (hT : T.heap = H) (X : Stand p l e R s m args below meth c T locs cells slots) (hSt : vg_St G s) (hR : vg_Rep G h H) (hlo : ∀ q ∈ locs, vg_b G ≤ q.base) : va_S (vg_Fr G) s.heap H locs :=
  ⟨by rw [← hT]; exact X.same.2.1, fun q _ h2 => by
    have : q < vg_b G := Nat.not_le.mp h2
    rw [hR.2.2.1 q this, hSt.2.2.2.1 q this], hlo⟩
/-- a static field of which the run knows what it holds -/
theorem vr_gets {idx : Nat} {C n d : String} {v : vg_V} (hz : ∀ U : State, vg_St G U → va_Z C n d (vg_v v) (vg_Fr G) U U.heap) (hw : Cond.fieldLink M.1.cls idx C n d ∈ vg_ws) (hd : decode M.2.1 pc = .ok (.getstatic idx, 3)) (k : vg_A G M uc us (pc + 3) L (v :: st) h Q) : vg_A G M uc us pc L st h Q := by
  intro p l e R s m args below meth c F H locs ls hR hlo hl T hT X
  exact va_gets (v := vg_v v) F.1 F.2.1 (hz s F.2.2.2.2.2.2.2.2.1) (vg_S hT X F.2.2.2.2.2.2.2.2.1 hR hlo) F.2.2.2.2.2.1 (F.2.2.2.2.2.2.2.1 _ hw) (fun _ h9 => h9) hd (k p l e R s m args below meth c F H locs ls hR hlo hl) T hT X
theorem vr_getsN {idx : Nat} {C n d host : String} {v : vg_V} (hz : ∀ U : State, vg_St G U → va_Z C n d (vg_v v) (vg_Fr G) U U.heap) (hw : Cond.fieldLinkNest M.1.cls idx C n d host ∈ vg_xs) (hd : decode M.2.1 pc = .ok (.getstatic idx, 3)) (k : vg_A G M uc us (pc + 3) L (v :: st) h Q) : vg_A G M uc us pc L st h Q := by
  intro p l e R s m args below meth c F H locs ls hR hlo hl T hT X
  exact va_getsN (v := vg_v v) F.1 F.2.1 (hz s F.2.2.2.2.2.2.2.2.1) (vg_S hT X F.2.2.2.2.2.2.2.2.1 hR hlo) F.2.2.2.2.2.1 (va_Nw.use rfl (F.2.2.2.2.2.2.2.2.1.2.2.2.2.2.2.2.2.2.2.2.2 _ hw)) (fun _ h9 => h9) hd (k p l e R s m args below meth c F H locs ls hR hlo hl) T hT X
end VA
