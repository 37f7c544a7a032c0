/-! ===== what stands at the law's entry ===== -/
section EN
variable {s : State} {args : Array Value}
theorem en_t {w : Cond} (i : Nat) (h : tables_1[i]? = some w) : w ∈ lw_tbl := List.mem_append_right _ (List.mem_of_getElem? h)
theorem en_prim {ty : FieldType} (hp : ty = .int ∨ ty = .long ∨ ty = .boolean) (h : (Cond.arrayClass ty).before args s = true) : ∃ cA : ClassId, ArrOfT s cA ty ∧ va_RA s cA ty := by
  obtain ⟨c, k, comp, h1, h2, h3⟩ := Cond.arrayClass_spec h
  refine ⟨c, fun n z => ⟨fun k h => (by cases h), k, h2, comp, h3⟩, ?_⟩
  rcases hp with rfl | rfl | rfl <;> exact h1
theorem en_obj {C : String} (h : (Cond.arrayOver (.object C)).before args s = true) : ∃ cA : ClassId, ArrOfT s cA (.object C) ∧ va_RA s cA (.object C) := by
  obtain ⟨comp, c, k, h1, h2, h3, h4, h5⟩ := Cond.arrayOver_spec h
  exact ⟨c, fun n z => ⟨fun k h => (by cases h), k, h3, comp, h4⟩, k, comp, h3, h4, h1, h5⟩
theorem en_list : ∀ l : List FieldType, (∀ ty ∈ l, ∃ cA : ClassId, ArrOfT s cA ty ∧ va_RA s cA ty) → ∃ tys : List (ClassId × FieldType), tys.map (fun x => x.2) = l ∧ ∀ (k : Nat) (q : ClassId × FieldType), tys[k]? = some q → ArrOfT s q.1 q.2 ∧ va_RA s q.1 q.2
  | [], _ => ⟨[], rfl, fun k q h => by simp at h⟩
  | ty :: l, h => by
    obtain ⟨cA, h1⟩ := h ty List.mem_cons_self
    obtain ⟨tys, h2, h3⟩ := en_list l (fun t ht => h t (List.mem_cons_of_mem _ ht))
    refine ⟨(cA, ty) :: tys, by rw [List.map_cons, h2], fun k q hq => ?_⟩
    cases k with
    | zero => rw [List.getElem?_cons_zero] at hq; cases hq; exact h1
    | succ k => rw [List.getElem?_cons_succ] at hq; exact h3 k q hq
theorem en_arr (hts : ∀ w ∈ lw_tbl, w.before args s = true) : ∃ tys : List (ClassId × FieldType), tys.map (fun x => x.2) = vg_tys ∧ ∀ (k : Nat) (q : ClassId × FieldType), tys[k]? = some q → ArrOfT s q.1 q.2 ∧ va_RA s q.1 q.2 := by
  refine en_list vg_tys ?_
  unfold vg_tys
  refine List.forall_mem_cons.mpr ⟨en_prim (by simp) (hts _ (en_t 69 (by decide +kernel))), List.forall_mem_cons.mpr ⟨en_prim (by simp) (hts _ (en_t 68 (by decide +kernel))), List.forall_mem_cons.mpr ⟨en_prim (by simp) (hts _ (en_t 1001 (by decide +kernel))), ?_⟩⟩⟩
  refine List.forall_mem_cons.mpr ⟨en_obj (hts _ (en_t 73 (by decide +kernel))), List.forall_mem_cons.mpr ⟨en_obj (hts _ (en_t 77 (by decide +kernel))), List.forall_mem_cons.mpr ⟨en_obj (hts _ (en_t 101 (by decide +kernel))), List.forall_mem_cons.mpr ⟨en_obj (hts _ (en_t 33 (by decide +kernel))), ?_⟩⟩⟩⟩
  exact List.forall_mem_cons.mpr ⟨en_obj (hts _ (en_t 75 (by decide +kernel))), List.forall_mem_cons.mpr ⟨en_obj (hts _ (en_t 71 (by decide +kernel))), List.forall_mem_cons.mpr ⟨en_obj (hts _ (en_t 31 (by decide +kernel))), fun _ h => absurd h List.not_mem_nil⟩⟩⟩
theorem en_inst {k : Nat} {r : vw_C} (hr : vwCl[k]? = some r) (hts : ∀ w ∈ lw_tbl, w.before args s = true) : ∃ n, (Cond.instantiable r.1 n).before args s = true := by
  match k, hr with
  | 0, hr => cases hr; exact ⟨4, hts _ (en_t 79 (by decide +kernel))⟩
  | 1, hr => cases hr; exact ⟨4, hts _ (en_t 587 (by decide +kernel))⟩
  | 2, hr => cases hr; exact ⟨9, hts _ (en_t 35 (by decide +kernel))⟩
  | 3, hr => cases hr; exact ⟨8, hts _ (en_t 130 (by decide +kernel))⟩
  | 4, hr => cases hr; exact ⟨3, hts _ (en_t 734 (by decide +kernel))⟩
  | 5, hr => cases hr; exact ⟨6, hts _ (en_t 320 (by decide +kernel))⟩
  | 6, hr => cases hr; exact ⟨3, hts _ (en_t 645 (by decide +kernel))⟩
  | 7, hr => cases hr; exact ⟨9, hts _ (en_t 452 (by decide +kernel))⟩
  | 8, hr => cases hr; exact ⟨5, hts _ (en_t 102 (by decide +kernel))⟩
  | 9, hr => cases hr; exact ⟨13, hts _ (en_t 23 (by decide +kernel))⟩
  | 10, hr => cases hr; exact ⟨51, hts _ (en_t 839 (by decide +kernel))⟩
  | k + 11, hr => simp [vwCl] at hr
theorem en_cls (hts : ∀ w ∈ lw_tbl, w.before args s = true) : ∃ D : va_G, ∀ (c : Nat) (q : vw_C), vwCl[c]? = some q → u_Kn s q.1 q.2.1 q.2.2 (D.1 c) (D.2 c) := by
  have h : ∀ c : Nat, ∃ x : ClassId × (Nat → Nat), ∀ q, vwCl[c]? = some q → u_Kn s q.1 q.2.1 q.2.2 x.1 x.2 := fun c => by
    cases hq : vwCl[c]? with
    | none => exact ⟨((0 : Nat), fun _ => 0), fun q h => by cases h⟩
    | some r =>
      obtain ⟨n, hn⟩ := en_inst hq hts
      obtain ⟨cC, iS, hk⟩ := u_known (ws := vg_ws) (fun w hw => hts w (vg_good w hw).1) (vg_in hq) hn
      exact ⟨(cC, iS), fun q h => by cases h; exact hk⟩
  exact ⟨(fun c => (h c).choose.1, fun c => (h c).choose.2), fun c q hq => (h c).choose_spec q hq⟩
theorem en_x (hts : ∀ w ∈ lw_tbl, w.before args s = true) : ∀ w ∈ vg_xs, va_Nw w s := by
  intro w hw
  obtain ⟨h1, h2⟩ := List.mem_filter.mp hw
  have h := hts w h1
  cases w with
  | methodLinkNest a i x hst => exact va_Nw.of rfl h
  | fieldLinkNest a i b n d hst => exact va_Nw.of rfl h
  | castable C T => exact va_Nw.of rfl h
  | declares x => exact va_Nw.of rfl h
  | arrayOver ty =>
    cases ty with
    | object C => exact va_AO.of h
    | _ => cases h2
  | _ => cases h2
theorem en_len {t : Term} {v : Value} (h : (Term.length t).eval args s none [] s = some v) : ∃ a cell, t.eval args s none [] s = some (.ref a) ∧ s.arrayAt? a = some cell ∧ v = .int cell.slots.size.toInt32 ∧ cell.slots.size < 2 ^ 31 := by
  obtain ⟨a, cell, h1, h2, h3⟩ := Term.length_spec h
  refine ⟨a, cell, h1, h2, h3, ?_⟩
  by_cases hn : cell.slots.size < 2 ^ 31
  · exact hn
  · simp [Term.eval, h1, h2, hn] at h
theorem en_ne {C1 n1 d1 C2 n2 d2 : String} {a b : Nat} (h1 : (Term.static C1 n1 d1).eval args s none [] s = some (.ref a)) (h2 : (Term.static C2 n2 d2).eval args s none [] s = some (.ref b)) (h : (Cond.not (.eq (.static C1 n1 d1) (.static C2 n2 d2))).before args s = true) : ¬ a = b := by
  intro e
  subst e
  simp [Cond.before, Cond.holds, Cond.value, h1, h2] at h
/-- the ints of an old cell -/
def en_i (H : Heap) (a j : Nat) : Int32 := match H[a]? with
  | some c => (match c.slots[j]? with
    | some (.int v) => v
    | _ => 0)
  | none => 0
def en_n (H : Heap) (a : Nat) : Nat := match H[a]? with
  | some c => c.slots.size
  | none => 0
def en_h (H : Heap) (t b : Nat) : vg_H := (fun a => if a = t ∨ a = b then 200 else 0, en_n H, en_i H, fun _ _ => 0, fun _ _ => none, H.size)
def en_g (D : va_G) (tys : List (ClassId × FieldType)) (H : Heap) (t a1 a2 a3 b : Nat) : vg_G := (D, tys, H.size, H, fun k => match k with
  | 0 => t
  | 1 => a1
  | 2 => a2
  | 3 => a3
  | _ => b)
theorem en_rep {D : va_G} {tys : List (ClassId × FieldType)} {H : Heap} {t a1 a2 a3 b : Nat} (hty : tys.map (fun x => x.2) = vg_tys) (h : ∀ a, a = t ∨ a = b → ∃ cell : Cell, H[a]? = some cell ∧ cell.vm ≠ .unknown ∧ ∀ j, j < cell.slots.size → ∃ v : Int32, cell.slots[j]? = some (.int v)) : vg_Rep (en_g D tys H t a1 a2 a3 b) (en_h H t b) H := by
  have hl : tys.length = 10 := by rw [← List.length_map (f := fun x : ClassId × FieldType => x.2), hty]; rfl
  have kd : ∀ a, (en_h H t b).1 a = 200 ∧ (a = t ∨ a = b) ∨ (en_h H t b).1 a = 0 := fun a => by
    by_cases e : a = t ∨ a = b
    · exact Or.inl ⟨if_pos e, e⟩
    · exact Or.inr (if_neg e)
  refine ⟨rfl, Nat.le_refl _, fun q _ => rfl, fun a ci r hk hr => ?_, fun a u x hk hx => ?_, fun a hk => ?_⟩
  · have := (List.getElem?_eq_some_iff.mp hr).1
    have hl2 : vwCl.length = 11 := rfl
    rcases kd a with ⟨z, _⟩ | z <;> omega
  · have := (List.getElem?_eq_some_iff.mp hx).1
    have hl2 : (en_g D tys H t a1 a2 a3 b).2.1.length = 10 := hl
    rcases kd a with ⟨z, _⟩ | z <;> omega
  · rcases kd a with ⟨_, z⟩ | z
    · obtain ⟨cell, h1, h2, h3⟩ := h a z
      refine ⟨(Array.getElem?_eq_some_iff.mp h1).1, cell, h1, h2, ?_, fun j hj => ?_⟩
      · show cell.slots.size = en_n H a
        unfold en_n; rw [h1]
      · have hj' : j < cell.slots.size := by
          have : j < en_n H a := hj
          unfold en_n at this; rw [h1] at this; exact this
        obtain ⟨v, hv⟩ := h3 j hj'
        rw [hv]
        show some (Value.int v) = some (.int (en_i H a j))
        unfold en_i; rw [h1]
        show some (Value.int v) = some (.int (match cell.slots[j]? with
          | some (.int v) => v
          | _ => 0))
        rw [hv]
    · omega
theorem en_all {b L : Nat} {xs : Nat → Int32} (hts : ∀ w ∈ lw_tbl, w.before #[Value.ref b] s = true) (hX : va_X b L xs s s.heap) (hgv : (Jvm.Cond.and given_1 narrow_1).before #[Value.ref b] s = true) : ∃ (G : vg_G) (h0 : vg_H), vg_St G s ∧ vg_Rep G h0 s.heap ∧ GC G s.heap.size h0 ∧ G.2.2.2.2 4 = b ∧ h0.1 b = 200 ∧ h0.2.1 b = L ∧ vg_z h0 = s.heap.size ∧ vg_b G = s.heap.size := by
  have hs := flat_of_before _ hgv
  obtain ⟨D, hD⟩ := en_cls hts
  obtain ⟨tys, ht1, ht2⟩ := en_arr hts
  obtain ⟨scr, x1, x2, x3, x4, x5⟩ := hX
  have hbl : b < s.heap.size := (Array.getElem?_eq_some_iff.mp x1).1
  have hA : ∀ a : Nat, a < s.heap.size → ¬ s.heap.size ≤ a := fun a h => Nat.not_le.mpr h
  have c1 : (Cond.arrayOf (.static "ParkOffice" "COINS" "[I") .int).before #[Value.ref b] s = true := hs _ (by decide +kernel)
  have c2 := va_eqt (hs (.eq (.length (.static "ParkOffice" "COINS" "[I")) (.int 6)) (by decide +kernel))
  obtain ⟨t, cell, t1, t2, t3, t4⟩ := en_len c2
  obtain ⟨t5, t6, -, -⟩ := State.arrayAt?_spec t2
  obtain ⟨t7, -⟩ := Cond.arrayOf_spec c1 t1 t5
  have htl : t < s.heap.size := (Array.getElem?_eq_some_iff.mp t5).1
  have t8 : cell.slots.size = 6 := by
    have e : Int32.ofNat cell.slots.size = Int32.ofNat 6 := (Value.int.inj t3).symm
    have := congrArg Int32.toNatClampNeg e
    rw [Int32.toNatClampNeg_ofNat_of_lt t4, Int32.toNatClampNeg_ofNat_of_lt (by decide)] at this
    exact this
  have el : ∀ (j : Nat) (v : Int32), j < 6 → (Term.elem (.static "ParkOffice" "COINS" "[I") (.int (Int32.ofNat j))).eval #[Value.ref b] s none [] s = some (.int v) → cell.slots[j]? = some (.int v) := fun j v hj h => by
    obtain ⟨a, i, cell2, h1, h2, h3, h4, h5⟩ := Term.elem_spec h
    cases t1.symm.trans h1
    cases t2.symm.trans h3
    have hi : i = Int32.ofNat j := by
      have e : (Term.int (Int32.ofNat j)).eval #[Value.ref b] s none [] s = some (.int (Int32.ofNat j)) := rfl
      cases h2.symm.trans e
      rfl
    rw [hi, Int32.toNatClampNeg_ofNat_of_lt (by omega)] at h5
    exact h5
  have ev : ∀ j : Nat, j < 6 → cell.slots[j]? = some (.int (coM (5 - j))) := fun j hj => by
    match j, hj with
    | 0, hj => exact el 0 _ hj (va_eqt (hs (.eq (.elem (.static "ParkOffice" "COINS" "[I") (.int 0)) (.int 200)) (by decide +kernel)))
    | 1, hj => exact el 1 _ hj (va_eqt (hs (.eq (.elem (.static "ParkOffice" "COINS" "[I") (.int 1)) (.int 100)) (by decide +kernel)))
    | 2, hj => exact el 2 _ hj (va_eqt (hs (.eq (.elem (.static "ParkOffice" "COINS" "[I") (.int 2)) (.int 50)) (by decide +kernel)))
    | 3, hj => exact el 3 _ hj (va_eqt (hs (.eq (.elem (.static "ParkOffice" "COINS" "[I") (.int 3)) (.int 20)) (by decide +kernel)))
    | 4, hj => exact el 4 _ hj (va_eqt (hs (.eq (.elem (.static "ParkOffice" "COINS" "[I") (.int 4)) (.int 10)) (by decide +kernel)))
    | 5, hj => exact el 5 _ hj (va_eqt (hs (.eq (.elem (.static "ParkOffice" "COINS" "[I") (.int 5)) (.int 5)) (by decide +kernel)))
    | j + 6, hj => omega
  obtain ⟨a1, _, _, _, g1, -⟩ := Cond.exactly_spec (hs (.exactly (.static "ParkOffice$TicketState" "INSIDE" "LParkOffice$TicketState;") "ParkOffice$TicketState") (by decide +kernel))
  obtain ⟨a2, _, _, _, g2, -⟩ := Cond.exactly_spec (hs (.exactly (.static "ParkOffice$TicketState" "GONE" "LParkOffice$TicketState;") "ParkOffice$TicketState") (by decide +kernel))
  obtain ⟨a3, _, _, _, g3, -⟩ := Cond.exactly_spec (hs (.exactly (.static "ParkOffice$TicketState" "REPLACED" "LParkOffice$TicketState;") "ParkOffice$TicketState") (by decide +kernel))
  have n12 := en_ne g1 g2 (hs _ (by decide +kernel))
  have n13 := en_ne g1 g3 (hs _ (by decide +kernel))
  have iP := hts (.initialized "ParkOffice") (en_t 1 (by decide +kernel))
  have iT := hts (.initialized "ParkOffice$TicketState") (en_t 14 (by decide +kernel))
  have iH := hts (.initialized "java/lang/Throwable") (en_t 7 (by decide +kernel))
  refine ⟨en_g D tys s.heap t a1 a2 a3 b, en_h s.heap t b, ?_, en_rep ht1 ?_, ⟨n12, n13, htl, hbl, if_pos (Or.inl rfl), ?_, fun k hk => ?_⟩, rfl, if_pos (Or.inr rfl), ?_, rfl, rfl⟩
  · refine ⟨⟨hD, ht2⟩, ht1, Nat.le_refl _, fun q _ => rfl, va_Zref (hts _ (en_t 85 (by decide +kernel))) iP t1 hA, va_Zref (hts _ (en_t 415 (by decide +kernel))) iT g1 hA, va_Zref (hts _ (en_t 567 (by decide +kernel))) iT g2 hA, va_Zref (hts _ (en_t 576 (by decide +kernel))) iT g3 hA,
      vx_Zqof (hts _ (en_t 254 (by decide +kernel))) iH (hs _ (by decide +kernel)) hA, vx_Zqof (hts _ (en_t 256 (by decide +kernel))) iH (hs _ (by decide +kernel)) hA, va_Nc.of (hs _ (by decide +kernel)), fun a c2 ha ho hc => ?_, en_x hts⟩
    rcases ho with rfl | rfl
    · cases t5.symm.trans hc
      exact t7
    · cases x1.symm.trans hc
      exact x2
  · intro a ha
    rcases ha with rfl | rfl
    · exact ⟨cell, t5, t6, fun j hj => ⟨_, ev j (by omega)⟩⟩
    · exact ⟨scr, x1, x3, fun j hj => ⟨_, x5 j (by omega)⟩⟩
  · show en_n s.heap t = 6
    unfold en_n; rw [t5]; exact t8
  · show en_i s.heap t k = coM (5 - k)
    unfold en_i; rw [t5]
    show (match cell.slots[k]? with
      | some (.int v) => v
      | _ => 0) = coM (5 - k)
    rw [ev k hk]
  · show en_n s.heap b = L
    unfold en_n; rw [x1]; exact x4
end EN
