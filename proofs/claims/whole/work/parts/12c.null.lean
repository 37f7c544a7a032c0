/-! ===== null into an array ===== -/
section NUL
variable {G : vg_G} {M : vg_M} {uc us pc : Nat} {L : List (Option vg_V)} {st : List vg_V} {h : vg_H} {Q : vg_O → vg_H → Prop}
theorem vr_aastN {a t : Nat} {C : String} {j : Int32} (ht : vg_tys[t]? = some (.object C)) (hd : decode M.2.1 pc = .ok (.aastore, 1)) (ha : h.1 a = 100 + t) (hj : vp_in j (h.2.1 a)) (k : vg_A G M uc us (pc + 1) L st (vg_wr h a j.toNatClampNeg none) Q) : vg_A G M uc us pc L (.inr (.inr none) :: .inl j :: .inr (.inr (some a)) :: st) h Q := by
  intro p l e R s m args below meth c F H locs ls hR hlo hl
  have hSt := F.2.2.2.2.2.2.2.2.1
  obtain ⟨cA, hcA⟩ := vg_tyAt hSt ht
  obtain ⟨hba, hc⟩ := hR.2.2.2.2.1 a t _ ha hcA
  have ht10 : t < 10 := (List.getElem?_eq_some_iff.mp ht).1
  refine va_WaastN (C := C) F.1 F.2.1 hc ((hSt.1.2 t _ hcA).1 _ _) (fun q => by cases q) (by rw [arrV_size]; exact hj) rfl rfl hd fun H' e1 e2 e3 => ?_
  exact k p l e R s m args below meth c F H' _ ls (vg_arrSet hR hcA ha ht10 (vg_putR h a _ none (Or.inl ⟨_, rfl⟩)) e1 e2 e3) (vg_locs hlo hba) hl
end NUL
