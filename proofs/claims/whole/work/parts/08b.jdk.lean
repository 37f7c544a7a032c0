/-! ===== Math.max, Math.min, System.arraycopy over int arrays of ours ===== -/
section VJ
variable {G : vg_G} {M : vg_M} {uc us pc : Nat} {L : List (Option vg_V)} {st : List vg_V} {h : vg_H} {Q : vg_O → vg_H → Prop}
theorem vr_mmax {idx : Nat} {x y : Int32} (w1 : Cond.methodLink M.1.cls idx Lib.Math.max.name ∈ vg_ws) (w2 : Cond.static Lib.Math.max.name ∈ vg_ws) (w3 : Cond.initialized "java/lang/Math" ∈ vg_ws) (w4 : Cond.code Lib.Math.max.name Lib.Math.max.code 2 (some .int) ∈ vg_ws) (hd : decode M.2.1 pc = .ok (.invokestatic idx, 3)) (hs : ((st.map vg_v).map fun v => v.category).sum ≤ 8) (hf : 1 ≤ (vg_rm M).frames ∧ 21 ≤ (vg_rm M).locals) (hc : uc ≤ (vg_rm M).cells ∧ us ≤ (vg_rm M).slots)
    (k : vg_A G M uc us (pc + 3) L (.inl (if x < y then y else x) :: st) h Q) : vg_A G M uc us pc L (.inl y :: .inl x :: st) h Q := by
  intro p l e R s m args below meth c F H locs ls hR hlo hl
  obtain ⟨hx, hb, hml, hrt, hlk, hown, hnm, hts, hSt, hRm, hxt, hst⟩ := id F
  exact va_mmax hx hb (hml.trans hl.1.symm) hown (hts _ w1) (hts _ w2) (hts _ w3) (hts _ w4) (by rw [hRm]; exact hf.1) (by rw [hRm]; omega) (by rw [hRm]; exact hc.1) (by rw [hRm]; exact hc.2) hd (k p l e R s m args below meth c F H locs ls hR hlo hl)
theorem vr_mmin {idx : Nat} {x y : Int32} (w1 : Cond.methodLink M.1.cls idx Lib.Math.min.name ∈ vg_ws) (w2 : Cond.static Lib.Math.min.name ∈ vg_ws) (w3 : Cond.initialized "java/lang/Math" ∈ vg_ws) (w4 : Cond.code Lib.Math.min.name Lib.Math.min.code 2 (some .int) ∈ vg_ws) (hd : decode M.2.1 pc = .ok (.invokestatic idx, 3)) (hs : ((st.map vg_v).map fun v => v.category).sum ≤ 8) (hf : 1 ≤ (vg_rm M).frames ∧ 21 ≤ (vg_rm M).locals) (hc : uc ≤ (vg_rm M).cells ∧ us ≤ (vg_rm M).slots)
    (k : vg_A G M uc us (pc + 3) L (.inl (if y < x then y else x) :: st) h Q) : vg_A G M uc us pc L (.inl y :: .inl x :: st) h Q := by
  intro p l e R s m args below meth c F H locs ls hR hlo hl
  obtain ⟨hx, hb, hml, hrt, hlk, hown, hnm, hts, hSt, hRm, hxt, hst⟩ := id F
  exact va_mmin hx hb (hml.trans hl.1.symm) hown (hts _ w1) (hts _ w2) (hts _ w3) (hts _ w4) (by rw [hRm]; exact hf.1) (by rw [hRm]; omega) (by rw [hRm]; exact hc.1) (by rw [hRm]; exact hc.2) hd (k p l e R s m args below meth c F H locs ls hR hlo hl)
/-- a row of ints laid over another's -/
def vg_cp (h : vg_H) (a : Nat) (f : Nat → Int32) : vg_H := (h.1, h.2.1, va_up h.2.2.1 a f, h.2.2.2.1, h.2.2.2.2.1, h.2.2.2.2.2)
theorem vr_copy {idx a0 a : Nat} {sp dp n : Int32} (w1 : Cond.methodLink M.1.cls idx arraycopyName ∈ vg_ws) (w2 : Cond.native arraycopyName ∈ vg_ws) (w3 : Cond.static arraycopyName ∈ vg_ws) (w4 : Cond.initialized "java/lang/System" ∈ vg_ws) (hd : decode M.2.1 pc = .ok (.invokestatic idx, 3)) (hs : ((st.map vg_v).map fun v => v.category).sum ≤ 8) (hf : 1 ≤ (vg_rm M).frames ∧ 8 + (nativeFrameWords "java/lang/System" "arraycopy" 5 + 11) ≤ (vg_rm M).locals)
    (ha0 : h.1 a0 = 100) (ha : h.1 a = 100) (h1 : ¬ sp < 0) (h2 : ¬ dp < 0) (h3 : ¬ n < 0) (h4 : sp.toNatClampNeg + n.toNatClampNeg ≤ h.2.1 a0) (h5 : dp.toNatClampNeg + n.toNatClampNeg ≤ h.2.1 a)
    (k : vg_A G M uc us (pc + 3) L st (vg_cp h a (va_cpy (h.2.2.1 a0) (h.2.2.1 a) sp.toNatClampNeg dp.toNatClampNeg n.toNatClampNeg)) Q) : vg_A G M uc us pc L (.inl n :: .inl dp :: .inr (.inr (some a)) :: .inl sp :: .inr (.inr (some a0)) :: st) h Q := by
  intro p l e R s m args below meth c F H locs ls hR hlo hl T hT X
  obtain ⟨hx, hb, hml, hrt, hlk, hown, hnm, hts, hSt, hRm, hxt, hst⟩ := id F
  have nn : ∀ z : Int32, ¬ z < 0 → z.toInt = (z.toNatClampNeg : Int) := by
    intro z hz
    have hz0 : (0 : Int) ≤ z.toInt := by
      have := Int32.not_lt.mp hz
      simpa using Int32.le_iff_toInt_le.mp this
    show z.toInt = ((z.toInt.toNat : Nat) : Int)
    omega
  obtain ⟨cA, hcA⟩ := vg_tyAt hSt (t := 0) (ty := .int) rfl
  obtain ⟨hb0, hc0⟩ := hR.2.2.2.2.1 a0 0 _ ha0 hcA
  obtain ⟨hb1, hc1⟩ := hR.2.2.2.2.1 a 0 _ ha hcA
  replace hc0 : H[a0]? = some (arrV cA (h.2.1 a0) (fun j => .int (h.2.2.1 a0 j))) := hc0
  replace hc1 : H[a]? = some (arrV cA (h.2.1 a) (fun j => .int (h.2.2.1 a j))) := hc1
  obtain ⟨-, k0, hk0, cm0, hkk0⟩ := (hSt.1.2 0 _ hcA).1 (h.2.1 a0) (fun j => .int (h.2.2.1 a0 j))
  obtain ⟨-, k1, hk1, cm1, hkk1⟩ := (hSt.1.2 0 _ hcA).1 (h.2.1 a) (fun j => .int (h.2.2.1 a j))
  obtain ⟨vm', X', step⟩ := X.arraycopy hx hown (hts _ w1) (hts _ w2) (hts _ w3) (hts _ w4) (src := a0) (dst := a) (srcPos := sp) (destPos := dp) (n := n) (by rw [hT]; exact hc0) (by rw [hT]; exact hc1)
    (fun _ h => by cases h) (fun _ h => by cases h) (fun h => by cases h) (fun h => by cases h) hk0 hk1 hkk0 hkk1 (by simp [refKind]) h1 h2 h3
    (by rw [nn sp h1, nn n h3, arrV_size]; omega)
    (by rw [nn dp h2, nn n h3, arrV_size]; omega)
    (fun vm₁ _ i hi => by
      have e : (arrV cA (h.2.1 a0) (fun j => .int (h.2.2.1 a0 j))).slots.getD (sp.toNatClampNeg + i) .null = .int (h.2.2.1 a0 (sp.toNatClampNeg + i)) := by
        rw [Array.getD_eq_getD_getElem?, arrV_read _ _ (by omega)]
        rfl
      rw [e]
      exact ⟨rfl, trivial⟩)
    (g := F0 m pc ls ((.inl n :: .inl dp :: .inr (.inr (some a)) :: .inl sp :: .inr (.inr (some a0)) :: st : List vg_V).map vg_v)) rfl (by rw [hml]; exact hl.1) (rest := st.map vg_v) rfl (by rw [hb]; exact hd) (by rw [hRm]; exact hf.1) (by rw [hRm]; show 2 * 0 + _ + _ ≤ _; omega)
  have e1 : copied (arrV cA (h.2.1 a0) (fun j => .int (h.2.2.1 a0 j))) (arrV cA (h.2.1 a) (fun j => .int (h.2.2.1 a j))) sp dp n = arrV cA (h.2.1 a) (fun j => .int (va_cpy (h.2.2.1 a0) (h.2.2.1 a) sp.toNatClampNeg dp.toNatClampNeg n.toNatClampNeg j)) := va_copied (fun z => .int z) cA cA (h.2.2.1 a0) (h.2.2.1 a) h4
  rw [e1] at X' step
  have hlt : a < H.size := (Array.getElem?_eq_some_iff.mp hc1).1
  generalize hf9 : va_cpy (h.2.2.1 a0) (h.2.2.1 a) sp.toNatClampNeg dp.toNatClampNeg n.toNatClampNeg = f at *
  have oq : ∀ q : Nat, q ≠ a → (H.setIfInBounds a (arrV cA (h.2.1 a) (fun j => .int (f j))))[q]? = H[q]? := fun q hq => by simp [Array.getElem?_setIfInBounds, Ne.symm hq]
  have hRep : vg_Rep G (vg_cp h a f) (H.setIfInBounds a (arrV cA (h.2.1 a) (fun j => .int (f j)))) := by
    refine hR.set hb1 (by simp) oq rfl rfl rfl (fun b hb9 j => ⟨by simp [vg_cp, va_up, hb9], rfl, rfl⟩) (fun ci r hc hr => ?_) (fun t x ht hx' => ?_)
    · have := (List.getElem?_eq_some_iff.mp hr).1
      have h11 : ci < 11 := this
      omega
    · have : t = 0 := by omega
      subst this
      cases Option.some.inj (hx'.symm.trans hcA)
      rw [show (H.setIfInBounds a (arrV cA (h.2.1 a) (fun j => Value.int (f j))))[a]? = some (arrV cA (h.2.1 a) (fun j => .int (f j))) by simp [Array.getElem?_setIfInBounds, hlt]]
      congr 2
      funext j
      simp [vg_val, vg_cp, va_up]
  obtain ⟨t, a1, b1⟩ := k p l e R s m args below meth c F _ _ ls hRep (fun q hq => by
      rcases List.mem_append.mp hq with h | h
      · exact hlo q h
      · obtain ⟨z, -, hz⟩ := List.mem_map.mp h
        rw [← hz]
        exact hb1) hl _ (by rw [← hT]; rfl) X'
  exact ⟨t, step t a1, b1⟩
end VJ
