/-! ===== the class before the opening ===== -/
section C1
variable {G : vg_G} {b : Nat} {A : AA} {S : SS} {h : vg_H} {Q : vg_O → vg_H → Prop}
theorem CX.room (p : CX G b A S h) {z : Nat} (hz : z < 4) (v : Int32) : CX G b A (up S 3 z v) (vg_wi h (b + 17 + 2 * z) 3 v) := by
  obtain ⟨p1, p2, p3, p4, p5, p6, p7, p8, p9, p10⟩ := p
  have hk := (p3 z hz).2.1
  refine ⟨p1.wi, (p2.wi (by omega)).up (by decide), ?_, (p4.wi (by omega)).up (by decide), (p5.wi (by omega)).up (by decide), (p6.wi (by omega)).up (by decide), (p7.wi (by omega)).up (by decide), (p8.wi (by omega)).up (by decide), (p9.wi (by omega)).up (by decide), p10.wi (by omega)⟩
  unfold cxZ at *; simp only [wi_i, wi_k, wi_n, wi_r, up_e]; grind
theorem CX.free (p : CX G b A S h) {z : Nat} (hz : z < 4) (v : Int32) : CX G b A (up S 4 z v) (vg_wi h (b + 17 + 2 * z) 4 v) := by
  obtain ⟨p1, p2, p3, p4, p5, p6, p7, p8, p9, p10⟩ := p
  have hk := (p3 z hz).2.1
  refine ⟨p1.wi, (p2.wi (by omega)).up (by decide), ?_, (p4.wi (by omega)).up (by decide), (p5.wi (by omega)).up (by decide), (p6.wi (by omega)).up (by decide), (p7.wi (by omega)).up (by decide), (p8.wi (by omega)).up (by decide), (p9.wi (by omega)).up (by decide), p10.wi (by omega)⟩
  unfold cxZ at *; simp only [wi_i, wi_k, wi_n, wi_r, up_e]; grind
theorem CX.late (p : CX G b A S h) (v : Int32) : CX G b A (up S 2 0 v) (vg_wi h b 11 v) := by
  obtain ⟨p1, p2, p3, p4, p5, p6, p7, p8, p9, p10⟩ := p
  have hk := p1.1
  refine ⟨p1.wi, ?_, (p3.wi (by omega)).up (by decide), (p4.wi (by omega)).up (by decide), (p5.wi (by omega)).up (by decide), (p6.wi (by omega)).up (by decide), (p7.wi (by omega)).up (by decide), (p8.wi (by omega)).up (by decide), (p9.wi (by omega)).up (by decide), p10.wi (by omega)⟩
  unfold cxI at *; simp only [wi_i, up_e]; grind
theorem CX.opn (p : CX G b A S h) (v : Int32) : CX G b A (up S 1 0 v) (vg_wi h b 12 v) := by
  obtain ⟨p1, p2, p3, p4, p5, p6, p7, p8, p9, p10⟩ := p
  have hk := p1.1
  refine ⟨p1.wi, ?_, (p3.wi (by omega)).up (by decide), (p4.wi (by omega)).up (by decide), (p5.wi (by omega)).up (by decide), (p6.wi (by omega)).up (by decide), (p7.wi (by omega)).up (by decide), (p8.wi (by omega)).up (by decide), (p9.wi (by omega)).up (by decide), p10.wi (by omega)⟩
  unfold cxI at *; simp only [wi_i, up_e]; grind
theorem cxP.inj (p : cxP b A S h) {i j : Nat} (hi : i < 24) (hj : j < 24) (si : ¬ S 5 i = 0) (sj : ¬ S 5 j = 0) (e : A 6 i = A 6 j) : i = j := by
  have h1 := ((p i hi).2 si).2.2.2.2.1
  have h2 := ((p j hj).2 sj).2.2.2.2.1
  rw [e, h2] at h1
  exact ((nI_eq (by omega) (by omega)).mp h1).symm
theorem CX.hrs (p : CX G b A S h) {i : Nat} (hi : i < 24) (hs : ¬ S 5 i = 0) (v w : Int32) : CX G b A (up (up S 9 i v) 10 i w) (vg_wi (vg_wi h (A 6 i) 4 v) (A 6 i) 5 w) := by
  obtain ⟨p1, p2, p3, p4, p5, p6, p7, p8, p9, p10⟩ := p
  have hk := (p4 i hi).2 hs
  have hk1 := hk.2.1
  have hk2 : (vg_wi h (A 6 i) 4 v).1 (A 6 i) = 6 := hk1
  refine ⟨p1.wi.wi, (((p2.wi (by omega)).wi (by omega)).up (by decide)).up (by decide), (((p3.wi (by omega)).wi (by omega)).up (by decide)).up (by decide), ?_, (((p5.wi (by omega)).wi (by omega)).up (by decide)).up (by decide), (((p6.wi (by omega)).wi (by omega)).up (by decide)).up (by decide), (((p7.wi (by omega)).wi (by omega)).up (by decide)).up (by decide), (((p8.wi (by omega)).wi (by omega)).up (by decide)).up (by decide), (((p9.wi (by omega)).wi (by omega)).up (by decide)).up (by decide), (p10.wi (by omega)).wi (by omega)⟩
  have inj : ∀ q, q < 24 → ¬ S 5 q = 0 → A 6 q = A 6 i → q = i := fun q hq hs' e => p4.inj hq hi hs' hs e
  clear p1 p2 p3 p5 p6 p7 p8 p9 p10
  unfold cxP at *; simp only [wi_i, wi_k, wi_n, wi_r, wi_z, up_e]; grind
/-- a new product -/
theorem CX.prod (p : CX G b A S h) {i : Nat} (hi : i < 24) (v6 v7 v8 : Int32) :
    CX G b (upA A 6 i (vg_z h)) (up (up (up (up (up (up S 5 i 1) 6 i v6) 7 i v7) 8 i v8) 9 i 0) 10 i 168) (vg_wr (vg_wi (vg_wi (vg_wi (vg_wi (vg_wi (vg_wi (vg_new h 6 0) (vg_z h) 4 0) (vg_z h) 5 168) (vg_z h) 0 (nI i)) (vg_z h) 1 v6) (vg_z h) 2 v7) (vg_z h) 3 v8) (b + 2) i (some (vg_z h))) := by
  have hz := p.1.zz
  have q := CX.fresh (h' := vg_wi (vg_wi (vg_wi (vg_wi (vg_wi (vg_wi (vg_new h 6 0) (vg_z h) 4 0) (vg_z h) 5 168) (vg_z h) 0 (nI i)) (vg_z h) 1 v6) (vg_z h) 2 v7) (vg_z h) 3 v8) p (fs_wi (fs_wi (fs_wi (fs_wi (fs_wi (fs_wi (fs_new fs_0 (Nat.le_refl _)) (Nat.le_refl _)) (Nat.le_refl _)) (Nat.le_refl _)) (Nat.le_refl _)) (Nat.le_refl _)) (Nat.le_refl _)) (Nat.le_succ _)
  have hI : ∀ a k, (vg_wi (vg_wi (vg_wi (vg_wi (vg_wi (vg_wi (vg_new h 6 0) (vg_z h) 4 0) (vg_z h) 5 168) (vg_z h) 0 (nI i)) (vg_z h) 1 v6) (vg_z h) 2 v7) (vg_z h) 3 v8).2.2.1 a k = if a = vg_z h then (if k = 0 then nI i else if k = 1 then v6 else if k = 2 then v7 else if k = 3 then v8 else if k = 4 then 0 else if k = 5 then 168 else 0) else h.2.2.1 a k := by
    intro a k
    simp only [wi_i, nw_i]
    grind
  have hk : ∀ a, (vg_wi (vg_wi (vg_wi (vg_wi (vg_wi (vg_wi (vg_new h 6 0) (vg_z h) 4 0) (vg_z h) 5 168) (vg_z h) 0 (nI i)) (vg_z h) 1 v6) (vg_z h) 2 v7) (vg_z h) 3 v8).1 a = if a = vg_z h then 6 else h.1 a := fun a => nw_k h a 6 0
  have hr : ∀ a k, (vg_wi (vg_wi (vg_wi (vg_wi (vg_wi (vg_wi (vg_new h 6 0) (vg_z h) 4 0) (vg_z h) 5 168) (vg_z h) 0 (nI i)) (vg_z h) 1 v6) (vg_z h) 2 v7) (vg_z h) 3 v8).2.2.2.2.1 a k = if a = vg_z h then none else h.2.2.2.2.1 a k := fun a k => nw_r h a k 6 0
  have hzz : vg_z (vg_wi (vg_wi (vg_wi (vg_wi (vg_wi (vg_wi (vg_new h 6 0) (vg_z h) 4 0) (vg_z h) 5 168) (vg_z h) 0 (nI i)) (vg_z h) 1 v6) (vg_z h) 2 v7) (vg_z h) 3 v8) = vg_z h + 1 := rfl
  have old := p.2.2.2.1
  generalize vg_wi (vg_wi (vg_wi (vg_wi (vg_wi (vg_wi (vg_new h 6 0) (vg_z h) 4 0) (vg_z h) 5 168) (vg_z h) 0 (nI i)) (vg_z h) 1 v6) (vg_z h) 2 v7) (vg_z h) 3 v8 = h1 at *
  refine q.atP rfl rfl rfl (q.1.wr (by omega)) (fun a e1 e2 => ⟨rfl, wr_row e1⟩) (fun g e => upAf (Ne.symm e)) (fun f hf => ?_) ?_
  · rw [upf (by omega), upf (by omega), upf (by omega), upf (by omega), upf (by omega), upf (by omega)]
  · clear p q
    unfold cxP at *
    simp only [wr_i, wr_k, wr_n, wr_r, wr_z, up_e, upA_e, hI, hk, hr]
    generalize vg_z h = z at *
    intro j hj
    have := old j hj
    by_cases e : j = i
    · grind
    · grind
end C1
