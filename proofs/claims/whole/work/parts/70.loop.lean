/-! ===== the law's loop ===== -/
/-- what stands before call k of the script -/
def LI (G : vg_G) (b n k : Nat) (S : SS) (h : vg_H) : Prop := (∃ A, CX G b A S h ∧ CV b A S h) ∧ MX b S h ∧ Inv S k ∧ h.1 (b + 80) = 101 ∧ h.2.1 (b + 80) = 1 ∧ h.1 (G.2.2.2.2 4) = 200 ∧ h.2.1 (G.2.2.2.2 4) = n
theorem lcmp_self (v : Int64) : lg_cmp v v = 0 := by unfold lg_cmp; simp
section LO
variable {G : vg_G} {b n k : Nat} {A : AA} {S S' : SS} {h h1 h2 : vg_H} {Q : vg_O → vg_H → Prop}
theorem CV.fm (p : CV b A S h) (q : fm b h h1) : CV b A S h1 := by
  obtain ⟨q1, q2, q3, q4, q5, q6⟩ := q
  exact p.keep rfl ⟨rfl, rfl, rfl, rfl, rfl, rfl, rfl, rfl⟩ ⟨q6 _ (by omega), by rw [q4], by rw [q5], q6 _ (by omega), q6 _ (by omega)⟩ (fun z hz => ⟨by rw [q6 _ (by omega)], by rw [q4]⟩)
theorem CV.out (p : CV b A S h) (v : Int64) : CV b A S (vg_wl h (b + 80) 0 v) :=
  p.keep rfl ⟨rfl, rfl, rfl, rfl, rfl, rfl, rfl, rfl⟩ ⟨rfl, rfl, by funext j; rw [wl_l, if_neg (fun z => by omega)], rfl, rfl⟩ (fun z hz => ⟨rfl, rfl⟩)
/-- behind the class's call the model still holds S, the rest stands -/
theorem LI.cl (p : LI G b n k S h) (q : CE G b S' h h1) : MX b S h1 ∧ h1.1 (b + 80) = 101 ∧ h1.2.1 (b + 80) = 1 ∧ h1.1 (G.2.2.2.2 4) = 200 ∧ h1.2.1 (G.2.2.2.2 4) = n ∧ h1.1 (b + 37) = 11 := by
  obtain ⟨⟨A, p1, p2⟩, p3, p4, p5, p6, p7, p8⟩ := p
  have g4 := p1.2.2.2.2.2.2.2.2.2.2.2.2.1
  have r := q.1.2 (b + 80) (by omega)
  have s := q.1.2 (G.2.2.2.2 4) (Or.inl g4)
  have m := p3.fr q.1
  exact ⟨m, by rw [r.1]; exact p5, by rw [r.2.1]; exact p6, by rw [s.1]; exact p7, by rw [s.2.1]; exact p8, m.1⟩
/-- behind both calls -/
theorem LI.both (p : LI G b n k S h) (q : CE G b S' h h1) {w : Int32} (m : MP b S' w h1 h2) (i : Inv S' (k + 1)) : LI G b n (k + 1) S' h2 := by
  obtain ⟨c1, c2, c3, c4, c5, c6⟩ := p.cl q
  obtain ⟨A, a1, a2⟩ := q.2
  have f := m.1.2
  refine ⟨⟨A, a1.fm f, a2.fm f⟩, m.mx, i, ?_, ?_, ?_, ?_⟩
  · rw [f.2.1]; exact c2
  · rw [f.2.2.1]; exact c3
  · rw [f.2.1]; exact c4
  · rw [f.2.2.1]; exact c5
/-- the class's call and what it answers in out[0] -/
def OV (G : vg_G) (b : Nat) (S' : SS) (h : vg_H) (w : Int32) (v : Int64) (h1 : vg_H) : Prop := ∃ h0, CE G b S' h h0 ∧ (h1 = h0 ∨ h1 = vg_wl h0 (b + 80) 0 v) ∧ (w = 0 → h1 = vg_wl h0 (b + 80) 0 v)
theorem LI.row (p : LI G b n k S h) (q : CE G b S' h h1) (j : Nat) : h1.2.2.1 (G.2.2.2.2 4) j = h.2.2.1 (G.2.2.2.2 4) j := by
  obtain ⟨⟨A, p1, p2⟩, _⟩ := p
  rw [(q.1.2 (G.2.2.2.2 4) (Or.inl p1.2.2.2.2.2.2.2.2.2.2.2.2.1)).2.2.1]
theorem LI.rowO {w : Int32} {v : Int64} (p : LI G b n k S h) (q : OV G b S' h w v h1) (j : Nat) : h1.2.2.1 (G.2.2.2.2 4) j = h.2.2.1 (G.2.2.2.2 4) j := by
  obtain ⟨h0, q1, q2, _⟩ := q
  rcases q2 with rfl | rfl
  · exact p.row q1 j
  · exact p.row q1 j
theorem LI.clO {w : Int32} {v : Int64} (p : LI G b n k S h) (q : OV G b S' h w v h1) : MX b S h1 ∧ h1.1 (b + 80) = 101 ∧ h1.2.1 (b + 80) = 1 ∧ h1.1 (G.2.2.2.2 4) = 200 ∧ h1.2.1 (G.2.2.2.2 4) = n ∧ h1.1 (b + 37) = 11 := by
  obtain ⟨h0, q1, q2, _⟩ := q
  rcases q2 with rfl | rfl
  · exact p.cl q1
  · have x := p.cl q1
    exact x
theorem LI.outO {w : Int32} {v : Int64} (_p : LI G b n k S h) (q : OV G b S' h w v h1) (e : w = 0) : h1.2.2.2.1 (b + 80) 0 = v := by
  obtain ⟨h0, q1, _, q3⟩ := q
  rw [q3 e, wl_l, if_pos ⟨rfl, rfl⟩]
theorem LI.bothO {w w' : Int32} {v : Int64} (p : LI G b n k S h) (q : OV G b S' h w v h1) (m : MP b S' w' h1 h2) (i : Inv S' (k + 1)) : LI G b n (k + 1) S' h2 := by
  obtain ⟨c1, c2, c3, c4, c5, c6⟩ := p.clO q
  have qq : ∃ A, CX G b A S' h1 ∧ CV b A S' h1 := by
    obtain ⟨h0, q1, q2, _⟩ := q
    obtain ⟨A, a1, a2⟩ := q1.2
    rcases q2 with rfl | rfl
    · exact ⟨A, a1, a2⟩
    · exact ⟨A, a1.wl, a2.out v⟩
  obtain ⟨A, a1, a2⟩ := qq
  have f := m.1.2
  refine ⟨⟨A, a1.fm f, a2.fm f⟩, m.mx, i, ?_, ?_, ?_, ?_⟩
  · rw [f.2.1]; exact c2
  · rw [f.2.2.1]; exact c3
  · rw [f.2.1]; exact c4
  · rw [f.2.2.1]; exact c5
end LO
