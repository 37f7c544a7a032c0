/-! ===== the law's loop ===== -/
/-- what stands before call k of the script -/
def LI (G : vg_G) (b n k : Nat) (S : SS) (h : vg_H) : Prop := (∃ A, CX G b A S h ∧ CV b A S h) ∧ MX b S h ∧ Inv S k ∧ h.1 (b + 80) = 101 ∧ h.2.1 (b + 80) = 1 ∧ h.1 (G.2.2.2.2 4) = 200 ∧ h.2.1 (G.2.2.2.2 4) = n
theorem lcmp_self (v : Int64) : lg_cmp v v = 0 := by unfold lg_cmp; simp
section LO
variable {G : vg_G} {b n k : Nat} {A : AA} {S S' : SS} {h h1 h2 : vg_H} {Q : vg_O → vg_H → Prop}
theorem CV.fm (p : CV b A S h) (q : fm b h h1) : CV b A S h1 := by
  obtain ⟨q1, q2, q3, q4, q5, q6⟩ := q
  exact p.keep rfl ⟨rfl, rfl, rfl, rfl, rfl, rfl, rfl, rfl⟩ ⟨q6 _ (by omega), by rw [q4], by rw [q5], q6 _ (by omega), q6 _ (by omega)⟩ (fun z hz => ⟨by rw [q6 _ (by omega)], by rw [q4]⟩)
theorem CV.out (p : CV b A S h) (v : Int64) : CV b A S (vg_wl h (b + 80) 0 v) :=
  p.keep rfl ⟨rfl, rfl, rfl, rfl, rfl, rfl, rfl, rfl⟩ ⟨rfl, rfl, by funext j; rw [wl_l, if_neg (fun z => by omega)], rfl, rfl⟩ (fun z hz => ⟨rfl, rfl⟩)
/-- behind the class's call the model still holds S, the rest stands -/
theorem LI.cl (p : LI G b n k S h) (q : CE G b S' h h1) : MX b S h1 ∧ h1.1 (b + 80) = 101 ∧ h1.2.1 (b + 80) = 1 ∧ h1.1 (G.2.2.2.2 4) = 200 ∧ h1.2.1 (G.2.2.2.2 4) = n ∧ h1.1 (b + 37) = 11 := by
  obtain ⟨⟨A, p1, p2⟩, p3, p4, p5, p6, p7, p8⟩ := p
  have g4 := p1.2.2.2.2.2.2.2.2.2.2.2.2.1
  have r := q.1.2 (b + 80) (by omega)
  have s := q.1.2 (G.2.2.2.2 4) (Or.inl g4)
  have m := p3.fr q.1
  exact ⟨m, by rw [r.1]; exact p5, by rw [r.2.1]; exact p6, by rw [s.1]; exact p7, by rw [s.2.1]; exact p8, m.1⟩
/-- the states agree but for what the model keeps of covers -/
def off (S S' : SS) : Prop := ∀ f, ¬ f = 11 → ¬ f = 12 → S' f = S f
theorem off.refl (S : SS) : off S S := fun _ _ _ => rfl
theorem CX.off (p : CX G b A S h) (e : off S S') : CX G b A S' h := by
  obtain ⟨p1, p2, p3, p4, p5, p6, p7, p8, p9, p10⟩ := p
  have x : ∀ f, ¬ f = 11 ∧ ¬ f = 12 → S' f = S f := fun f hf => e f hf.1 hf.2
  refine ⟨p1, ?_, p3.keep ⟨x 3 (by decide), x 4 (by decide)⟩ rfl (Nat.le_refl _) (fun c h1 h2 h3 => ⟨rfl, rfl, rfl, fun _ => rfl⟩), p4.keep rfl ⟨x 5 (by decide), x 6 (by decide), x 7 (by decide), x 8 (by decide), x 9 (by decide), x 10 (by decide)⟩ rfl (Nat.le_refl _) (fun c h1 h2 h3 => ⟨rfl, rfl, rfl⟩),
    p5.keep rfl ⟨x 13 (by decide), x 14 (by decide), x 15 (by decide), x 16 (by decide), x 17 (by decide), x 18 (by decide), x 20 (by decide), x 21 (by decide), x 22 (by decide)⟩ rfl (Nat.le_refl _) (fun c h1 h2 h3 => ⟨rfl, rfl, rfl, rfl⟩),
    p6.keep rfl rfl ⟨x 23 (by decide), x 24 (by decide), x 25 (by decide), x 26 (by decide), x 27 (by decide)⟩ rfl (Nat.le_refl _) (fun c h1 h2 h3 => ⟨rfl, rfl, rfl, fun _ => rfl⟩),
    p7.keep rfl ⟨x 28 (by decide), x 29 (by decide), x 30 (by decide), x 31 (by decide)⟩ rfl (Nat.le_refl _) (fun c h1 h2 h3 => ⟨rfl, rfl, rfl⟩),
    p8.keep rfl ⟨x 32 (by decide), x 33 (by decide), x 34 (by decide), x 35 (by decide), x 36 (by decide), x 37 (by decide)⟩ rfl (Nat.le_refl _) (fun c h1 h2 h3 => ⟨rfl, rfl, rfl, fun _ => rfl⟩),
    p9.keep rfl ⟨x 38 (by decide), x 39 (by decide), x 40 (by decide), x 41 (by decide)⟩ rfl (Nat.le_refl _) (fun c h1 h2 h3 => ⟨rfl, rfl, rfl⟩), p10⟩
  unfold cxI at *
  rw [x 13 (by decide), x 38 (by decide), x 2 (by decide), x 1 (by decide)]; exact p2
theorem CV.off (p : CV b A S h) (e : off S S') : CV b A S' h := by
  have x : ∀ f, ¬ f = 11 ∧ ¬ f = 12 → S' f = S f := fun f hf => e f hf.1 hf.2
  exact p.keep rfl ⟨x 1 (by decide), x 4 (by decide), x 5 (by decide), x 6 (by decide), x 7 (by decide), x 8 (by decide), x 9 (by decide), x 10 (by decide)⟩ ⟨rfl, rfl, rfl, rfl, rfl⟩ (fun z hz => ⟨rfl, rfl⟩)
/-- behind both calls -/
theorem LI.both {S2 : SS} (p : LI G b n k S h) (q : CE G b S' h h1) {w : Int32} (m : MP b S2 w h1 h2) (e : off S' S2) (i : Inv S2 (k + 1)) : LI G b n (k + 1) S2 h2 := by
  obtain ⟨c1, c2, c3, c4, c5, c6⟩ := p.cl q
  obtain ⟨A, a1, a2⟩ := q.2
  have f := m.1.2
  refine ⟨⟨A, (a1.off e).fm f, (a2.off e).fm f⟩, m.mx, i, ?_, ?_, ?_, ?_⟩
  · rw [f.2.1]; exact c2
  · rw [f.2.2.1]; exact c3
  · rw [f.2.1]; exact c4
  · rw [f.2.2.1]; exact c5
/-- the class's call and what it answers in out[0] -/
def OV (G : vg_G) (b : Nat) (S' : SS) (h : vg_H) (w : Int32) (v : Int64) (h1 : vg_H) : Prop := ∃ h0, CE G b S' h h0 ∧ (h1 = h0 ∨ h1 = vg_wl h0 (b + 80) 0 v) ∧ (w = 0 → h1 = vg_wl h0 (b + 80) 0 v)
theorem LI.row (p : LI G b n k S h) (q : CE G b S' h h1) (j : Nat) : h1.2.2.1 (G.2.2.2.2 4) j = h.2.2.1 (G.2.2.2.2 4) j := by
  obtain ⟨⟨A, p1, p2⟩, _⟩ := p
  rw [(q.1.2 (G.2.2.2.2 4) (Or.inl p1.2.2.2.2.2.2.2.2.2.2.2.2.1)).2.2.1]
theorem LI.rowO {w : Int32} {v : Int64} (p : LI G b n k S h) (q : OV G b S' h w v h1) (j : Nat) : h1.2.2.1 (G.2.2.2.2 4) j = h.2.2.1 (G.2.2.2.2 4) j := by
  obtain ⟨h0, q1, q2, _⟩ := q
  rcases q2 with rfl | rfl
  · exact p.row q1 j
  · exact p.row q1 j
theorem LI.clO {w : Int32} {v : Int64} (p : LI G b n k S h) (q : OV G b S' h w v h1) : MX b S h1 ∧ h1.1 (b + 80) = 101 ∧ h1.2.1 (b + 80) = 1 ∧ h1.1 (G.2.2.2.2 4) = 200 ∧ h1.2.1 (G.2.2.2.2 4) = n ∧ h1.1 (b + 37) = 11 := by
  obtain ⟨h0, q1, q2, _⟩ := q
  rcases q2 with rfl | rfl
  · exact p.cl q1
  · have x := p.cl q1
    exact x
theorem LI.outO {w : Int32} {v : Int64} (_p : LI G b n k S h) (q : OV G b S' h w v h1) (e : w = 0) : h1.2.2.2.1 (b + 80) 0 = v := by
  obtain ⟨h0, q1, _, q3⟩ := q
  rw [q3 e, wl_l, if_pos ⟨rfl, rfl⟩]
theorem LI.bothO {S2 : SS} {w w' : Int32} {v : Int64} (p : LI G b n k S h) (q : OV G b S' h w v h1) (m : MP b S2 w' h1 h2) (e : off S' S2) (i : Inv S2 (k + 1)) : LI G b n (k + 1) S2 h2 := by
  obtain ⟨c1, c2, c3, c4, c5, c6⟩ := p.clO q
  have qq : ∃ A, CX G b A S' h1 ∧ CV b A S' h1 := by
    obtain ⟨h0, q1, q2, _⟩ := q
    obtain ⟨A, a1, a2⟩ := q1.2
    rcases q2 with rfl | rfl
    · exact ⟨A, a1, a2⟩
    · exact ⟨A, a1.wl, a2.out v⟩
  obtain ⟨A, a1, a2⟩ := qq
  have f := m.1.2
  refine ⟨⟨A, (a1.off e).fm f, (a2.off e).fm f⟩, m.mx, i, ?_, ?_, ?_, ?_⟩
  · rw [f.2.1]; exact c2
  · rw [f.2.2.1]; exact c3
  · rw [f.2.1]; exact c4
  · rw [f.2.2.1]; exact c5
/-- what a call throws and answers, as the class has it -/
def RR (κ : Int32) (S : SS) (T : Int64 → SS → Prop) (w : Int32) (v : Int64) (S' : SS) : Prop := (¬ κ = 0 ∧ w = κ ∧ S' = S) ∨ (κ = 0 ∧ w = 0 ∧ T v S')
def RW (κ : Int32) (S : SS) (X : SS) (w : Int32) (S' : SS) : Prop := (¬ κ = 0 ∧ w = κ ∧ S' = S) ∨ (κ = 0 ∧ w = 0 ∧ S' = X)
def CO (G : vg_G) (b : Nat) (S : SS) (h : vg_H) (κ : Int32) (T : Int64 → SS → Prop) (cv : Int32 → Int64) (o : vg_O) (h' : vg_H) : Prop := (∃ r S', o = .inl (some (.inl r)) ∧ κ = 0 ∧ T (cv r) S' ∧ CE G b S' h h') ∨ (o = .inr 0 ∧ κ = 1 ∧ CE G b S h h') ∨ (o = .inr 1 ∧ κ = 2 ∧ CE G b S h h')
def CO1 (j0 : Nat) (G : vg_G) (b : Nat) (S : SS) (h : vg_H) (κ : Int32) (T : Int64 → SS → Prop) (cv : Int32 → Int64) (o : vg_O) (h' : vg_H) : Prop := (∃ r S', o = .inl (some (.inl r)) ∧ κ = 0 ∧ T (cv r) S' ∧ CE G b S' h h') ∨ (o = .inr j0 ∧ κ = 1 ∧ CE G b S h h')
def CW (G : vg_G) (b : Nat) (S : SS) (h : vg_H) (κ : Int32) (X : SS) (o : vg_O) (h' : vg_H) : Prop := (o = .inl none ∧ κ = 0 ∧ CE G b X h h') ∨ (o = .inr 0 ∧ κ = 1 ∧ CE G b S h h') ∨ (o = .inr 1 ∧ κ = 2 ∧ CE G b S h h')
/-- the same of the model's call -/
def PM (b k : Nat) (cv : Int32 → Int64) (w : Int32) (v : Int64) (S' : SS) (h1 : vg_H) (o : vg_O) (h2 : vg_H) : Prop := ∃ r S2, o = .inl (some (.inl r)) ∧ MP b S2 w h1 h2 ∧ (w = 0 → cv r = v) ∧ off S' S2 ∧ Inv S2 (k + 1)
def PW (b k : Nat) (w : Int32) (S' : SS) (h1 : vg_H) (o : vg_O) (h2 : vg_H) : Prop := ∃ S2, o = .inl none ∧ MP b S2 w h1 h2 ∧ off S' S2 ∧ Inv S2 (k + 1)
variable {κ w r : Int32} {v : Int64} {T : Int64 → SS → Prop} {cv : Int32 → Int64} {X : SS}
theorem PM.bad (hR : RR κ S T w v S') (hi : Inv S k) (hne : ¬ κ = 0) (mp : MP b S κ h1 h2) : PM b k cv w v S' h1 (.inl (some (.inl r))) h2 := by
  rcases hR with ⟨_, rfl, rfl⟩ | ⟨e, _⟩
  · exact ⟨r, _, rfl, mp, fun e => absurd e hne, off.refl _, hi.next⟩
  · exact absurd e hne
theorem PM.good (hR : RR κ S T w v S') (e : κ = 0) (hT : T v S' → ∃ S2, MP b S2 0 h1 h2 ∧ cv r = v ∧ off S' S2 ∧ Inv S2 (k + 1)) : PM b k cv w v S' h1 (.inl (some (.inl r))) h2 := by
  rcases hR with ⟨ne, _⟩ | ⟨_, rfl, t⟩
  · exact absurd e ne
  · obtain ⟨S2, a1, a2, a3, a4⟩ := hT t
    exact ⟨r, S2, rfl, a1, fun _ => a2, a3, a4⟩
theorem PM.go (hR : RR κ S (fun v S' => v = cv r ∧ S' = X) w v S') (e : κ = 0) (mp : MP b X 0 h1 h2) (i : Inv X (k + 1)) : PM b k cv w v S' h1 (.inl (some (.inl r))) h2 :=
  PM.good hR e (fun t => by obtain ⟨rfl, rfl⟩ := t; exact ⟨_, mp, rfl, off.refl _, i⟩)
theorem PW.bad (hR : RW κ S X w S') (hi : Inv S k) (hne : ¬ κ = 0) (mp : MP b S κ h1 h2) : PW b k w S' h1 (.inl none) h2 := by
  rcases hR with ⟨_, rfl, rfl⟩ | ⟨e, _⟩
  · exact ⟨_, rfl, mp, off.refl _, hi.next⟩
  · exact absurd e hne
theorem PW.go (hR : RW κ S X w S') (e : κ = 0) (mp : MP b X 0 h1 h2) (i : Inv X (k + 1)) : PW b k w S' h1 (.inl none) h2 := by
  rcases hR with ⟨ne, _⟩ | ⟨_, rfl, rfl⟩
  · exact absurd e ne
  · exact ⟨_, rfl, mp, off.refl _, i⟩
theorem CO.bad1 (e : κ = 1) (c : CE G b S h h1) : CO G b S h κ T cv (.inr 0) h1 := Or.inr (Or.inl ⟨rfl, e, c⟩)
theorem CO.bad2 (e : κ = 2) (c : CE G b S h h1) : CO G b S h κ T cv (.inr 1) h1 := Or.inr (Or.inr ⟨rfl, e, c⟩)
theorem CO.good (e : κ = 0) (t : T (cv r) S') (c : CE G b S' h h1) : CO G b S h κ T cv (.inl (some (.inl r))) h1 := Or.inl ⟨r, S', rfl, e, t, c⟩
theorem CO1.bad {j0 : Nat} (e : κ = 1) (c : CE G b S h h1) : CO1 j0 G b S h κ T cv (.inr j0) h1 := Or.inr ⟨rfl, e, c⟩
theorem CO1.good {j0 : Nat} (e : κ = 0) (t : T (cv r) S') (c : CE G b S' h h1) : CO1 j0 G b S h κ T cv (.inl (some (.inl r))) h1 := Or.inl ⟨r, S', rfl, e, t, c⟩
theorem CW.bad1 (e : κ = 1) (c : CE G b S h h1) : CW G b S h κ X (.inr 0) h1 := Or.inr (Or.inl ⟨rfl, e, c⟩)
theorem CW.bad2 (e : κ = 2) (c : CE G b S h h1) : CW G b S h κ X (.inr 1) h1 := Or.inr (Or.inr ⟨rfl, e, c⟩)
theorem CW.good (e : κ = 0) (c : CE G b X h h1) : CW G b S h κ X (.inl none) h1 := Or.inl ⟨rfl, e, c⟩
def cI (r : Int32) : Int64 := r.toInt64
def cB (r : Int32) : Int64 := if r = 0 then 0 else 1
end LO
