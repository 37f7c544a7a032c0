/-! ===== what writes leave alone ===== -/
def upA (A : AA) (f i v : Nat) : AA := fun g j => if g = f ∧ j = i then v else A g j
theorem upA_e (A : AA) (f i v g j : Nat) : upA A f i v g j = if g = f ∧ j = i then v else A g j := rfl
section KP
variable {G : vg_G} {b : Nat} {A : AA} {S : SS} {h : vg_H}
theorem upf {f i g : Nat} {v : Int32} (e : ¬ f = g) : up S f i v g = S g := by
  funext j; rw [up_e, if_neg (fun z => e z.1.symm)]
theorem upAf {f i v g : Nat} (e : ¬ f = g) : upA A f i v g = A g := by
  funext j; rw [upA_e, if_neg (fun z => e z.1.symm)]
theorem wi_row {a k c : Nat} {v : Int32} (e : ¬ c = a) : (vg_wi h a k v).2.2.1 c = h.2.2.1 c := by funext j; rw [wi_i, if_neg (fun z => e z.1)]
theorem wr_row {a k c : Nat} {v : Option Nat} (e : ¬ c = a) : (vg_wr h a k v).2.2.2.2.1 c = h.2.2.2.2.1 c := by funext j; rw [wr_r, if_neg (fun z => e z.1)]
theorem nwi_row {c n a : Nat} (e : ¬ a = vg_z h) : (vg_new h c n).2.2.1 a = h.2.2.1 a := by funext j; rw [nw_i, if_neg e]
theorem nwr_row {c n a : Nat} (e : ¬ a = vg_z h) : (vg_new h c n).2.2.2.2.1 a = h.2.2.2.2.1 a := by funext j; rw [nw_r, if_neg e]
theorem cxP.keep {A' : AA} {S' : SS} {h' : vg_H} (q : cxP b A S h) (hA : A' 6 = A 6) (hS : S' 5 = S 5 ∧ S' 6 = S 6 ∧ S' 7 = S 7 ∧ S' 8 = S 8 ∧ S' 9 = S 9 ∧ S' 10 = S 10) (hb : h'.2.2.2.2.1 (b + 2) = h.2.2.2.2.1 (b + 2)) (hz : vg_z h ≤ vg_z h') (hc : ∀ a, b + 81 ≤ a → a < vg_z h → h.1 a = 6 → h'.1 a = h.1 a ∧ h'.2.1 a = h.2.1 a ∧ h'.2.2.1 a = h.2.2.1 a) : cxP b A' S' h' := by
  obtain ⟨s1, s2, s3, s4, s5, s6⟩ := hS
  intro p hp
  rw [hA, s1, s2, s3, s4, s5, s6, hb]
  refine ⟨(q p hp).1, fun e => ?_⟩
  obtain ⟨a1, a2, a3, a4, a5⟩ := (q p hp).2 e
  obtain ⟨d1, d2, d3⟩ := hc (A 6 p) a3 a4 a2
  rw [d1, d3]
  exact ⟨a1, a2, a3, by omega, a5⟩
theorem cxP.wi (p : cxP b A S h) {a k : Nat} {v : Int32} (e : ¬ h.1 a = 6) : cxP b A S (vg_wi h a k v) :=
  p.keep rfl ⟨rfl, rfl, rfl, rfl, rfl, rfl⟩ rfl (Nat.le_refl _) (fun c h1 h2 h3 => ⟨rfl, rfl, wi_row (fun z => by subst z; omega)⟩)
theorem cxP.wr (p : cxP b A S h) {a k : Nat} {v : Option Nat} (e : ¬ a = b + 2) : cxP b A S (vg_wr h a k v) :=
  p.keep rfl ⟨rfl, rfl, rfl, rfl, rfl, rfl⟩ (wr_row (fun z => by omega)) (Nat.le_refl _) (fun c h1 h2 h3 => ⟨rfl, rfl, rfl⟩)
theorem cxP.new (p : cxP b A S h) {c n : Nat} (hz : b + 81 ≤ vg_z h) : cxP b A S (vg_new h c n) :=
  p.keep rfl ⟨rfl, rfl, rfl, rfl, rfl, rfl⟩ (nwr_row (by omega)) (Nat.le_succ _) (fun c h1 h2 h3 => ⟨by rw [nw_k, if_neg (by omega)], by rw [nw_n, if_neg (by omega)], nwi_row (by omega)⟩)
theorem cxP.skip (p : cxP b A S h) {n : Nat} (hn : vg_z h ≤ n) : cxP b A S (vg_skip h n) :=
  p.keep rfl ⟨rfl, rfl, rfl, rfl, rfl, rfl⟩ rfl hn (fun c h1 h2 h3 => ⟨rfl, rfl, rfl⟩)
theorem cxP.up (p : cxP b A S h) {f i : Nat} {v : Int32} (e : ¬ f = 5 ∧ ¬ f = 6 ∧ ¬ f = 7 ∧ ¬ f = 8 ∧ ¬ f = 9 ∧ ¬ f = 10) : cxP b A (up S f i v) h :=
  p.keep rfl ⟨upf e.1, upf e.2.1, upf e.2.2.1, upf e.2.2.2.1, upf e.2.2.2.2.1, upf e.2.2.2.2.2⟩ rfl (Nat.le_refl _) (fun c h1 h2 h3 => ⟨rfl, rfl, rfl⟩)
theorem cxP.upA (p : cxP b A S h) {f i v : Nat} (e : ¬ f = 6) : cxP b (upA A f i v) S h :=
  p.keep (upAf e) ⟨rfl, rfl, rfl, rfl, rfl, rfl⟩ rfl (Nat.le_refl _) (fun c h1 h2 h3 => ⟨rfl, rfl, rfl⟩)
theorem cxT.keep {A' : AA} {S' : SS} {h' : vg_H} (q : cxT G b A S h) (hA : A' 8 = A 8) (hS : S' 13 = S 13 ∧ S' 14 = S 14 ∧ S' 15 = S 15 ∧ S' 16 = S 16 ∧ S' 17 = S 17 ∧ S' 18 = S 18 ∧ S' 20 = S 20 ∧ S' 21 = S 21 ∧ S' 22 = S 22) (hb : h'.2.2.2.2.1 (b + 9) = h.2.2.2.2.1 (b + 9)) (hz : vg_z h ≤ vg_z h') (hc : ∀ a, b + 81 ≤ a → a < vg_z h → h.1 a = 8 → h'.1 a = h.1 a ∧ h'.2.1 a = h.2.1 a ∧ h'.2.2.1 a = h.2.2.1 a ∧ h'.2.2.2.2.1 a = h.2.2.2.2.1 a) : cxT G b A' S' h' := by
  obtain ⟨s1, s2, s3, s4, s5, s6, s7, s8, s9⟩ := hS
  intro p hp hp2
  have q' := q p hp (by unfold nT at *; rw [s1] at hp2; exact hp2)
  rw [hA, s2, s3, s4, s5, s6, s7, s8, s9, hb]
  obtain ⟨a1, a2, a3, a4, a5⟩ := q'
  obtain ⟨d1, d2, d3, d4⟩ := hc (A 8 p) a3 a4 a2
  rw [d1, d3, d4]
  exact ⟨a1, a2, a3, by omega, a5⟩
theorem cxT.wi (p : cxT G b A S h) {a k : Nat} {v : Int32} (e : ¬ h.1 a = 8) : cxT G b A S (vg_wi h a k v) :=
  p.keep rfl ⟨rfl, rfl, rfl, rfl, rfl, rfl, rfl, rfl, rfl⟩ rfl (Nat.le_refl _) (fun c h1 h2 h3 => ⟨rfl, rfl, wi_row (fun z => by subst z; omega), rfl⟩)
theorem cxT.wr (p : cxT G b A S h) {a k : Nat} {v : Option Nat} (e : ¬ a = b + 9 ∧ ¬ h.1 a = 8) : cxT G b A S (vg_wr h a k v) :=
  p.keep rfl ⟨rfl, rfl, rfl, rfl, rfl, rfl, rfl, rfl, rfl⟩ (wr_row (fun z => by omega)) (Nat.le_refl _) (fun c h1 h2 h3 => ⟨rfl, rfl, rfl, wr_row (fun z => by subst z; omega)⟩)
theorem cxT.new (p : cxT G b A S h) {c n : Nat} (hz : b + 81 ≤ vg_z h) : cxT G b A S (vg_new h c n) :=
  p.keep rfl ⟨rfl, rfl, rfl, rfl, rfl, rfl, rfl, rfl, rfl⟩ (nwr_row (by omega)) (Nat.le_succ _) (fun c h1 h2 h3 => ⟨by rw [nw_k, if_neg (by omega)], by rw [nw_n, if_neg (by omega)], nwi_row (by omega), nwr_row (by omega)⟩)
theorem cxT.skip (p : cxT G b A S h) {n : Nat} (hn : vg_z h ≤ n) : cxT G b A S (vg_skip h n) :=
  p.keep rfl ⟨rfl, rfl, rfl, rfl, rfl, rfl, rfl, rfl, rfl⟩ rfl hn (fun c h1 h2 h3 => ⟨rfl, rfl, rfl, rfl⟩)
theorem cxT.up (p : cxT G b A S h) {f i : Nat} {v : Int32} (e : ¬ f = 13 ∧ ¬ f = 14 ∧ ¬ f = 15 ∧ ¬ f = 16 ∧ ¬ f = 17 ∧ ¬ f = 18 ∧ ¬ f = 20 ∧ ¬ f = 21 ∧ ¬ f = 22) : cxT G b A (up S f i v) h :=
  p.keep rfl ⟨upf e.1, upf e.2.1, upf e.2.2.1, upf e.2.2.2.1, upf e.2.2.2.2.1, upf e.2.2.2.2.2.1, upf e.2.2.2.2.2.2.1, upf e.2.2.2.2.2.2.2.1, upf e.2.2.2.2.2.2.2.2⟩ rfl (Nat.le_refl _) (fun c h1 h2 h3 => ⟨rfl, rfl, rfl, rfl⟩)
theorem cxT.upA (p : cxT G b A S h) {f i v : Nat} (e : ¬ f = 8) : cxT G b (upA A f i v) S h :=
  p.keep (upAf e) ⟨rfl, rfl, rfl, rfl, rfl, rfl, rfl, rfl, rfl⟩ rfl (Nat.le_refl _) (fun c h1 h2 h3 => ⟨rfl, rfl, rfl, rfl⟩)
theorem cxC.keep {A' : AA} {S' : SS} {h' : vg_H} (q : cxC b A S h) (hA : A' 2 = A 2) (hA2 : A' 100 = A 100) (hS : S' 23 = S 23 ∧ S' 24 = S 24 ∧ S' 25 = S 25 ∧ S' 26 = S 26 ∧ S' 27 = S 27) (hb : h'.2.2.2.2.1 (b + 10) = h.2.2.2.2.1 (b + 10)) (hz : vg_z h ≤ vg_z h') (hc : ∀ a, b + 81 ≤ a → a < vg_z h → h.1 a = 2 ∨ h.1 a = 100 → h'.1 a = h.1 a ∧ h'.2.1 a = h.2.1 a ∧ h'.2.2.1 a = h.2.2.1 a ∧ (h.1 a = 2 → h'.2.2.2.2.1 a = h.2.2.2.2.1 a)) : cxC b A' S' h' := by
  obtain ⟨s1, s2, s3, s4, s5⟩ := hS
  intro c hc'
  unfold plS
  rw [hA, hA2, s1, s2, s3, s4, s5, hb]
  refine ⟨(q c hc').1, fun e => ?_⟩
  obtain ⟨a1, a2, a3, a4, a5, a6, a7, a8, a9, a10, a11, a12, a13, a14⟩ := (q c hc').2 e
  obtain ⟨d1, d2, d3, d4⟩ := hc (A 2 c) a3 a4 (Or.inl a2)
  obtain ⟨e1, e2, e3, e4⟩ := hc (A 100 c) a8 a9 (Or.inr a6)
  rw [d1, d3, d4 a2, e1, e2, e3]
  exact ⟨a1, a2, a3, by omega, a5, a6, a7, a8, by omega, a10, a11, a12, a13, a14⟩
theorem cxC.wi (p : cxC b A S h) {a k : Nat} {v : Int32} (e : ¬ h.1 a = 2 ∧ (¬ h.1 a = 100 ∨ a < b + 81)) : cxC b A S (vg_wi h a k v) :=
  p.keep rfl rfl ⟨rfl, rfl, rfl, rfl, rfl⟩ rfl (Nat.le_refl _) (fun c h1 h2 h3 => ⟨rfl, rfl, wi_row (fun z => by subst z; omega), fun _ => rfl⟩)
theorem cxC.wr (p : cxC b A S h) {a k : Nat} {v : Option Nat} (e : ¬ a = b + 10 ∧ ¬ h.1 a = 2) : cxC b A S (vg_wr h a k v) :=
  p.keep rfl rfl ⟨rfl, rfl, rfl, rfl, rfl⟩ (wr_row (fun z => by omega)) (Nat.le_refl _) (fun c h1 h2 h3 => ⟨rfl, rfl, rfl, fun q => wr_row (fun z => by subst z; omega)⟩)
theorem cxC.new (p : cxC b A S h) {c n : Nat} (hz : b + 81 ≤ vg_z h) : cxC b A S (vg_new h c n) :=
  p.keep rfl rfl ⟨rfl, rfl, rfl, rfl, rfl⟩ (nwr_row (by omega)) (Nat.le_succ _) (fun c h1 h2 h3 => ⟨by rw [nw_k, if_neg (by omega)], by rw [nw_n, if_neg (by omega)], nwi_row (by omega), fun _ => nwr_row (by omega)⟩)
theorem cxC.skip (p : cxC b A S h) {n : Nat} (hn : vg_z h ≤ n) : cxC b A S (vg_skip h n) :=
  p.keep rfl rfl ⟨rfl, rfl, rfl, rfl, rfl⟩ rfl hn (fun c h1 h2 h3 => ⟨rfl, rfl, rfl, fun _ => rfl⟩)
theorem cxC.up (p : cxC b A S h) {f i : Nat} {v : Int32} (e : ¬ f = 23 ∧ ¬ f = 24 ∧ ¬ f = 25 ∧ ¬ f = 26 ∧ ¬ f = 27) : cxC b A (up S f i v) h :=
  p.keep rfl rfl ⟨upf e.1, upf e.2.1, upf e.2.2.1, upf e.2.2.2.1, upf e.2.2.2.2⟩ rfl (Nat.le_refl _) (fun c h1 h2 h3 => ⟨rfl, rfl, rfl, fun _ => rfl⟩)
theorem cxC.upA (p : cxC b A S h) {f i v : Nat} (e : ¬ f = 2 ∧ ¬ f = 100) : cxC b (upA A f i v) S h :=
  p.keep (upAf e.1) (upAf e.2) ⟨rfl, rfl, rfl, rfl, rfl⟩ rfl (Nat.le_refl _) (fun c h1 h2 h3 => ⟨rfl, rfl, rfl, fun _ => rfl⟩)
theorem cxR.keep {A' : AA} {S' : SS} {h' : vg_H} (q : cxR b A S h) (hA : A' 7 = A 7) (hS : S' 28 = S 28 ∧ S' 29 = S 29 ∧ S' 30 = S 30 ∧ S' 31 = S 31) (hb : h'.2.2.2.2.1 (b + 11) = h.2.2.2.2.1 (b + 11)) (hz : vg_z h ≤ vg_z h') (hc : ∀ a, b + 81 ≤ a → a < vg_z h → h.1 a = 7 → h'.1 a = h.1 a ∧ h'.2.1 a = h.2.1 a ∧ h'.2.2.1 a = h.2.2.1 a) : cxR b A' S' h' := by
  obtain ⟨s1, s2, s3, s4⟩ := hS
  intro p hp
  rw [hA, s1, s2, s3, s4, hb]
  refine ⟨(q p hp).1, fun e => ?_⟩
  obtain ⟨a1, a2, a3, a4, a5⟩ := (q p hp).2 e
  obtain ⟨d1, d2, d3⟩ := hc (A 7 p) a3 a4 a2
  rw [d1, d3]
  exact ⟨a1, a2, a3, by omega, a5⟩
theorem cxR.wi (p : cxR b A S h) {a k : Nat} {v : Int32} (e : ¬ h.1 a = 7) : cxR b A S (vg_wi h a k v) :=
  p.keep rfl ⟨rfl, rfl, rfl, rfl⟩ rfl (Nat.le_refl _) (fun c h1 h2 h3 => ⟨rfl, rfl, wi_row (fun z => by subst z; omega)⟩)
theorem cxR.wr (p : cxR b A S h) {a k : Nat} {v : Option Nat} (e : ¬ a = b + 11) : cxR b A S (vg_wr h a k v) :=
  p.keep rfl ⟨rfl, rfl, rfl, rfl⟩ (wr_row (fun z => by omega)) (Nat.le_refl _) (fun c h1 h2 h3 => ⟨rfl, rfl, rfl⟩)
theorem cxR.new (p : cxR b A S h) {c n : Nat} (hz : b + 81 ≤ vg_z h) : cxR b A S (vg_new h c n) :=
  p.keep rfl ⟨rfl, rfl, rfl, rfl⟩ (nwr_row (by omega)) (Nat.le_succ _) (fun c h1 h2 h3 => ⟨by rw [nw_k, if_neg (by omega)], by rw [nw_n, if_neg (by omega)], nwi_row (by omega)⟩)
theorem cxR.skip (p : cxR b A S h) {n : Nat} (hn : vg_z h ≤ n) : cxR b A S (vg_skip h n) :=
  p.keep rfl ⟨rfl, rfl, rfl, rfl⟩ rfl hn (fun c h1 h2 h3 => ⟨rfl, rfl, rfl⟩)
theorem cxR.up (p : cxR b A S h) {f i : Nat} {v : Int32} (e : ¬ f = 28 ∧ ¬ f = 29 ∧ ¬ f = 30 ∧ ¬ f = 31) : cxR b A (up S f i v) h :=
  p.keep rfl ⟨upf e.1, upf e.2.1, upf e.2.2.1, upf e.2.2.2⟩ rfl (Nat.le_refl _) (fun c h1 h2 h3 => ⟨rfl, rfl, rfl⟩)
theorem cxR.upA (p : cxR b A S h) {f i v : Nat} (e : ¬ f = 7) : cxR b (upA A f i v) S h :=
  p.keep (upAf e) ⟨rfl, rfl, rfl, rfl⟩ rfl (Nat.le_refl _) (fun c h1 h2 h3 => ⟨rfl, rfl, rfl⟩)
theorem cxM.keep {A' : AA} {S' : SS} {h' : vg_H} (q : cxM b A S h) (hA : A' 8 = A 8) (hS : S' 32 = S 32 ∧ S' 33 = S 33 ∧ S' 34 = S 34 ∧ S' 35 = S 35 ∧ S' 36 = S 36 ∧ S' 37 = S 37) (hb : h'.2.2.2.2.1 (b + 12) = h.2.2.2.2.1 (b + 12)) (hz : vg_z h ≤ vg_z h') (hc : ∀ a, b + 25 ≤ a → a < b + 37 → h.1 a = 4 ∨ h.1 a = 100 → h'.1 a = h.1 a ∧ h'.2.1 a = h.2.1 a ∧ h'.2.2.1 a = h.2.2.1 a ∧ (h.1 a = 4 → h'.2.2.2.2.1 a = h.2.2.2.2.1 a)) : cxM b A' S' h' := by
  obtain ⟨s1, s2, s3, s4, s5, s6⟩ := hS
  intro m hm
  unfold coinsS sumS
  rw [hA, s1, s2, s3, s4, s5, s6, hb]
  obtain ⟨a1, a2, a3, a4, a5, a6, a7, a8, a9, a10, a11, a12⟩ := q m hm
  obtain ⟨d1, d2, d3, d4⟩ := hc (b + 25 + 4 * m) (by omega) (by omega) (Or.inl a2)
  obtain ⟨e1, e2, e3, -⟩ := hc (b + 26 + 4 * m) (by omega) (by omega) (Or.inr a6)
  obtain ⟨f1, f2, f3, -⟩ := hc (b + 27 + 4 * m) (by omega) (by omega) (Or.inr a7)
  obtain ⟨g1, g2, g3, -⟩ := hc (b + 28 + 4 * m) (by omega) (by omega) (Or.inr a8)
  rw [d1, d3, d4 a2, e1, e2, e3, f1, f2, f3, g1, g2, g3]
  exact ⟨a1, a2, a3, a4, a5, a6, a7, a8, a9, a10, a11, a12⟩
theorem cxM.wi (p : cxM b A S h) {a k : Nat} {v : Int32} (e : ¬ h.1 a = 4 ∧ (¬ h.1 a = 100 ∨ a < b + 25 ∨ b + 37 ≤ a)) : cxM b A S (vg_wi h a k v) :=
  p.keep rfl ⟨rfl, rfl, rfl, rfl, rfl, rfl⟩ rfl (Nat.le_refl _) (fun c h1 h2 h3 => ⟨rfl, rfl, wi_row (fun z => by subst z; omega), fun _ => rfl⟩)
theorem cxM.wr (p : cxM b A S h) {a k : Nat} {v : Option Nat} (e : ¬ a = b + 12 ∧ ¬ h.1 a = 4) : cxM b A S (vg_wr h a k v) :=
  p.keep rfl ⟨rfl, rfl, rfl, rfl, rfl, rfl⟩ (wr_row (fun z => by omega)) (Nat.le_refl _) (fun c h1 h2 h3 => ⟨rfl, rfl, rfl, fun q => wr_row (fun z => by subst z; omega)⟩)
theorem cxM.new (p : cxM b A S h) {c n : Nat} (hz : b + 81 ≤ vg_z h) : cxM b A S (vg_new h c n) :=
  p.keep rfl ⟨rfl, rfl, rfl, rfl, rfl, rfl⟩ (nwr_row (by omega)) (Nat.le_succ _) (fun c h1 h2 h3 => ⟨by rw [nw_k, if_neg (by omega)], by rw [nw_n, if_neg (by omega)], nwi_row (by omega), fun _ => nwr_row (by omega)⟩)
theorem cxM.skip (p : cxM b A S h) {n : Nat} (hn : vg_z h ≤ n) : cxM b A S (vg_skip h n) :=
  p.keep rfl ⟨rfl, rfl, rfl, rfl, rfl, rfl⟩ rfl hn (fun c h1 h2 h3 => ⟨rfl, rfl, rfl, fun _ => rfl⟩)
theorem cxM.up (p : cxM b A S h) {f i : Nat} {v : Int32} (e : ¬ f = 32 ∧ ¬ f = 33 ∧ ¬ f = 34 ∧ ¬ f = 35 ∧ ¬ f = 36 ∧ ¬ f = 37) : cxM b A (up S f i v) h :=
  p.keep rfl ⟨upf e.1, upf e.2.1, upf e.2.2.1, upf e.2.2.2.1, upf e.2.2.2.2.1, upf e.2.2.2.2.2⟩ rfl (Nat.le_refl _) (fun c h1 h2 h3 => ⟨rfl, rfl, rfl, fun _ => rfl⟩)
theorem cxM.upA (p : cxM b A S h) {f i v : Nat} (e : ¬ f = 8) : cxM b (upA A f i v) S h :=
  p.keep (upAf e) ⟨rfl, rfl, rfl, rfl, rfl, rfl⟩ rfl (Nat.le_refl _) (fun c h1 h2 h3 => ⟨rfl, rfl, rfl, fun _ => rfl⟩)
theorem cxY.keep {A' : AA} {S' : SS} {h' : vg_H} (q : cxY b A S h) (hA : A' 5 = A 5) (hS : S' 38 = S 38 ∧ S' 39 = S 39 ∧ S' 40 = S 40 ∧ S' 41 = S 41) (hb : h'.2.2.2.2.1 (b + 16) = h.2.2.2.2.1 (b + 16)) (hz : vg_z h ≤ vg_z h') (hc : ∀ a, b + 81 ≤ a → a < vg_z h → h.1 a = 5 → h'.1 a = h.1 a ∧ h'.2.1 a = h.2.1 a ∧ h'.2.2.1 a = h.2.2.1 a) : cxY b A' S' h' := by
  obtain ⟨s1, s2, s3, s4⟩ := hS
  intro p hp
  unfold nP at *
  rw [s1] at hp
  rw [hA, s2, s3, s4, hb]
  obtain ⟨a1, a2, a3, a4, a5⟩ := q p hp
  obtain ⟨d1, d2, d3⟩ := hc (A 5 p) a3 a4 a2
  rw [d1, d3]
  exact ⟨a1, a2, a3, by omega, a5⟩
theorem cxY.wi (p : cxY b A S h) {a k : Nat} {v : Int32} (e : ¬ h.1 a = 5) : cxY b A S (vg_wi h a k v) :=
  p.keep rfl ⟨rfl, rfl, rfl, rfl⟩ rfl (Nat.le_refl _) (fun c h1 h2 h3 => ⟨rfl, rfl, wi_row (fun z => by subst z; omega)⟩)
theorem cxY.wr (p : cxY b A S h) {a k : Nat} {v : Option Nat} (e : ¬ a = b + 16) : cxY b A S (vg_wr h a k v) :=
  p.keep rfl ⟨rfl, rfl, rfl, rfl⟩ (wr_row (fun z => by omega)) (Nat.le_refl _) (fun c h1 h2 h3 => ⟨rfl, rfl, rfl⟩)
theorem cxY.new (p : cxY b A S h) {c n : Nat} (hz : b + 81 ≤ vg_z h) : cxY b A S (vg_new h c n) :=
  p.keep rfl ⟨rfl, rfl, rfl, rfl⟩ (nwr_row (by omega)) (Nat.le_succ _) (fun c h1 h2 h3 => ⟨by rw [nw_k, if_neg (by omega)], by rw [nw_n, if_neg (by omega)], nwi_row (by omega)⟩)
theorem cxY.skip (p : cxY b A S h) {n : Nat} (hn : vg_z h ≤ n) : cxY b A S (vg_skip h n) :=
  p.keep rfl ⟨rfl, rfl, rfl, rfl⟩ rfl hn (fun c h1 h2 h3 => ⟨rfl, rfl, rfl⟩)
theorem cxY.up (p : cxY b A S h) {f i : Nat} {v : Int32} (e : ¬ f = 38 ∧ ¬ f = 39 ∧ ¬ f = 40 ∧ ¬ f = 41) : cxY b A (up S f i v) h :=
  p.keep rfl ⟨upf e.1, upf e.2.1, upf e.2.2.1, upf e.2.2.2⟩ rfl (Nat.le_refl _) (fun c h1 h2 h3 => ⟨rfl, rfl, rfl⟩)
theorem cxY.upA (p : cxY b A S h) {f i v : Nat} (e : ¬ f = 5) : cxY b (upA A f i v) S h :=
  p.keep (upAf e) ⟨rfl, rfl, rfl, rfl⟩ rfl (Nat.le_refl _) (fun c h1 h2 h3 => ⟨rfl, rfl, rfl⟩)
theorem cxZ.keep {S' : SS} {h' : vg_H} (q : cxZ b S h) (hS : S' 3 = S 3 ∧ S' 4 = S 4) (hb : h'.2.2.2.2.1 (b + 1) = h.2.2.2.2.1 (b + 1)) (hz : vg_z h ≤ vg_z h') (hc : ∀ a, b + 17 ≤ a → a < b + 25 → h.1 a = 9 ∨ h.1 a = 106 → h'.1 a = h.1 a ∧ h'.2.1 a = h.2.1 a ∧ h'.2.2.1 a = h.2.2.1 a ∧ (h.1 a = 9 → h'.2.2.2.2.1 a = h.2.2.2.2.1 a)) : cxZ b S' h' := by
  obtain ⟨s1, s2⟩ := hS
  intro z hz'
  rw [s1, s2, hb]
  obtain ⟨a1, a2, a3, a4, a5, a6, a7⟩ := q z hz'
  obtain ⟨d1, d2, d3, d4⟩ := hc (b + 17 + 2 * z) (by omega) (by omega) (Or.inl a2)
  obtain ⟨e1, e2, e3, -⟩ := hc (b + 18 + 2 * z) (by omega) (by omega) (Or.inr a5)
  rw [d1, d3, d4 a2, e1, e2]
  exact ⟨a1, a2, a3, a4, a5, a6, a7⟩
theorem cxZ.wi (p : cxZ b S h) {a k : Nat} {v : Int32} (e : ¬ h.1 a = 9 ∧ ¬ h.1 a = 106) : cxZ b S (vg_wi h a k v) :=
  p.keep  ⟨rfl, rfl⟩ rfl (Nat.le_refl _) (fun c h1 h2 h3 => ⟨rfl, rfl, wi_row (fun z => by subst z; omega), fun _ => rfl⟩)
theorem cxZ.wr (p : cxZ b S h) {a k : Nat} {v : Option Nat} (e : ¬ a = b + 1 ∧ ¬ h.1 a = 9) : cxZ b S (vg_wr h a k v) :=
  p.keep  ⟨rfl, rfl⟩ (wr_row (fun z => by omega)) (Nat.le_refl _) (fun c h1 h2 h3 => ⟨rfl, rfl, rfl, fun q => wr_row (fun z => by subst z; omega)⟩)
theorem cxZ.new (p : cxZ b S h) {c n : Nat} (hz : b + 81 ≤ vg_z h) : cxZ b S (vg_new h c n) :=
  p.keep  ⟨rfl, rfl⟩ (nwr_row (by omega)) (Nat.le_succ _) (fun c h1 h2 h3 => ⟨by rw [nw_k, if_neg (by omega)], by rw [nw_n, if_neg (by omega)], nwi_row (by omega), fun _ => nwr_row (by omega)⟩)
theorem cxZ.skip (p : cxZ b S h) {n : Nat} (hn : vg_z h ≤ n) : cxZ b S (vg_skip h n) :=
  p.keep  ⟨rfl, rfl⟩ rfl hn (fun c h1 h2 h3 => ⟨rfl, rfl, rfl, fun _ => rfl⟩)
theorem cxZ.up (p : cxZ b S h) {f i : Nat} {v : Int32} (e : ¬ f = 3 ∧ ¬ f = 4) : cxZ b (up S f i v) h :=
  p.keep  ⟨upf e.1, upf e.2⟩ rfl (Nat.le_refl _) (fun c h1 h2 h3 => ⟨rfl, rfl, rfl, fun _ => rfl⟩)
theorem cxI.wi (p : cxI b S h) {a k : Nat} {v : Int32} (e : ¬ a = b) : cxI b S (vg_wi h a k v) := by
  unfold cxI at *; rw [wi_row (fun z => e z.symm)]; exact p
theorem cxI.wr (p : cxI b S h) {a k : Nat} {v : Option Nat} : cxI b S (vg_wr h a k v) := p
theorem cxI.new (p : cxI b S h) {c n : Nat} (hz : b + 81 ≤ vg_z h) : cxI b S (vg_new h c n) := by
  unfold cxI at *; rw [nwi_row (by omega)]; exact p
theorem cxI.skip (p : cxI b S h) {n : Nat} : cxI b S (vg_skip h n) := p
theorem cxI.up (p : cxI b S h) {f i : Nat} {v : Int32} (e : ¬ f = 13 ∧ ¬ f = 38 ∧ ¬ f = 2 ∧ ¬ f = 1) : cxI b (up S f i v) h := by
  unfold cxI at *; rw [upf e.1, upf e.2.1, upf e.2.2.1, upf e.2.2.2]; exact p
theorem cxK.wi (p : cxK b h) {a k : Nat} {v : Int32} : cxK b (vg_wi h a k v) := p
theorem cxK.wr (p : cxK b h) {a k : Nat} {v : Option Nat} (e : ¬ a = b ∧ (¬ a = b + 3 ∨ 5 ≤ k) ∧ ¬ a = b + 13) : cxK b (vg_wr h a k v) := by
  have r0 : (vg_wr h a k v).2.2.2.2.1 b = h.2.2.2.2.1 b := wr_row (fun z => e.1 z.symm)
  have r1 : (vg_wr h a k v).2.2.2.2.1 (b + 13) = h.2.2.2.2.1 (b + 13) := wr_row (fun z => e.2.2 z.symm)
  have r3 : ∀ j, j < 5 → (vg_wr h a k v).2.2.2.2.1 (b + 3) j = h.2.2.2.2.1 (b + 3) j := fun j hj => by rw [wr_r, if_neg (fun z => by omega)]
  unfold cxK at *
  simp only [wr_k, wr_n, wr_z, r0, r1, r3, Nat.reduceLT, p, and_self]
theorem cxK.zz (p : cxK b h) : b + 81 ≤ vg_z h := by unfold cxK at p; omega
theorem cxK.new (p : cxK b h) {c n : Nat} : cxK b (vg_new h c n) := by
  have hz := p.zz
  have h1 : ∀ j, j < 81 → (vg_new h c n).1 (b + j) = h.1 (b + j) ∧ (vg_new h c n).2.1 (b + j) = h.2.1 (b + j) ∧ (vg_new h c n).2.2.2.2.1 (b + j) = h.2.2.2.2.1 (b + j) := fun j hj => ⟨by rw [nw_k, if_neg (by omega)], by rw [nw_n, if_neg (by omega)], nwr_row (by omega)⟩
  have h0 := h1 0 (by omega)
  simp only [Nat.add_zero] at h0
  unfold cxK at *
  simp only [h0, h1, Nat.reduceLT, nw_z, p, true_and]
  have hz' : b + 81 ≤ h.2.2.2.2.2 := hz
  omega
theorem cxK.skip (p : cxK b h) {n : Nat} (hn : vg_z h ≤ n) : cxK b (vg_skip h n) := by
  have hz := p.zz
  unfold cxK at *
  simp only [sk_k, sk_n, sk_r, sk_z, p, true_and]
  have hn' : h.2.2.2.2.2 ≤ n := hn
  have hz' : b + 81 ≤ h.2.2.2.2.2 := hz
  omega
theorem GC.keep {h' : vg_H} (p : GC G b h) (e : ∀ a, a < b → h'.1 a = h.1 a ∧ h'.2.1 a = h.2.1 a ∧ h'.2.2.1 a = h.2.2.1 a) : GC G b h' := by
  obtain ⟨c1, c2, c3, c4, c5⟩ := p
  obtain ⟨e1, e2, e3⟩ := e _ c3
  unfold GC; rw [e1, e2, e3]; exact ⟨c1, c2, c3, c4, c5⟩
theorem GC.wi (p : GC G b h) {a k : Nat} {v : Int32} (e : b ≤ a) : GC G b (vg_wi h a k v) := p.keep (fun c hc => ⟨rfl, rfl, wi_row (by omega)⟩)
theorem GC.wr (p : GC G b h) {a k : Nat} {v : Option Nat} : GC G b (vg_wr h a k v) := p
theorem GC.new (p : GC G b h) {c n : Nat} (hz : b + 81 ≤ vg_z h) : GC G b (vg_new h c n) := p.keep (fun c hc => ⟨by rw [nw_k, if_neg (by omega)], by rw [nw_n, if_neg (by omega)], nwi_row (by omega)⟩)
theorem GC.skip (p : GC G b h) {n : Nat} : GC G b (vg_skip h n) := p
/-- everything at once -/
theorem CX.skip (p : CX G b A S h) {n : Nat} (hn : vg_z h ≤ n) : CX G b A S (vg_skip h n) := by
  obtain ⟨p1, p2, p3, p4, p5, p6, p7, p8, p9, p10⟩ := p
  exact ⟨p1.skip hn, p2.skip, p3.skip hn, p4.skip hn, p5.skip hn, p6.skip hn, p7.skip hn, p8.skip hn, p9.skip hn, p10.skip⟩
theorem CX.new (p : CX G b A S h) {c n : Nat} : CX G b A S (vg_new h c n) := by
  obtain ⟨p1, p2, p3, p4, p5, p6, p7, p8, p9, p10⟩ := p
  have hz := p1.zz
  exact ⟨p1.new, p2.new hz, p3.new hz, p4.new hz, p5.new hz, p6.new hz, p7.new hz, p8.new hz, p9.new hz, p10.new hz⟩
/-- a write of an int to a cell that the state doesn't speak of -/
theorem CX.wi (p : CX G b A S h) {a k : Nat} {v : Int32} (e0 : b < a) (e : ¬ h.1 a = 9 ∧ ¬ h.1 a = 106 ∧ ¬ h.1 a = 6 ∧ ¬ h.1 a = 8 ∧ ¬ h.1 a = 2 ∧ ¬ h.1 a = 7 ∧ ¬ h.1 a = 4 ∧ ¬ h.1 a = 5 ∧ (¬ h.1 a = 100 ∨ a < b + 25)) : CX G b A S (vg_wi h a k v) := by
  obtain ⟨p1, p2, p3, p4, p5, p6, p7, p8, p9, p10⟩ := p
  exact ⟨p1.wi, p2.wi (by omega), p3.wi (by omega), p4.wi (by omega), p5.wi (by omega), p6.wi (by omega), p7.wi (by omega), p8.wi (by omega), p9.wi (by omega), p10.wi (by omega)⟩
theorem CX.wl (p : CX G b A S h) {a k : Nat} {v : Int64} : CX G b A S (vg_wl h a k v) := p
/-- new cells alone were written, and S' is S where it matters -/
theorem CX.fresh {h' : vg_H} (p : CX G b A S h) (e : ∀ a, a < vg_z h → h'.1 a = h.1 a ∧ h'.2.1 a = h.2.1 a ∧ h'.2.2.1 a = h.2.2.1 a ∧ h'.2.2.2.2.1 a = h.2.2.2.2.1 a) (hz' : vg_z h ≤ vg_z h') : CX G b A S h' := by
  obtain ⟨p1, p2, p3, p4, p5, p6, p7, p8, p9, p10⟩ := p
  have hz := p1.zz
  refine ⟨?_, ?_, p3.keep ⟨rfl, rfl⟩ (e _ (by omega)).2.2.2 hz' (fun a h1 h2 h3 => ?_), p4.keep rfl ⟨rfl, rfl, rfl, rfl, rfl, rfl⟩ (e _ (by omega)).2.2.2 hz' (fun a h1 h2 h3 => ?_), p5.keep rfl ⟨rfl, rfl, rfl, rfl, rfl, rfl, rfl, rfl, rfl⟩ (e _ (by omega)).2.2.2 hz' (fun a h1 h2 h3 => ?_), p6.keep rfl rfl ⟨rfl, rfl, rfl, rfl, rfl⟩ (e _ (by omega)).2.2.2 hz' (fun a h1 h2 h3 => ?_), p7.keep rfl ⟨rfl, rfl, rfl, rfl⟩ (e _ (by omega)).2.2.2 hz' (fun a h1 h2 h3 => ?_), p8.keep rfl ⟨rfl, rfl, rfl, rfl, rfl, rfl⟩ (e _ (by omega)).2.2.2 hz' (fun a h1 h2 h3 => ?_), p9.keep rfl ⟨rfl, rfl, rfl, rfl⟩ (e _ (by omega)).2.2.2 hz' (fun a h1 h2 h3 => ?_), p10.keep (fun a ha => ⟨(e a (by omega)).1, (e a (by omega)).2.1, (e a (by omega)).2.2.1⟩)⟩
  · have h1 : ∀ j, j < 81 → h'.1 (b + j) = h.1 (b + j) ∧ h'.2.1 (b + j) = h.2.1 (b + j) ∧ h'.2.2.2.2.1 (b + j) = h.2.2.2.2.1 (b + j) := fun j hj => ⟨(e _ (by omega)).1, (e _ (by omega)).2.1, (e _ (by omega)).2.2.2⟩
    have h0 := h1 0 (by omega)
    simp only [Nat.add_zero] at h0
    unfold cxK at *
    simp only [h0, h1, Nat.reduceLT, p1, true_and]
    omega
  · unfold cxI at *; rw [(e b (by omega)).2.2.1]; exact p2
  · have := e a (by omega); exact ⟨this.1, this.2.1, this.2.2.1, fun _ => this.2.2.2⟩
  · have := e a (by omega); exact ⟨this.1, this.2.1, this.2.2.1⟩
  · have := e a (by omega); exact ⟨this.1, this.2.1, this.2.2.1, this.2.2.2⟩
  · have := e a (by omega); exact ⟨this.1, this.2.1, this.2.2.1, fun _ => this.2.2.2⟩
  · have := e a (by omega); exact ⟨this.1, this.2.1, this.2.2.1⟩
  · have := e a (by omega); exact ⟨this.1, this.2.1, this.2.2.1, fun _ => this.2.2.2⟩
  · have := e a (by omega); exact ⟨this.1, this.2.1, this.2.2.1⟩
/-- a cell at the end was written -/
theorem fs_wi {h1 : vg_H} {z k : Nat} {v : Int32} (p : ∀ a, a < z → h1.1 a = h.1 a ∧ h1.2.1 a = h.2.1 a ∧ h1.2.2.1 a = h.2.2.1 a ∧ h1.2.2.2.2.1 a = h.2.2.2.2.1 a) {c : Nat} (hc : z ≤ c) : ∀ a, a < z → (vg_wi h1 c k v).1 a = h.1 a ∧ (vg_wi h1 c k v).2.1 a = h.2.1 a ∧ (vg_wi h1 c k v).2.2.1 a = h.2.2.1 a ∧ (vg_wi h1 c k v).2.2.2.2.1 a = h.2.2.2.2.1 a := fun a ha => by
  rw [wi_row (by omega)]; exact p a ha
theorem fs_wr {h1 : vg_H} {z k : Nat} {v : Option Nat} (p : ∀ a, a < z → h1.1 a = h.1 a ∧ h1.2.1 a = h.2.1 a ∧ h1.2.2.1 a = h.2.2.1 a ∧ h1.2.2.2.2.1 a = h.2.2.2.2.1 a) {c : Nat} (hc : z ≤ c) : ∀ a, a < z → (vg_wr h1 c k v).1 a = h.1 a ∧ (vg_wr h1 c k v).2.1 a = h.2.1 a ∧ (vg_wr h1 c k v).2.2.1 a = h.2.2.1 a ∧ (vg_wr h1 c k v).2.2.2.2.1 a = h.2.2.2.2.1 a := fun a ha => by
  rw [wr_row (by omega)]; exact p a ha
theorem fs_new {h1 : vg_H} {z c n : Nat} (p : ∀ a, a < z → h1.1 a = h.1 a ∧ h1.2.1 a = h.2.1 a ∧ h1.2.2.1 a = h.2.2.1 a ∧ h1.2.2.2.2.1 a = h.2.2.2.2.1 a) (hc : z ≤ vg_z h1) : ∀ a, a < z → (vg_new h1 c n).1 a = h.1 a ∧ (vg_new h1 c n).2.1 a = h.2.1 a ∧ (vg_new h1 c n).2.2.1 a = h.2.2.1 a ∧ (vg_new h1 c n).2.2.2.2.1 a = h.2.2.2.2.1 a := fun a ha => by
  rw [nwi_row (by omega), nwr_row (by omega), nw_k, nw_n, if_neg (by omega), if_neg (by omega)]; exact p a ha
theorem fs_0 {z : Nat} : ∀ a, a < z → h.1 a = h.1 a ∧ h.2.1 a = h.2.1 a ∧ h.2.2.1 a = h.2.2.1 a ∧ h.2.2.2.2.1 a = h.2.2.2.2.1 a := fun a ha => ⟨rfl, rfl, rfl, rfl⟩
end KP
