/-! ===== the class's cells ===== -/
abbrev AA : Type := Nat → Nat → Nat
/-- what never changes of the office's fixed cells -/
def cxK (b : Nat) (h : vg_H) : Prop :=
  h.1 b = 10 ∧ h.2.2.2.2.1 b 0 = some (b + 1) ∧ h.2.2.2.2.1 b 1 = some (b + 2) ∧ h.2.2.2.2.1 b 2 = some (b + 3) ∧ h.2.2.2.2.1 b 3 = some (b + 9) ∧ h.2.2.2.2.1 b 4 = some (b + 10) ∧ h.2.2.2.2.1 b 5 = some (b + 11) ∧ h.2.2.2.2.1 b 6 = some (b + 12) ∧ h.2.2.2.2.1 b 7 = some (b + 13) ∧ h.2.2.2.2.1 b 8 = some (b + 16) ∧
  h.1 (b + 1) = 109 ∧ h.1 (b + 2) = 106 ∧ h.1 (b + 3) = 3 ∧ h.1 (b + 4) = 101 ∧ h.1 (b + 5) = 101 ∧ h.1 (b + 6) = 100 ∧ h.1 (b + 7) = 100 ∧ h.1 (b + 8) = 100 ∧ h.1 (b + 9) = 108 ∧ h.1 (b + 10) = 103 ∧ h.1 (b + 11) = 107 ∧ h.1 (b + 12) = 104 ∧ h.1 (b + 13) = 1 ∧ h.1 (b + 14) = 100 ∧ h.1 (b + 15) = 100 ∧ h.1 (b + 16) = 105 ∧
  h.2.1 (b + 1) = 4 ∧ h.2.1 (b + 2) = 24 ∧ h.2.1 (b + 4) = 4320 ∧ h.2.1 (b + 5) = 24 ∧ h.2.1 (b + 6) = 24 ∧ h.2.1 (b + 7) = 509 ∧ h.2.1 (b + 8) = 509 ∧ h.2.1 (b + 9) = 301 ∧ h.2.1 (b + 10) = 20 ∧ h.2.1 (b + 11) = 30 ∧ h.2.1 (b + 12) = 3 ∧ h.2.1 (b + 14) = 6 ∧ h.2.1 (b + 15) = 6 ∧ h.2.1 (b + 16) = 170 ∧
  h.2.2.2.2.1 (b + 3) 0 = some (b + 4) ∧ h.2.2.2.2.1 (b + 3) 1 = some (b + 5) ∧ h.2.2.2.2.1 (b + 3) 2 = some (b + 6) ∧ h.2.2.2.2.1 (b + 3) 3 = some (b + 7) ∧ h.2.2.2.2.1 (b + 3) 4 = some (b + 8) ∧ h.2.2.2.2.1 (b + 13) 0 = some (b + 14) ∧ h.2.2.2.2.1 (b + 13) 1 = some (b + 15) ∧ b + 81 ≤ vg_z h
def cxI (b : Nat) (S : SS) (h : vg_H) : Prop := h.2.2.1 b 9 = S 13 0 ∧ h.2.2.1 b 10 = S 38 0 ∧ h.2.2.1 b 11 = S 2 0 ∧ h.2.2.1 b 12 = S 1 0
def cxZ (b : Nat) (S : SS) (h : vg_H) : Prop := ∀ z, z < 4 → h.2.2.2.2.1 (b + 1) z = some (b + 17 + 2 * z) ∧ h.1 (b + 17 + 2 * z) = 9 ∧ h.2.2.1 (b + 17 + 2 * z) 0 = nI z ∧ h.2.2.2.2.1 (b + 17 + 2 * z) 1 = some (b + 18 + 2 * z) ∧ h.1 (b + 18 + 2 * z) = 106 ∧ h.2.1 (b + 18 + 2 * z) = 24 ∧ h.2.2.1 (b + 17 + 2 * z) 3 = S 3 z ∧ h.2.2.1 (b + 17 + 2 * z) 4 = S 4 z
def cxP (b : Nat) (A : AA) (S : SS) (h : vg_H) : Prop := ∀ p, p < 24 → (S 5 p = 0 → h.2.2.2.2.1 (b + 2) p = none) ∧ (¬ S 5 p = 0 → h.2.2.2.2.1 (b + 2) p = some (A 6 p) ∧ h.1 (A 6 p) = 6 ∧ b + 81 ≤ A 6 p ∧ A 6 p < vg_z h ∧ h.2.2.1 (A 6 p) 0 = nI p ∧ h.2.2.1 (A 6 p) 1 = S 6 p ∧ h.2.2.1 (A 6 p) 2 = S 7 p ∧ h.2.2.1 (A 6 p) 3 = S 8 p ∧ h.2.2.1 (A 6 p) 4 = S 9 p ∧ h.2.2.1 (A 6 p) 5 = S 10 p)
def nT (S : SS) : Nat := (S 13 0).toNatClampNeg
def nP (S : SS) : Nat := (S 38 0).toNatClampNeg
def cxT (G : vg_G) (b : Nat) (A : AA) (S : SS) (h : vg_H) : Prop := ∀ t, 1 ≤ t → t ≤ nT S → h.2.2.2.2.1 (b + 9) t = some (A 8 t) ∧ h.1 (A 8 t) = 8 ∧ b + 81 ≤ A 8 t ∧ A 8 t < vg_z h ∧ h.2.2.1 (A 8 t) 0 = nI t ∧ h.2.2.1 (A 8 t) 1 = S 17 t ∧ h.2.2.1 (A 8 t) 2 = S 15 t ∧ h.2.2.1 (A 8 t) 3 = S 16 t ∧ h.2.2.1 (A 8 t) 4 = S 18 t ∧ (h.2.2.2.2.1 (A 8 t) 5 = some (G.2.2.2.2 1) ↔ S 14 t = 0) ∧ h.2.2.1 (A 8 t) 6 = bI (0 ≤ S 22 t) ∧ h.2.2.1 (A 8 t) 7 = S 20 t ∧ h.2.2.1 (A 8 t) 8 = S 21 t
/-- the plates of contract c in the class are those of the state -/
def plS (S : SS) (c : Nat) (f : Nat → Int32) : Prop := (∀ i, i < (S 26 c).toNatClampNeg → ∃ j, j < (S 26 c).toNatClampNeg ∧ f i = S 27 (12 * c + j)) ∧ (∀ j, j < (S 26 c).toNatClampNeg → ∃ i, i < (S 26 c).toNatClampNeg ∧ f i = S 27 (12 * c + j)) ∧ (∀ i j, i < (S 26 c).toNatClampNeg → j < (S 26 c).toNatClampNeg → f i = f j → i = j)
def cxC (b : Nat) (A : AA) (S : SS) (h : vg_H) : Prop := ∀ c, c < 20 → (S 23 c = 0 → h.2.2.2.2.1 (b + 10) c = none) ∧ (¬ S 23 c = 0 → h.2.2.2.2.1 (b + 10) c = some (A 2 c) ∧ h.1 (A 2 c) = 2 ∧ b + 81 ≤ A 2 c ∧ A 2 c < vg_z h ∧ h.2.2.2.2.1 (A 2 c) 2 = some (A 100 c) ∧ h.1 (A 100 c) = 100 ∧ h.2.1 (A 100 c) = 12 ∧ b + 81 ≤ A 100 c ∧ A 100 c < vg_z h ∧ h.2.2.1 (A 2 c) 0 = S 24 c ∧ h.2.2.1 (A 2 c) 1 = S 25 c ∧ h.2.2.1 (A 2 c) 3 = S 26 c ∧ plS S c (h.2.2.1 (A 100 c)) ∧ ∀ d, d < 20 → ¬ S 23 d = 0 → A 2 c = A 2 d ∨ A 100 c = A 100 d → c = d)
def cxR (b : Nat) (A : AA) (S : SS) (h : vg_H) : Prop := ∀ r, r < 30 → (S 28 r = 0 → h.2.2.2.2.1 (b + 11) r = none) ∧ (¬ S 28 r = 0 → h.2.2.2.2.1 (b + 11) r = some (A 7 r) ∧ h.1 (A 7 r) = 7 ∧ b + 81 ≤ A 7 r ∧ A 7 r < vg_z h ∧ h.2.2.1 (A 7 r) 0 = S 29 r ∧ h.2.2.1 (A 7 r) 1 = S 30 r ∧ h.2.2.1 (A 7 r) 2 = S 31 r)
/-- the coins put in at machine m: how many, what they are worth -/
def coinsS (S : SS) (m : Nat) : Int32 := sumI (fun k => S 36 (6 * m + k)) 0 6
def sumS (S : SS) (m : Nat) : Int32 := sumI (fun k => coM k * S 36 (6 * m + k)) 0 6
def cxM (b : Nat) (A : AA) (S : SS) (h : vg_H) : Prop := ∀ m, m < 3 → h.2.2.2.2.1 (b + 12) m = some (b + 25 + 4 * m) ∧ h.1 (b + 25 + 4 * m) = 4 ∧ h.2.2.2.2.1 (b + 25 + 4 * m) 0 = some (b + 26 + 4 * m) ∧ h.2.2.2.2.1 (b + 25 + 4 * m) 1 = some (b + 27 + 4 * m) ∧ h.2.2.2.2.1 (b + 25 + 4 * m) 2 = some (b + 28 + 4 * m) ∧ h.1 (b + 26 + 4 * m) = 100 ∧ h.1 (b + 27 + 4 * m) = 100 ∧ h.1 (b + 28 + 4 * m) = 100 ∧ h.2.1 (b + 26 + 4 * m) = 6 ∧ h.2.1 (b + 27 + 4 * m) = 6 ∧ h.2.1 (b + 28 + 4 * m) = 6 ∧
  h.2.2.2.2.1 (b + 25 + 4 * m) 3 = (if S 32 m = 0 then none else some (A 8 (S 32 m).toNatClampNeg)) ∧ h.2.2.1 (b + 25 + 4 * m) 4 = S 33 m ∧ h.2.2.1 (b + 25 + 4 * m) 5 = S 34 m ∧ h.2.2.1 (b + 25 + 4 * m) 6 = coinsS S m ∧ h.2.2.1 (b + 25 + 4 * m) 7 = sumS S m ∧
  ∀ k, k < 6 → h.2.2.1 (b + 26 + 4 * m) k = S 35 (6 * m + (5 - k)) ∧ h.2.2.1 (b + 27 + 4 * m) k = S 36 (6 * m + (5 - k)) ∧ h.2.2.1 (b + 28 + 4 * m) k = S 37 (6 * m + (5 - k))
def cxY (b : Nat) (A : AA) (S : SS) (h : vg_H) : Prop := ∀ i, i < nP S → h.2.2.2.2.1 (b + 16) i = some (A 5 i) ∧ h.1 (A 5 i) = 5 ∧ b + 81 ≤ A 5 i ∧ A 5 i < vg_z h ∧ h.2.2.1 (A 5 i) 0 = S 39 i ∧ h.2.2.1 (A 5 i) 1 = S 40 i ∧ h.2.2.1 (A 5 i) 2 = S 41 i
/-- the constants -/
def GC (G : vg_G) (b : Nat) (h : vg_H) : Prop := ¬ G.2.2.2.2 1 = G.2.2.2.2 2 ∧ ¬ G.2.2.2.2 1 = G.2.2.2.2 3 ∧ G.2.2.2.2 0 < b ∧ G.2.2.2.2 4 < b ∧ h.1 (G.2.2.2.2 0) = 200 ∧ h.2.1 (G.2.2.2.2 0) = 6 ∧ (∀ k, k < 6 → h.2.2.1 (G.2.2.2.2 0) k = coM (5 - k))
def CX (G : vg_G) (b : Nat) (A : AA) (S : SS) (h : vg_H) : Prop :=
  cxK b h ∧ cxI b S h ∧ cxZ b S h ∧ cxP b A S h ∧ cxT G b A S h ∧ cxC b A S h ∧ cxR b A S h ∧ cxM b A S h ∧ cxY b A S h ∧ GC G b h
/-- the class's cells alone changed -/
def fr (b : Nat) (h h' : vg_H) : Prop := vg_z h ≤ vg_z h' ∧ ∀ a, a < b ∨ (b + 37 ≤ a ∧ a ≤ b + 80) → h'.1 a = h.1 a ∧ h'.2.1 a = h.2.1 a ∧ h'.2.2.1 a = h.2.2.1 a ∧ h'.2.2.2.1 a = h.2.2.2.1 a ∧ h'.2.2.2.2.1 a = h.2.2.2.2.1 a
theorem fr.refl (b : Nat) (h : vg_H) : fr b h h := ⟨Nat.le_refl _, fun _ _ => ⟨rfl, rfl, rfl, rfl, rfl⟩⟩
theorem fr.trans {b : Nat} {h h' h'' : vg_H} (p : fr b h h') (q : fr b h' h'') : fr b h h'' := ⟨Nat.le_trans p.1 q.1, fun a ha => by
  obtain ⟨p1, p2, p3, p4, p5⟩ := p.2 a ha
  obtain ⟨q1, q2, q3, q4, q5⟩ := q.2 a ha
  exact ⟨q1.trans p1, q2.trans p2, q3.trans p3, q4.trans p4, q5.trans p5⟩⟩
theorem fr.wi {b : Nat} {h h' : vg_H} (p : fr b h h') {a : Nat} (ha : b ≤ a ∧ (a < b + 37 ∨ b + 80 < a)) (k : Nat) (v : Int32) : fr b h (vg_wi h' a k v) :=
  p.trans ⟨Nat.le_refl _, fun c hc => ⟨rfl, rfl, by funext j; rw [wi_i, if_neg (fun z => by omega)], rfl, rfl⟩⟩
theorem fr.wl {b : Nat} {h h' : vg_H} (p : fr b h h') {a : Nat} (ha : b ≤ a ∧ (a < b + 37 ∨ b + 80 < a)) (k : Nat) (v : Int64) : fr b h (vg_wl h' a k v) :=
  p.trans ⟨Nat.le_refl _, fun c hc => ⟨rfl, rfl, rfl, by funext j; rw [wl_l, if_neg (fun z => by omega)], rfl⟩⟩
theorem fr.wr {b : Nat} {h h' : vg_H} (p : fr b h h') {a : Nat} (ha : b ≤ a ∧ (a < b + 37 ∨ b + 80 < a)) (k : Nat) (v : Option Nat) : fr b h (vg_wr h' a k v) :=
  p.trans ⟨Nat.le_refl _, fun c hc => ⟨rfl, rfl, rfl, rfl, by funext j; rw [wr_r, if_neg (fun z => by omega)]⟩⟩
theorem fr.new {b : Nat} {h h' : vg_H} (p : fr b h h') (hz : b + 81 ≤ vg_z h') (c n : Nat) : fr b h (vg_new h' c n) :=
  p.trans ⟨Nat.le_succ _, fun a ha => by
    have : ¬ a = vg_z h' := fun e => by omega
    exact ⟨by rw [nw_k, if_neg this], by rw [nw_n, if_neg this], by funext j; rw [nw_i, if_neg this], by funext j; rw [nw_l, if_neg this], by funext j; rw [nw_r, if_neg this]⟩⟩
theorem fr.skip {b : Nat} {h h' : vg_H} (p : fr b h h') {n : Nat} (hn : vg_z h' ≤ n) : fr b h (vg_skip h' n) :=
  p.trans ⟨hn, fun a ha => ⟨rfl, rfl, rfl, rfl, rfl⟩⟩
/-- the model's cells don't see the class -/
theorem MX.fr {b : Nat} {S : SS} {h h' : vg_H} (p : MX b S h) (q : fr b h h') : MX b S h' := by
  obtain ⟨m1, m2, m3, m4⟩ := p
  have h0 := q.2 (b + 37) (by omega)
  refine ⟨by rw [h0.1]; exact m1, fun f hf => ?_, fun f i hi hf => ?_, fun f hf => by rw [h0.2.2.1]; exact m4 f hf⟩
  · have hr := ar_rng (b := b) hf
    have h1 := q.2 (ar b f) (by omega)
    rw [h0.2.2.2.2, h1.1, h1.2.1]; exact m2 f hf
  · have hr := ar_rng (b := b) (sem_ln hf)
    have h1 := q.2 (ar b f) (by omega)
    rw [h1.2.2.1]; exact m3 f i hi hf
/-- the class's cells don't see the model -/
theorem CX.fm {G : vg_G} {b : Nat} {A : AA} {S : SS} {h h' : vg_H} (p : CX G b A S h) (q : fm b h h') : CX G b A S h' := by
  obtain ⟨q1, q2, q3, q4, q5, q6⟩ := q
  obtain ⟨p1, p2, p3, p4, p5, p6, p7, p8, p9, p10⟩ := p
  refine ⟨?_, ?_, ?_, ?_, ?_, ?_, ?_, ?_, ?_, ?_⟩
  · unfold cxK at *; rw [q2, q3, q4, q1]; exact p1
  · unfold cxI at *; rw [q6 b (by omega)]; exact p2
  · intro z hz; have := p3 z hz; rw [q2, q3, q4, q6 (b + 17 + 2 * z) (by omega)]; exact this
  · intro i hi
    refine ⟨fun e => by rw [q4]; exact (p4 i hi).1 e, fun e => ?_⟩
    obtain ⟨a1, a2, a3, a4, a5⟩ := (p4 i hi).2 e
    rw [q2, q4, q6 (A 6 i) (by omega), q1]; exact ⟨a1, a2, a3, a4, a5⟩
  · intro t h1 h2
    obtain ⟨a1, a2, a3, a4, a5⟩ := p5 t h1 h2
    rw [q2, q4, q6 (A 8 t) (by omega), q1]; exact ⟨a1, a2, a3, a4, a5⟩
  · intro i hi
    refine ⟨fun e => by rw [q4]; exact (p6 i hi).1 e, fun e => ?_⟩
    obtain ⟨a1, a2, a3, a4, a5, a6, a7, a8, a9, a10⟩ := (p6 i hi).2 e
    rw [q2, q3, q4, q6 (A 2 i) (by omega), q6 (A 100 i) (by omega), q1]; exact ⟨a1, a2, a3, a4, a5, a6, a7, a8, a9, a10⟩
  · intro i hi
    refine ⟨fun e => by rw [q4]; exact (p7 i hi).1 e, fun e => ?_⟩
    obtain ⟨a1, a2, a3, a4, a5⟩ := (p7 i hi).2 e
    rw [q2, q4, q6 (A 7 i) (by omega), q1]; exact ⟨a1, a2, a3, a4, a5⟩
  · intro m hm; have := p8 m hm; rw [q2, q3, q4, q6 (b + 25 + 4 * m) (by omega), q6 (b + 26 + 4 * m) (by omega), q6 (b + 27 + 4 * m) (by omega), q6 (b + 28 + 4 * m) (by omega)]; exact this
  · intro i hi
    obtain ⟨a1, a2, a3, a4, a5⟩ := p9 i hi
    rw [q2, q4, q6 (A 5 i) (by omega), q1]; exact ⟨a1, a2, a3, a4, a5⟩
  · obtain ⟨c1, c2, c3, c4, c5⟩ := p10
    unfold GC; rw [q2, q3, q6 (G.2.2.2.2 0) (by omega)]; exact ⟨c1, c2, c3, c4, c5⟩
