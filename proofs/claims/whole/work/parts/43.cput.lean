/-! ===== single writes that keep the class's state ===== -/
theorem sumI_upd {f g : Nat → Int32} {k : Nat} {d : Int32} (hn : ∀ j, ¬ j = k → g j = f j) (hk : g k = f k + d) : ∀ (m i : Nat), i ≤ k → k < i + m → sumI g i m = sumI f i m + d
  | 0, i, h1, h2 => by omega
  | m + 1, i, h1, h2 => by
    rw [sumI_s, sumI_s]
    by_cases e : i = k
    · subst e
      rw [hk, sumI_congr m (i + 1) (f := g) (g := f) (fun j h3 h4 => hn j (by omega)), Int32.add_assoc, Int32.add_assoc, Int32.add_comm d]
    · rw [hn i e, sumI_upd hn hk m (i + 1) (by omega) (by omega), Int32.add_assoc]
section CW
variable {G : vg_G} {b : Nat} {A : AA} {S : SS} {h : vg_H} {Q : vg_O → vg_H → Prop}
theorem cxT.inj (p : cxT G b A S h) {i j : Nat} (hi : 1 ≤ i ∧ i ≤ nT S) (hj : 1 ≤ j ∧ j ≤ nT S) (hn : nT S ≤ 300) (e : A 8 i = A 8 j) : i = j := by
  have h1 := (p i hi.1 hi.2).2.2.2.2.1
  have h2 := (p j hj.1 hj.2).2.2.2.2.1
  rw [e, h2] at h1
  exact ((nI_eq (by omega) (by omega)).mp h1).symm
/-- the stock -/
theorem CX.stk (p : CX G b A S h) {q k : Nat} (hq : q < 3) (hk : k < 6) (v : Int32) : CX G b A (up S 35 (6 * q + k) v) (vg_wi h (b + 26 + 4 * q) (5 - k) v) := by
  have old := p.2.2.2.2.2.2.2.1
  have hk1 := old q hq
  refine p.atM rfl rfl rfl p.1.wi (fun a e1 e2 => ⟨wi_row (fun z => e2 (by rw [z]; exact ⟨hk1.2.2.2.2.2.1, by omega, by omega⟩)), rfl⟩) rfl (fun f hf => upf (by omega)) ?_
  clear p
  intro m hm
  have := old m hm
  have e1 : ¬ b + 25 + 4 * m = b + 26 + 4 * q := by omega
  have e2 : ¬ b + 27 + 4 * m = b + 26 + 4 * q := by omega
  have e3 : ¬ b + 28 + 4 * m = b + 26 + 4 * q := by omega
  unfold coinsS sumS at *
  have f : ∀ g, ¬ 35 = g → up S 35 (6 * q + k) v g = S g := fun g hg => upf hg
  rw [f 32 (by decide), f 33 (by decide), f 34 (by decide), f 36 (by decide), f 37 (by decide)]
  rw [wi_k, wi_n, wi_r, wi_row e1, wi_row e2, wi_row e3]
  refine ⟨this.1, this.2.1, this.2.2.1, this.2.2.2.1, this.2.2.2.2.1, this.2.2.2.2.2.1, this.2.2.2.2.2.2.1, this.2.2.2.2.2.2.2.1, this.2.2.2.2.2.2.2.2.1, this.2.2.2.2.2.2.2.2.2.1, this.2.2.2.2.2.2.2.2.2.2.1, this.2.2.2.2.2.2.2.2.2.2.2.1, this.2.2.2.2.2.2.2.2.2.2.2.2.1, this.2.2.2.2.2.2.2.2.2.2.2.2.2.1, this.2.2.2.2.2.2.2.2.2.2.2.2.2.2.1, this.2.2.2.2.2.2.2.2.2.2.2.2.2.2.2.1, fun j hj => ?_⟩
  have h9 := this.2.2.2.2.2.2.2.2.2.2.2.2.2.2.2.2 j hj
  refine ⟨?_, h9.2⟩
  rw [wi_i, up_e]
  by_cases e : m = q ∧ j = 5 - k
  · rw [if_pos ⟨by omega, e.2⟩, if_pos ⟨rfl, by omega⟩]
  · rw [if_neg (fun z => e ⟨by omega, z.2⟩), if_neg (fun z => e ⟨by omega, by omega⟩)]
    exact h9.1
/-- what came out -/
theorem CX.outp (p : CX G b A S h) {q k : Nat} (hq : q < 3) (hk : k < 6) (v : Int32) : CX G b A (up S 37 (6 * q + k) v) (vg_wi h (b + 28 + 4 * q) (5 - k) v) := by
  have old := p.2.2.2.2.2.2.2.1
  have hk1 := old q hq
  refine p.atM rfl rfl rfl p.1.wi (fun a e1 e2 => ⟨wi_row (fun z => e2 (by rw [z]; exact ⟨hk1.2.2.2.2.2.2.2.1, by omega, by omega⟩)), rfl⟩) rfl (fun f hf => upf (by omega)) ?_
  clear p
  intro m hm
  have := old m hm
  have e1 : ¬ b + 25 + 4 * m = b + 28 + 4 * q := by omega
  have e2 : ¬ b + 27 + 4 * m = b + 28 + 4 * q := by omega
  have e3 : ¬ b + 26 + 4 * m = b + 28 + 4 * q := by omega
  unfold coinsS sumS at *
  have f : ∀ g, ¬ 37 = g → up S 37 (6 * q + k) v g = S g := fun g hg => upf hg
  rw [f 32 (by decide), f 33 (by decide), f 34 (by decide), f 35 (by decide), f 36 (by decide)]
  rw [wi_k, wi_n, wi_r, wi_row e1, wi_row e2, wi_row e3]
  refine ⟨this.1, this.2.1, this.2.2.1, this.2.2.2.1, this.2.2.2.2.1, this.2.2.2.2.2.1, this.2.2.2.2.2.2.1, this.2.2.2.2.2.2.2.1, this.2.2.2.2.2.2.2.2.1, this.2.2.2.2.2.2.2.2.2.1, this.2.2.2.2.2.2.2.2.2.2.1, this.2.2.2.2.2.2.2.2.2.2.2.1, this.2.2.2.2.2.2.2.2.2.2.2.2.1, this.2.2.2.2.2.2.2.2.2.2.2.2.2.1, this.2.2.2.2.2.2.2.2.2.2.2.2.2.2.1, this.2.2.2.2.2.2.2.2.2.2.2.2.2.2.2.1, fun j hj => ?_⟩
  have h9 := this.2.2.2.2.2.2.2.2.2.2.2.2.2.2.2.2 j hj
  refine ⟨h9.1, h9.2.1, ?_⟩
  rw [wi_i, up_e]
  by_cases e : m = q ∧ j = 5 - k
  · rw [if_pos ⟨by omega, e.2⟩, if_pos ⟨rfl, by omega⟩]
  · rw [if_neg (fun z => e ⟨by omega, z.2⟩), if_neg (fun z => e ⟨by omega, by omega⟩)]
    exact h9.2.2
/-- a coin put in -/
theorem CX.coin (p : CX G b A S h) {q k : Nat} (hq : q < 3) (hk : k < 6) : CX G b A (sCoin S q k) (vg_wi (vg_wi (vg_wi (vg_wi h (b + 26 + 4 * q) (5 - k) (S 35 (6 * q + k) + 1)) (b + 27 + 4 * q) (5 - k) (S 36 (6 * q + k) + 1)) (b + 25 + 4 * q) 6 (coinsS S q + 1)) (b + 25 + 4 * q) 7 (sumS S q + coM k)) := by
  have p1 := p.stk hq hk (S 35 (6 * q + k) + 1)
  unfold sCoin
  have old := p1.2.2.2.2.2.2.2.1
  have hk1 := old q hq
  have c36 : up S 35 (6 * q + k) (S 35 (6 * q + k) + 1) 36 = S 36 := upf (by decide)
  generalize vg_wi h (b + 26 + 4 * q) (5 - k) (S 35 (6 * q + k) + 1) = h1 at *
  have ec : coinsS S q = coinsS (up S 35 (6 * q + k) (S 35 (6 * q + k) + 1)) q := by unfold coinsS; rw [c36]
  have es : sumS S q = sumS (up S 35 (6 * q + k) (S 35 (6 * q + k) + 1)) q := by unfold sumS; rw [c36]
  rw [ec, es, show S 36 (6 * q + k) = up S 35 (6 * q + k) (S 35 (6 * q + k) + 1) 36 (6 * q + k) by rw [c36]]
  generalize up S 35 (6 * q + k) (S 35 (6 * q + k) + 1) = S1 at *
  clear ec es c36 p
  refine p1.atM rfl rfl rfl p1.1.wi.wi.wi (fun a e1 e2 => ⟨?_, rfl⟩) rfl (fun f hf => upf (by omega)) ?_
  · have n1 : ¬ a = b + 25 + 4 * q := fun z => e1 (by rw [z]; exact hk1.2.1)
    have n2 : ¬ a = b + 27 + 4 * q := fun z => e2 (by rw [z]; exact ⟨hk1.2.2.2.2.2.2.1, by omega, by omega⟩)
    rw [wi_row n1, wi_row n1, wi_row n2]
  · clear p1
    intro m hm
    have := old m hm
    have a1 : ∀ j, ¬ j = k → up S1 36 (6 * q + k) (S1 36 (6 * q + k) + 1) 36 (6 * q + j) = S1 36 (6 * q + j) := fun j hj => up_ne _ _ (Or.inr (by omega))
    have c1 : coinsS (up S1 36 (6 * q + k) (S1 36 (6 * q + k) + 1)) q = coinsS S1 q + 1 := by
      unfold coinsS
      exact sumI_upd (k := k) (f := fun k => S1 36 (6 * q + k)) a1 (up_same _ _ _ _) 6 0 (by omega) (by omega)
    have c2 : sumS (up S1 36 (6 * q + k) (S1 36 (6 * q + k) + 1)) q = sumS S1 q + coM k := by
      unfold sumS
      refine sumI_upd (k := k) (f := fun k => coM k * S1 36 (6 * q + k)) (fun j hj => by show _ * _ = _; rw [a1 j hj]) ?_ 6 0 (by omega) (by omega)
      show coM k * up S1 36 (6 * q + k) (S1 36 (6 * q + k) + 1) 36 (6 * q + k) = coM k * S1 36 (6 * q + k) + coM k
      rw [up_same, Int32.mul_add, Int32.mul_one]
    have f : ∀ g, ¬ 36 = g → up S1 36 (6 * q + k) (S1 36 (6 * q + k) + 1) g = S1 g := fun g hg => upf hg
    rw [f 32 (by decide), f 33 (by decide), f 34 (by decide), f 35 (by decide), f 37 (by decide)]
    rw [wi_k, wi_n, wi_r, wi_k, wi_n, wi_r, wi_k, wi_n, wi_r]
    refine ⟨this.1, this.2.1, this.2.2.1, this.2.2.2.1, this.2.2.2.2.1, this.2.2.2.2.2.1, this.2.2.2.2.2.2.1, this.2.2.2.2.2.2.2.1, this.2.2.2.2.2.2.2.2.1, this.2.2.2.2.2.2.2.2.2.1, this.2.2.2.2.2.2.2.2.2.2.1, this.2.2.2.2.2.2.2.2.2.2.2.1, ?_, ?_, ?_, ?_, fun j hj => ?_⟩
    · rw [wi_i, if_neg (fun z => by omega), wi_i, if_neg (fun z => by omega), wi_i, if_neg (fun z => by omega)]; exact this.2.2.2.2.2.2.2.2.2.2.2.2.1
    · rw [wi_i, if_neg (fun z => by omega), wi_i, if_neg (fun z => by omega), wi_i, if_neg (fun z => by omega)]; exact this.2.2.2.2.2.2.2.2.2.2.2.2.2.1
    · by_cases e : m = q
      · subst e
        rw [wi_i, if_neg (fun z => by omega), wi_i, if_pos ⟨rfl, rfl⟩, c1]
      · rw [wi_i, if_neg (fun z => by omega), wi_i, if_neg (fun z => by omega), wi_i, if_neg (fun z => by omega), this.2.2.2.2.2.2.2.2.2.2.2.2.2.2.1]
        unfold coinsS
        exact sumI_congr 6 0 (fun j h1 h2 => by show _ = up S1 36 _ _ 36 _; rw [up_ne _ _ (Or.inr (by omega))])
    · by_cases e : m = q
      · subst e
        rw [wi_i, if_pos ⟨rfl, rfl⟩, c2]
      · rw [wi_i, if_neg (fun z => by omega), wi_i, if_neg (fun z => by omega), wi_i, if_neg (fun z => by omega), this.2.2.2.2.2.2.2.2.2.2.2.2.2.2.2.1]
        unfold sumS
        exact sumI_congr 6 0 (fun j h1 h2 => by show _ = _ * up S1 36 _ _ 36 _; rw [up_ne _ _ (Or.inr (by omega))])
    · have h9 := this.2.2.2.2.2.2.2.2.2.2.2.2.2.2.2.2 j hj
      refine ⟨?_, ?_, ?_⟩
      · rw [wi_i, if_neg (fun z => by omega), wi_i, if_neg (fun z => by omega), wi_i, if_neg (fun z => by omega)]; exact h9.1
      · rw [wi_i, if_neg (fun z => by omega), wi_i, if_neg (fun z => by omega), wi_i, up_e]
        by_cases e : m = q ∧ j = 5 - k
        · rw [if_pos ⟨by omega, e.2⟩, if_pos ⟨rfl, by omega⟩]
        · rw [if_neg (fun z => e ⟨by omega, z.2⟩), if_neg (fun z => e ⟨by omega, by omega⟩)]
          exact h9.2.1
      · rw [wi_i, if_neg (fun z => by omega), wi_i, if_neg (fun z => by omega), wi_i, if_neg (fun z => by omega)]; exact h9.2.2
/-- what a ticket says of being paid -/
theorem CX.tk6 (p : CX G b A S h) {t : Nat} (h1 : 1 ≤ t) (h2 : t ≤ nT S) (hn : nT S ≤ 300) (v : Int32) : CX G b A (up S 22 t v) (vg_wi h (A 8 t) 6 (bI (0 ≤ v))) := by
  have old := p.2.2.2.2.1
  have oM := p.2.2.2.2.2.2.2.1
  have hk1 := old t h1 h2
  have inj : ∀ u, 1 ≤ u → u ≤ nT S → A 8 u = A 8 t → u = t := fun u h3 h4 e => old.inj ⟨h3, h4⟩ ⟨h1, h2⟩ hn e
  refine p.atT rfl rfl rfl p.1.wi (fun a e1 e2 => ⟨wi_row (fun z => e2 (by rw [z]; exact hk1.2.1)), rfl⟩) (fun _ _ => rfl) (fun f hf => upf (by omega)) ?_ ((oM.wi (by omega)).up (by decide))
  clear p oM
  have hnt : nT (up S 22 t v) = nT S := by unfold nT; rw [upf (by decide)]
  intro u h3 h4
  rw [hnt] at h4
  have := old u h3 h4
  have f : ∀ g, ¬ 22 = g → up S 22 t v g = S g := fun g hg => upf hg
  rw [f 14 (by decide), f 15 (by decide), f 16 (by decide), f 17 (by decide), f 18 (by decide), f 20 (by decide), f 21 (by decide)]
  rw [wi_k, wi_r, show vg_z (vg_wi h (A 8 t) 6 (bI (0 ≤ v))) = vg_z h from rfl]
  simp only [wi_i, up_e]
  by_cases e : u = t
  · subst e; grind
  · have ne : ¬ A 8 u = A 8 t := fun z => e (inj u h3 h4 z)
    grind
/-- .. of what was paid, and when -/
theorem CX.tk78 (p : CX G b A S h) {t : Nat} (h1 : 1 ≤ t) (h2 : t ≤ nT S) (hn : nT S ≤ 300) (v w : Int32) : CX G b A (up (up S 20 t v) 21 t w) (vg_wi (vg_wi h (A 8 t) 7 v) (A 8 t) 8 w) := by
  have old := p.2.2.2.2.1
  have oM := p.2.2.2.2.2.2.2.1
  have hk1 := old t h1 h2
  have hk2 : (vg_wi h (A 8 t) 7 v).1 (A 8 t) = 8 := hk1.2.1
  have inj : ∀ u, 1 ≤ u → u ≤ nT S → A 8 u = A 8 t → u = t := fun u h3 h4 e => old.inj ⟨h3, h4⟩ ⟨h1, h2⟩ hn e
  refine p.atT rfl rfl rfl p.1.wi.wi (fun a e1 e2 => ⟨?_, rfl⟩) (fun _ _ => rfl) (fun f hf => by rw [upf (by omega), upf (by omega)]) ?_ ((((oM.wi (by omega)).wi (by omega)).up (by decide)).up (by decide))
  · have n1 : ¬ a = A 8 t := fun z => e2 (by rw [z]; exact hk1.2.1)
    rw [wi_row n1, wi_row n1]
  clear p oM
  have hnt : nT (up (up S 20 t v) 21 t w) = nT S := by unfold nT; rw [upf (by decide), upf (by decide)]
  intro u h3 h4
  rw [hnt] at h4
  have := old u h3 h4
  have f : ∀ g, ¬ 20 = g → ¬ 21 = g → up (up S 20 t v) 21 t w g = S g := fun g hg hg2 => by rw [upf hg2, upf hg]
  rw [f 14 (by decide) (by decide), f 15 (by decide) (by decide), f 16 (by decide) (by decide), f 17 (by decide) (by decide), f 18 (by decide) (by decide), f 22 (by decide) (by decide)]
  rw [wi_k, wi_r, wi_k, wi_r, show vg_z (vg_wi (vg_wi h (A 8 t) 7 v) (A 8 t) 8 w) = vg_z h from rfl]
  simp only [wi_i, up_e]
  by_cases e : u = t
  · subst e; grind
  · have ne : ¬ A 8 u = A 8 t := fun z => e (inj u h3 h4 z)
    grind
/-- .. of its state -/
theorem CX.tk5 (p : CX G b A S h) {t : Nat} (h1 : 1 ≤ t) (h2 : t ≤ nT S) (hn : nT S ≤ 300) {v : Int32} (hv : ¬ v = 0) {g : Nat} (hg : ¬ G.2.2.2.2 1 = g) : CX G b A (up S 14 t v) (vg_wr h (A 8 t) 5 (some g)) := by
  have old := p.2.2.2.2.1
  have oM := p.2.2.2.2.2.2.2.1
  have hk1 := old t h1 h2
  have inj : ∀ u, 1 ≤ u → u ≤ nT S → A 8 u = A 8 t → u = t := fun u h3 h4 e => old.inj ⟨h3, h4⟩ ⟨h1, h2⟩ hn e
  refine p.atT rfl rfl rfl (p.1.wr (by omega)) (fun a e1 e2 => ⟨rfl, wr_row (fun z => e2 (by rw [z]; exact hk1.2.1))⟩) (fun _ _ => rfl) (fun f hf => upf (by omega)) ?_ ((oM.wr (by omega)).up (by decide))
  clear p oM
  have hnt : nT (up S 14 t v) = nT S := by unfold nT; rw [upf (by decide)]
  intro u h3 h4
  rw [hnt] at h4
  have := old u h3 h4
  have f : ∀ g, ¬ 14 = g → up S 14 t v g = S g := fun g hg => upf hg
  rw [f 22 (by decide), f 15 (by decide), f 16 (by decide), f 17 (by decide), f 18 (by decide), f 20 (by decide), f 21 (by decide)]
  rw [wr_k, wr_i, show vg_z (vg_wr h (A 8 t) 5 (some g)) = vg_z h from rfl]
  simp only [wr_r, up_e]
  by_cases e : u = t
  · subst e; grind
  · have ne : ¬ A 8 u = A 8 t := fun z => e (inj u h3 h4 z)
    grind
end CW
