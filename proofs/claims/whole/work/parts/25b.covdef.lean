/-! ===== covers: what a right table is ===== -/
/-- may product p begin at minute e of a stay from minute fr of a week on -/
def mayE (S : SS) (p fr e : Nat) : Prop := mayB (S 9 p) (S 10 p) (nI ((fr + e) % 10080 / 60))
def inZ (S : SS) (z p : Nat) : Prop := p < 24 ∧ ¬ S 5 p = 0 ∧ S 8 p = nI z
/-- the latest minute up to e at which p may begin -/
def LB (S : SS) (p fr e y : Nat) : Prop := y ≤ e ∧ mayE S p fr y ∧ ∀ j, y < j → j ≤ e → ¬ mayE S p fr j
def lenP (S : SS) (p : Nat) : Nat := (S 7 p).toNatClampNeg
def prcP (S : SS) (p : Nat) : Nat := if p = 24 then 0 else (S 6 p).toNatClampNeg
/-- p covers minute e and ends at d -/
def Cand (S : SS) (z fr e p d : Nat) : Prop := (inZ S z p ∧ ∃ y, LB S p fr e y ∧ d = y + lenP S p ∧ e < d) ∨ (p = 24 ∧ e = 0 ∧ 0 < (S 4 z).toNatClampNeg ∧ d = (S 4 z).toNatClampNeg)
abbrev WT : Type := Nat → Nat × Nat × Nat × Nat
/-- price, number, first -/
def lexL (a b : Nat × Nat × Nat × Nat) : Prop := a.1 < b.1 ∨ (a.1 = b.1 ∧ (a.2.1 < b.2.1 ∨ (a.2.1 = b.2.1 ∧ a.2.2.1 < b.2.2.1)))
def valC (S : SS) (W : WT) (p d : Nat) : Nat × Nat × Nat × Nat := (prcP S p + (W d).1, 1 + (W d).2.1, p, d)
def Right (S : SS) (z fr m : Nat) (W : WT) : Prop := (∀ e, m ≤ e → W e = (0, 0, 0, 0)) ∧ ∀ e, e < m → (∃ p d, Cand S z fr e p d ∧ W e = valC S W p d) ∧ ∀ p d, Cand S z fr e p d → ¬ lexL (valC S W p d) (W e)
/-- v is the price of the stay -/
def PR (S : SS) (z fr m : Nat) (v : Int32) : Prop := ∃ W, Right S z fr m W ∧ v = nI (W 0).1
def rkN (a : Nat × Nat × Nat × Nat) : Nat := a.1 * 262144 + a.2.1 * 32 + a.2.2.1
def stN (z fr m : Nat) : Nat := (z * 10080 + fr) * 4321 + m
def offs (S : SS) (z : Nat) : List Nat := (List.range 24).filter (fun p => decide (¬ S 5 p = 0 ∧ S 8 p = nI z))
def CV (b : Nat) (A : AA) (S : SS) (h : vg_H) : Prop :=
  (S 1 0 = 0 → (∀ k, k < 509 → h.2.2.1 (b + 7) k = 0 ∧ h.2.2.1 (b + 8) k = 0) ∧ h.2.2.1 (b + 3) 8 = -1) ∧
  (¬ S 1 0 = 0 → (∀ z, z < 4 → h.2.2.1 (b + 17 + 2 * z) 2 = nI (offs S z).length ∧ ∀ i, i < (offs S z).length → h.2.2.2.2.1 (b + 18 + 2 * z) i = some (A 6 ((offs S z).getD i 0))) ∧
    (∀ k, k < 509 → ∀ z fr m, z < 4 → fr < 10080 → m ≤ 4320 → h.2.2.1 (b + 7) k = nI (stN z fr m) → PR S z fr m (h.2.2.1 (b + 8) k)) ∧
    (∀ z fr m, z < 4 → fr < 10080 → m ≤ 4320 → h.2.2.1 (b + 3) 8 = nI (stN z fr m) → h.2.2.2.2.1 (b + 3) 5 = some (b + 17 + 2 * z) ∧ h.2.2.1 (b + 3) 6 = nI fr ∧ h.2.2.1 (b + 3) 7 = nI m ∧ ∃ W, Right S z fr m W ∧ ∀ e, e < m → h.2.2.2.1 (b + 4) e = lN (rkN (W e))))
/-- nothing that covers look at changed -/
theorem CV.keep {b : Nat} {A A' : AA} {S S' : SS} {h h' : vg_H} (p : CV b A S h) (hA : A' 6 = A 6) (hS : S' 1 = S 1 ∧ S' 4 = S 4 ∧ S' 5 = S 5 ∧ S' 6 = S 6 ∧ S' 7 = S 7 ∧ S' 8 = S 8 ∧ S' 9 = S 9 ∧ S' 10 = S 10)
    (hh : h'.2.2.1 (b + 3) = h.2.2.1 (b + 3) ∧ h'.2.2.2.2.1 (b + 3) = h.2.2.2.2.1 (b + 3) ∧ h'.2.2.2.1 (b + 4) = h.2.2.2.1 (b + 4) ∧ h'.2.2.1 (b + 7) = h.2.2.1 (b + 7) ∧ h'.2.2.1 (b + 8) = h.2.2.1 (b + 8))
    (hz : ∀ z, z < 4 → h'.2.2.1 (b + 17 + 2 * z) 2 = h.2.2.1 (b + 17 + 2 * z) 2 ∧ h'.2.2.2.2.1 (b + 18 + 2 * z) = h.2.2.2.2.1 (b + 18 + 2 * z)) : CV b A' S' h' := by
  obtain ⟨s1, s4, s5, s6, s7, s8, s9, s10⟩ := hS
  obtain ⟨g1, g2, g3, g4, g5⟩ := hh
  have hR : ∀ z fr m W, Right S' z fr m W = Right S z fr m W := by
    intro z fr m W
    simp only [Right, Cand, valC, inZ, LB, mayE, lenP, prcP, s4, s5, s6, s7, s8, s9, s10]
  have hP : ∀ z fr m v, PR S' z fr m v = PR S z fr m v := by
    intro z fr m v
    simp only [PR, hR]
  have hO : ∀ z, offs S' z = offs S z := by
    intro z
    simp only [offs, s5, s8]
  unfold CV at *
  simp only [s1, g1, g2, g3, g4, g5, hR, hP, hO, hA]
  refine ⟨p.1, fun e => ?_⟩
  obtain ⟨q1, q2, q3⟩ := p.2 e
  refine ⟨fun z hz' => ?_, q2, q3⟩
  rw [(hz z hz').1, (hz z hz').2]
  exact q1 z hz'
