/-! ===== what stays true ===== -/
def iLat (S : SS) : Prop := ∃ m, m ≤ 200000 ∧ S 2 0 = nI m
def iPrd (S : SS) : Prop := ∀ p, p < 24 → ¬ S 5 p = 0 → ∃ c l f t, 5 * c ≤ 20000 ∧ S 6 p = nI (5 * c) ∧ 15 ≤ l ∧ l ≤ 4320 ∧ S 7 p = nI l ∧ f ≤ 168 ∧ t ≤ 168 ∧ S 9 p = nI f ∧ S 10 p = nI t
def iFre (S : SS) : Prop := ∀ z, z < 4 → ∃ f, f ≤ 120 ∧ S 4 z = nI f
def iOpn (S : SS) : Prop := ¬ S 1 0 = 0 → opP S ∧ bkOK S ∧ whOK S
def iTk (S : SS) : Prop := okT S ∧ uqI S ∧ ∀ t, 1 ≤ t → t ≤ nT S → ∃ z a p pl, S 15 t = nI z ∧ z < 4 ∧ S 16 t = nI a ∧ nI a ≤ S 2 0 ∧ a ≤ 200000 ∧ S 20 t = nI (5 * p) ∧ 5 * p ≤ 40000 * nP S ∧ S 17 t = nI pl ∧ pl ≤ 1000000 ∧ (pl = 0 ↔ ¬ S 19 t = 0) ∧ -1 ≤ S 18 t ∧ -1 ≤ S 21 t ∧ S 21 t ≤ 200000
def iCon (S : SS) : Prop := okC S ∧ noC S ∧ uqC S ∧ dsC S ∧ ∀ c, c < 20 → S 23 c = 0 ∨ S 23 c = 1
def iRes (S : SS) : Prop := runOK S ∧ (∀ r, r < 30 → S 28 r = 0 ∨ S 28 r = 1) ∧ (S 1 0 = 0 → ∀ r, r < 30 → S 28 r = 0)
def iMc (S : SS) (q : Nat) : Prop := ∃ (t f mm : Nat) (c bx : Nat → Nat), S 32 q = nI t ∧ t ≤ nT S ∧ S 33 q = nI (5 * f) ∧ 5 * f < 2 ^ 30 ∧ S 34 q = nI mm ∧ mm ≤ 200000 ∧ (∀ k, k < 6 → S 36 (6 * q + k) = nI (c k)) ∧ smN c 6 ≤ 200 ∧ (∀ k, k < 6 → S 35 (6 * q + k) = nI (bx k) ∧ bx k ≤ 500) ∧ (¬ t = 0 → ∀ k, k < 6 → c k ≤ bx k)
def potS (S : SS) (q : Nat) : Nat := if S 32 q = 0 then 0 else if coinsS S q = 0 then 1 else 2
def iPay (S : SS) (n : Nat) : Prop := S 38 0 = nI (nP S) ∧ 3 * nP S + potS S 0 + potS S 1 + potS S 2 ≤ n
def Inv (S : SS) (n : Nat) : Prop := iLat S ∧ iPrd S ∧ iFre S ∧ iOpn S ∧ iTk S ∧ iCon S ∧ iRes S ∧ (∀ q, q < 3 → iMc S q) ∧ iPay S n
theorem sumI_nat {f : Nat → Int32} {g : Nat → Nat} : ∀ (m i : Nat), (∀ j, i ≤ j → j < i + m → f j = nI (g j)) → ∃ s, sumI f i m = nI s ∧ s + smN g i = smN g (i + m)
  | 0, i, _ => ⟨0, rfl, by rw [Nat.add_zero, Nat.zero_add]⟩
  | m + 1, i, h => by
    obtain ⟨s, h1, h2⟩ := sumI_nat m (i + 1) (fun j h1 h2 => h j (by omega) (by omega))
    refine ⟨g i + s, by rw [sumI_s, h1, h i (by omega) (by omega), nI_add], ?_⟩
    have e : smN g (i + 1) = smN g i + g i := rfl
    rw [show i + (m + 1) = i + 1 + m by omega, ← h2, e]; omega
theorem sumI_n6 {f : Nat → Int32} {g : Nat → Nat} (h : ∀ k, k < 6 → f k = nI (g k)) : sumI f 0 6 = nI (smN g 6) := by
  obtain ⟨s, h1, h2⟩ := sumI_nat (f := f) (g := g) 6 0 (fun j _ hj => h j (by omega))
  have e : smN g 0 = 0 := rfl
  have e6 : smN g (0 + 6) = smN g 6 := by rw [Nat.zero_add]
  rw [h1, show s = smN g 6 by omega]
theorem coins_n {S : SS} {q : Nat} {c : Nat → Nat} (h : ∀ k, k < 6 → S 36 (6 * q + k) = nI (c k)) : coinsS S q = nI (smN c 6) := by unfold coinsS; exact sumI_n6 h
theorem sum_n {S : SS} {q : Nat} {c : Nat → Nat} (h : ∀ k, k < 6 → S 36 (6 * q + k) = nI (c k)) : sumS S q = nI (5 * smN (fun k => unN k * c k) 6) := by
  unfold sumS
  rw [sumI_n6 (g := fun k => 5 * (unN k * c k)) (fun k hk => by rw [h k hk, coM_5 k hk, nI_m, Nat.mul_assoc])]
  congr 1
  rw [sm6, sm6]; omega
theorem un_le {c : Nat → Nat} (h : smN c 6 ≤ 200) : smN (fun k => unN k * c k) 6 ≤ 8000 := by
  rw [sm6] at *
  show unN 0 * c 0 + unN 1 * c 1 + unN 2 * c 2 + unN 3 * c 3 + unN 4 * c 4 + unN 5 * c 5 ≤ 8000
  simp only [unN]
  omega
section
variable {S : SS} {n : Nat}
theorem Inv.lat (h : Inv S n) : 0 ≤ S 2 0 := by
  obtain ⟨m, m1, m2⟩ := h.1
  rw [m2]; exact nI_pos' (by omega)
theorem Inv.tk (h : Inv S n) : okT S := h.2.2.2.2.1.1
theorem Inv.uq (h : Inv S n) : uqI S := h.2.2.2.2.1.2.1
theorem Inv.hr (h : Inv S n) : hrOK S := fun p hp hs => by
  obtain ⟨c, l, f, t, _, _, _, _, _, h1, h2, h3, h4⟩ := h.2.1 p hp hs
  exact ⟨f, t, h1, h2, h3, h4⟩
theorem Inv.okpr (h : Inv S n) : okPr S := fun p hp hs => by
  obtain ⟨c, l, f, t, h1, h2, h3, h4, h5, _⟩ := h.2.1 p hp hs
  have e1 : prcP S p = 5 * c := by unfold prcP; rw [if_neg (by omega), h2, nI_clamp (by omega)]
  have e2 : lenP S p = l := by unfold lenP; rw [h5, nI_clamp (by omega)]
  rw [e1, e2]; omega
theorem Inv.op (h : Inv S n) : opT S := fun ho => by
  obtain ⟨o1, o2, o3⟩ := h.2.2.2.1 ho
  refine ⟨⟨h.okpr, o1, o2, fun p hp hs => ?_, fun z hz => ?_⟩, o3⟩
  · obtain ⟨c, l, f, t, h1, h2, h3, h4, h5, _⟩ := h.2.1 p hp hs
    have e1 : prcP S p = 5 * c := by unfold prcP; rw [if_neg (by omega), h2, nI_clamp (by omega)]
    have e2 : lenP S p = l := by unfold lenP; rw [h5, nI_clamp (by omega)]
    rw [e1, e2]; exact ⟨h2, h5⟩
  · obtain ⟨f, f1, f2⟩ := h.2.2.1 z hz
    rw [f2, nI_clamp (by omega)]; exact ⟨rfl, f1⟩
theorem Inv.np (h : Inv S n) (hn : n ≤ 512) : nP S ≤ 170 := by have := h.2.2.2.2.2.2.2.2.2; omega
theorem Inv.tki (h : Inv S n) (hn : n ≤ 512) : tkI S := fun t h1 h2 => by
  obtain ⟨z, a, p, pl, a1, a2, a3, a4, a5, a6, a7, _⟩ := h.2.2.2.2.1.2.2 t h1 h2
  have := h.np hn
  exact ⟨z, a, 5 * p, a1, a3, a6, a2, a4, a5, by omega⟩
theorem Inv.tkj (h : Inv S n) : tkJ S := fun t h1 h2 => by
  obtain ⟨z, a, p, pl, a1, a2, a3, a4, a5, a6, a7, a8, a9, a10, a11, a12, a13⟩ := h.2.2.2.2.1.2.2 t h1 h2
  refine ⟨?_, a11, a12, a13⟩
  rw [a8]
  exact ⟨fun q => a10.mp ((nI_eq (by omega) (by omega)).mp q), fun q => by rw [a10.mpr q]; rfl⟩
theorem Inv.pl (h : Inv S n) : ∀ t, 1 ≤ t → t ≤ nT S → 0 ≤ S 17 t := fun t h1 h2 => by
  obtain ⟨z, a, p, pl, a1, a2, a3, a4, a5, a6, a7, a8, a9, _⟩ := h.2.2.2.2.1.2.2 t h1 h2
  rw [a8]; exact nI_pos' (by omega)
theorem Inv.okm (h : Inv S n) : okM S := fun q hq hz => by
  obtain ⟨t, f, mm, c, bx, m1, m2, _⟩ := h.2.2.2.2.2.2.2.1 q hq
  have := h.tk.2
  rw [m1] at hz ⊢
  rw [nI_clamp (by omega)]
  refine ⟨?_, m2⟩
  rcases Nat.eq_zero_or_pos t with z | z
  · rw [z] at hz; exact absurd rfl hz
  · exact z
theorem Inv.r32 (h : Inv S n) : ∀ q, q < 3 → 0 ≤ S 32 q ∧ S 32 q ≤ 300 := fun q hq => by
  obtain ⟨t, f, mm, c, bx, m1, m2, _⟩ := h.2.2.2.2.2.2.2.1 q hq
  have := h.tk.2
  rw [m1, show (300 : Int32) = nI 300 from rfl]
  exact ⟨nI_pos' (by omega), nI_le (by omega) (by omega)⟩
theorem Inv.f33 (h : Inv S n) : ∀ q, q < 3 → 0 ≤ S 33 q := fun q hq => by
  obtain ⟨t, f, mm, c, bx, m1, m2, m3, m4, _⟩ := h.2.2.2.2.2.2.2.1 q hq
  rw [m3]; exact nI_pos' (by omega)
theorem Inv.bx (h : Inv S n) : ∀ i, i < 18 → 0 ≤ S 35 i ∧ S 35 i ≤ 500 := fun i hi => by
  obtain ⟨t, f, mm, c, bx, m1, m2, m3, m4, m5, m6, m7, m8, m9, _⟩ := h.2.2.2.2.2.2.2.1 (i / 6) (by omega)
  obtain ⟨b1, b2⟩ := m9 (i % 6) (by omega)
  rw [show 6 * (i / 6) + i % 6 = i by omega] at b1
  rw [b1, show (500 : Int32) = nI 500 from rfl]
  exact ⟨nI_pos' (by omega), nI_le b2 (by omega)⟩
theorem Inv.co (h : Inv S n) : ∀ q, q < 3 → coinsS S q ≤ 200 := fun q hq => by
  obtain ⟨t, f, mm, c, bx, m1, m2, m3, m4, m5, m6, m7, m8, _⟩ := h.2.2.2.2.2.2.2.1 q hq
  rw [coins_n m7, show (200 : Int32) = nI 200 from rfl]
  exact nI_le m8 (by omega)
theorem Inv.rest (h : Inv S n) : okRest S := fun q hq hr => by
  obtain ⟨t, f, mm, c, bx, m1, m2, m3, m4, m5, m6, m7, m8, _⟩ := h.2.2.2.2.2.2.2.1 q hq
  have ul := un_le m8
  rw [sum_n m7, m3] at hr ⊢
  generalize smN (fun k => unN k * c k) 6 = s at *
  rcases Nat.lt_or_ge (5 * s) (5 * f) with q | q
  · exact absurd hr (Int32.not_le.mpr (nI_neg q (by omega)))
  · rw [nI_subN q]
    exact ⟨s - f, by omega, by congr 1; omega⟩
theorem Inv.restB (h : Inv S n) : ∀ q, q < 3 → 0 ≤ sumS S q - S 33 q → sumS S q - S 33 q ≤ 40000 := fun q hq hr => by
  obtain ⟨r, r1, r2⟩ := h.rest q hq hr
  rw [r2, show (40000 : Int32) = nI 40000 from rfl]
  exact nI_le (by omega) (by omega)
theorem Inv.okp (h : Inv S n) (hn : n ≤ 512) : okP S := ⟨h.2.2.2.2.2.2.2.2.1, by have := h.np hn; omega⟩
/-- a payment above 0 took three calls -/
theorem Inv.np2 (h : Inv S n) (hn : n < 512) : ∀ q, q < 3 → ¬ S 32 q = 0 → ¬ sumS S q - S 33 q < 0 → ¬ S 33 q = 0 → nP S < 170 := fun q hq hb hs hf => by
  obtain ⟨t, f, mm, c, bx, m1, m2, m3, m4, m5, m6, m7, m8, _⟩ := h.2.2.2.2.2.2.2.1 q hq
  have p2 : potS S q = 2 := by
    unfold potS
    rw [if_neg hb, if_neg]
    intro z
    rw [coins_n m7] at z
    have c0 : smN c 6 = 0 := by
      rcases Nat.eq_zero_or_pos (smN c 6) with y | y
      · exact y
      · exact absurd z (nI_ne0 y (by omega))
    have s0 : smN (fun k => unN k * c k) 6 = 0 := by
      rw [sm6] at c0
      rw [sm6]
      have : c 0 = 0 ∧ c 1 = 0 ∧ c 2 = 0 ∧ c 3 = 0 ∧ c 4 = 0 ∧ c 5 = 0 := by omega
      obtain ⟨a0, a1, a2, a3, a4, a5⟩ := this
      show unN 0 * c 0 + unN 1 * c 1 + unN 2 * c 2 + unN 3 * c 3 + unN 4 * c 4 + unN 5 * c 5 = 0
      rw [a0, a1, a2, a3, a4, a5]; simp
    rw [sum_n m7, s0, m3] at hs
    have f0 : 0 < f := by
      rcases Nat.eq_zero_or_pos f with y | y
      · rw [m3, y] at hf; exact absurd rfl hf
      · exact y
    exact hs (nI_neg (a := 5 * 0) (by omega) (by omega))
  have := h.2.2.2.2.2.2.2.2.2
  match q, hq with
  | 0, _ => omega
  | 1, _ => omega
  | 2, _ => omega
end
