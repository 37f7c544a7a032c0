/-! ===== it stays true: tickets ===== -/
section ID
variable {S S' : SS} {n : Nat}
theorem iMc.c2 {q : Nat} (h : iMc S q) (e13 : nT S ≤ nT S') (e : S' 32 = S 32 ∧ S' 33 = S 33 ∧ S' 34 = S 34 ∧ S' 35 = S 35 ∧ S' 36 = S 36) : iMc S' q := by
  obtain ⟨a, b, c, d, f⟩ := e
  unfold iMc at *; rw [a, b, c, d, f]
  obtain ⟨t, f, mm, c, bx, m1, m2, m3⟩ := h
  exact ⟨t, f, mm, c, bx, m1, Nat.le_trans m2 e13, m3⟩
theorem iTk.add (h : iTk S) (hs : S' 13 0 = S 13 0 + 1) (ht : nT S < 300) (h2 : S' 2 = S 2) (h38 : S' 38 = S 38) (old : ∀ t, t ≤ nT S → S' 15 t = S 15 t ∧ S' 16 t = S 16 t ∧ S' 17 t = S 17 t ∧ S' 18 t = S 18 t ∧ S' 19 t = S 19 t ∧ S' 20 t = S 20 t ∧ S' 21 t = S 21 t ∧ (S' 14 t = 0 → S 14 t = 0)) {z a p pl : Nat} (n15 : S' 15 (nT S + 1) = nI z) (hz : z < 4) (n16 : S' 16 (nT S + 1) = nI a) (ha : nI a ≤ S 2 0) (ha2 : a ≤ 200000) (n20 : S' 20 (nT S + 1) = nI (5 * p)) (hp : 5 * p ≤ 40000 * nP S) (n17 : S' 17 (nT S + 1) = nI pl) (hpl : pl ≤ 1000000) (n19 : pl = 0 ↔ ¬ S' 19 (nT S + 1) = 0) (n18 : -1 ≤ S' 18 (nT S + 1)) (n21 : -1 ≤ S' 21 (nT S + 1) ∧ S' 21 (nT S + 1) ≤ 200000) (uq : 0 < pl → ∀ t, 1 ≤ t → t ≤ nT S → S' 14 t = 0 → ¬ S 17 t = nI pl) : iTk S' ∧ nT S' = nT S + 1 := by
  obtain ⟨⟨k1, k2⟩, u, r⟩ := h
  have nt : nT S' = nT S + 1 := by
    show (S' 13 0).toNatClampNeg = _
    rw [hs, k1, nI_1, nI_clamp (by omega)]
  have np : nP S' = nP S := by unfold nP; rw [h38]
  refine ⟨⟨⟨by rw [nt, hs, k1, nI_1], by omega⟩, ?_, fun t t1 t2 => ?_⟩, nt⟩
  · intro q t v hq it iv
    obtain ⟨a1, a2, a3, a4⟩ := it
    obtain ⟨b1, b2, b3, b4⟩ := iv
    rw [nt] at a2 b2
    have key : ∀ t, 1 ≤ t → t ≤ nT S → S' 14 t = 0 → S' 17 t = q → S' 17 (nT S + 1) = q → False := fun t t1 t2 t3 t4 t5 => by
      rw [n17] at t5
      rw [(old t t2).2.2.1] at t4
      have : 0 < pl := by
        rcases Nat.eq_zero_or_pos pl with y | y
        · rw [y] at t5; rw [← t5] at hq; exact absurd hq (by decide)
        · exact y
      exact uq this t t1 t2 t3 (by rw [t4, t5])
    by_cases e1 : t = nT S + 1
    · by_cases e2 : v = nT S + 1
      · omega
      · rw [e1] at a4
        exact absurd (key v b1 (by omega) b3 b4 a4) id
    · by_cases e2 : v = nT S + 1
      · rw [e2] at b4
        exact absurd (key t a1 (by omega) a3 a4 b4) id
      · have o1 := old t (by omega)
        have o2 := old v (by omega)
        exact u q t v hq ⟨a1, by omega, o1.2.2.2.2.2.2.2 a3, by rw [← o1.2.2.1]; exact a4⟩ ⟨b1, by omega, o2.2.2.2.2.2.2.2 b3, by rw [← o2.2.2.1]; exact b4⟩
  · rw [nt] at t2
    rw [h2, np]
    by_cases e : t = nT S + 1
    · subst e
      exact ⟨z, a, p, pl, n15, hz, n16, ha, ha2, n20, hp, n17, hpl, n19, n18, n21⟩
    · obtain ⟨o1, o2, o3, o4, o5, o6, o7, _⟩ := old t (by omega)
      rw [o1, o2, o3, o4, o5, o6, o7]
      exact r t t1 (by omega)
/-- the rest of the state, where tickets alone change -/
theorem Inv.tks (h : Inv S n) (hS : ∀ f, f < 13 ∨ 22 < f → S' f = S f) (ht : iTk S') (hn : nT S ≤ nT S') : Inv S' (n + 1) := by
  obtain ⟨h1, h2, h3, h4, h5, h6, h7, h8, h9⟩ := h
  have f : ∀ g, g < 13 ∨ 22 < g → S' g = S g := hS
  exact ⟨h1.c (f 2 (by omega)), h2.c ⟨f 5 (by omega), f 6 (by omega), f 7 (by omega), f 9 (by omega), f 10 (by omega)⟩, h3.c (f 4 (by omega)), h4.c (f 1 (by omega)) ⟨f 4 (by omega), f 5 (by omega), f 6 (by omega), f 7 (by omega), f 8 (by omega), f 9 (by omega), f 10 (by omega)⟩ (f 11 (by omega)) (f 12 (by omega)), ht, h6.c ⟨f 23 (by omega), f 26 (by omega), f 27 (by omega)⟩, h7.c (f 1 (by omega)) (f 3 (by omega)) ⟨f 28 (by omega), f 29 (by omega), f 30 (by omega), f 31 (by omega)⟩, fun q hq => (h8 q hq).c2 hn ⟨f 32 (by omega), f 33 (by omega), f 34 (by omega), f 35 (by omega), f 36 (by omega)⟩, h9.c (f 38 (by omega)) (f 32 (by omega)) (f 36 (by omega))⟩
theorem sAdd_o {z x p c : Int32} {f : Nat} (hf : f < 13 ∨ 22 < f) : sAdd S z x p c f = S f := by
  unfold sAdd
  rw [upf (by omega), upf (by omega), upf (by omega), upf (by omega), upf (by omega), upf (by omega), upf (by omega), upf (by omega), upf (by omega), upf (by omega)]
theorem sAdd_t {z x p c : Int32} {f t : Nat} (ht : ¬ t = nT S + 1) (hf : ¬ f = 13) : sAdd S z x p c f t = S f t := by
  unfold sAdd
  simp only [up_e, ht, hf, and_false, false_and, if_false]
theorem sAdd_n {z x p c : Int32} : sAdd S z x p c 13 0 = S 13 0 + 1 ∧ sAdd S z x p c 14 (nT S + 1) = 0 ∧ sAdd S z x p c 15 (nT S + 1) = z ∧ sAdd S z x p c 16 (nT S + 1) = x ∧ sAdd S z x p c 17 (nT S + 1) = p ∧ sAdd S z x p c 18 (nT S + 1) = c ∧ sAdd S z x p c 19 (nT S + 1) = 0 ∧ sAdd S z x p c 20 (nT S + 1) = 0 ∧ sAdd S z x p c 21 (nT S + 1) = -1 ∧ sAdd S z x p c 22 (nT S + 1) = -1 := by
  unfold sAdd
  simp [up_e]
theorem undC_ge (S : SS) (p z : Int32) : -1 ≤ undC S p z := by
  unfold undC
  split
  · rename_i h
    exact Int32.le_trans (by decide) h.1
  · decide
theorem Inv.enter (h : Inv S n) {z : Nat} {m p : Int32} (hm : S 2 0 ≤ m ∧ m ≤ 200000) (hz : z < 4) (hp : 1 ≤ p ∧ p ≤ 1000000) (ht : nT S < 300) (hn : ¬ ∃ t, IsIn S p t) (c : Int32) (hc : -1 ≤ c) : Inv (sAdd (up S 2 0 m) (nI z) m p c) (n + 1) := by
  have h1 : Inv (up S 2 0 m) (n + 1) := h.late hm
  have hl := h.lat
  have mc := nI_cl (n := 200000) (by omega) (Int32.le_trans hl hm.1) hm.2
  have N1 : nT (up S 2 0 m) = nT S := nT_up (by decide)
  obtain ⟨a0, a14, a15, a16, a17, a18, a19, a20, a21, a22⟩ := sAdd_n (S := up S 2 0 m) (z := nI z) (x := m) (p := p) (c := c)
  obtain ⟨P, P1, rfl⟩ := nI_ex 1000000 (by omega) (Int32.le_trans (by decide) hp.1) hp.2
  have P0 : 1 ≤ P := by
    have h9 := hp.1
    rw [show (1 : Int32) = nI 1 from rfl] at h9
    exact (nI_leI (by omega) (by omega)).mp h9
  obtain ⟨t1, t2⟩ := iTk.add (S := up S 2 0 m) (S' := sAdd (up S 2 0 m) (nI z) m (nI P) c) (z := z) (a := m.toNatClampNeg) (p := 0) (pl := P) h1.2.2.2.2.1 a0 (by rw [N1]; exact ht) (sAdd_o (by omega)) (sAdd_o (by omega)) (fun t ht2 => by
    have ne : ¬ t = nT (up S 2 0 m) + 1 := by omega
    exact ⟨sAdd_t ne (by decide), sAdd_t ne (by decide), sAdd_t ne (by decide), sAdd_t ne (by decide), sAdd_t ne (by decide), sAdd_t ne (by decide), sAdd_t ne (by decide), fun q => by rw [sAdd_t ne (by decide)] at q; exact q⟩) a15 hz (a16.trans mc.2) (by rw [up_same, ← mc.2]; exact Int32.le_refl _) mc.1 a20 (by omega) a17 P1 (by rw [a19]; exact ⟨fun q => by omega, fun q => absurd rfl q⟩) (by rw [a18]; exact hc) (by rw [a21]; exact ⟨by decide, by decide⟩) (fun _ t q1 q2 q3 q4 => hn ⟨t, by
      have ne : ¬ t = nT (up S 2 0 m) + 1 := by omega
      rw [sAdd_t ne (by decide), upf (by decide)] at q3
      rw [upf (by decide)] at q4
      rw [N1] at q2
      exact ⟨q1, q2, q3, q4⟩⟩)
  have := Inv.tks (S := up S 2 0 m) (n := n) (by
    obtain ⟨b1, b2, b3, b4, b5, b6, b7, b8, b9⟩ := h1
    refine ⟨b1, b2, b3, b4, b5, b6, b7, b8, ?_⟩
    have h9 := h.2.2.2.2.2.2.2.2
    unfold iPay potS coinsS nP at *
    rw [upf (by decide), upf (by decide), upf (by decide)]; exact h9) (fun f hf => sAdd_o hf) t1 (by rw [t2]; omega)
  exact this
theorem Inv.leave (h : Inv S n) {t : Nat} {m : Int32} (hm : S 2 0 ≤ m ∧ m ≤ 200000) : Inv (up (up S 2 0 m) 14 t 1) (n + 1) := by
  have h1 : Inv (up S 2 0 m) (n + 1) := h.late hm
  have hi : iTk (up (up S 2 0 m) 14 t 1) := by
    obtain ⟨k, u, r⟩ := h1.2.2.2.2.1
    have f : ∀ g, ¬ 14 = g → up (up S 2 0 m) 14 t 1 g = up S 2 0 m g := fun g hg => upf hg
    have nt : nT (up (up S 2 0 m) 14 t 1) = nT (up S 2 0 m) := nT_up (by decide)
    have np : nP (up (up S 2 0 m) 14 t 1) = nP (up S 2 0 m) := by unfold nP; rw [f 38 (by decide)]
    refine ⟨okT_up (by decide) k, fun p x y hp hx hy => u p x y hp ?_ ?_, ?_⟩
    · obtain ⟨a1, a2, a3, a4⟩ := hx
      refine ⟨a1, by rw [← nt]; exact a2, ?_, by rw [← f 17 (by decide)]; exact a4⟩
      rw [up_e] at a3
      split at a3
      · exact absurd a3 (by decide)
      · exact a3
    · obtain ⟨a1, a2, a3, a4⟩ := hy
      refine ⟨a1, by rw [← nt]; exact a2, ?_, by rw [← f 17 (by decide)]; exact a4⟩
      rw [up_e] at a3
      split at a3
      · exact absurd a3 (by decide)
      · exact a3
    · rw [nt, np, f 15 (by decide), f 16 (by decide), f 17 (by decide), f 18 (by decide), f 19 (by decide), f 20 (by decide), f 21 (by decide), f 2 (by decide)]
      exact r
  refine Inv.tks (S := up S 2 0 m) (n := n) ?_ (fun f hf => upf (by omega)) hi (Nat.le_of_eq (nT_up (f := 14) (by decide)).symm)
  obtain ⟨b1, b2, b3, b4, b5, b6, b7, b8, b9⟩ := h1
  refine ⟨b1, b2, b3, b4, b5, b6, b7, b8, ?_⟩
  have h9 := h.2.2.2.2.2.2.2.2
  unfold iPay potS coinsS nP at *
  rw [upf (by decide), upf (by decide), upf (by decide)]; exact h9
theorem Inv.lateN (h : Inv S n) {m : Int32} (hm : S 2 0 ≤ m ∧ m ≤ 200000) : Inv (up S 2 0 m) n := by
  obtain ⟨b1, b2, b3, b4, b5, b6, b7, b8, b9⟩ := h.late hm
  refine ⟨b1, b2, b3, b4, b5, b6, b7, b8, ?_⟩
  have h9 := h.2.2.2.2.2.2.2.2
  unfold iPay potS coinsS nP at *
  rw [upf (by decide), upf (by decide), upf (by decide)]; exact h9
theorem Inv.lost0 (h : Inv S n) {z m : Int32} (hm : S 2 0 ≤ m ∧ m ≤ 200000) (hz : 0 ≤ z ∧ z ≤ 3) (ht : nT S < 300) : Inv (sLost0 S z m) (n + 1) := by
  have h1 := h.lateN hm
  have hl := h.lat
  have mc := nI_cl (n := 200000) (by omega) (Int32.le_trans hl hm.1) hm.2
  have N1 : nT (up S 2 0 m) = nT S := nT_up (by decide)
  obtain ⟨Z, Z1, rfl⟩ := nI_ex 3 (by omega) hz.1 hz.2
  obtain ⟨a0, a14, a15, a16, a17, a18, a19, a20, a21, a22⟩ := sAdd_n (S := up S 2 0 m) (z := nI Z) (x := m) (p := 0) (c := -1)
  rw [N1] at a14 a15 a16 a17 a18 a19 a20 a21 a22
  have g : ∀ f, ¬ 19 = f → sLost0 S (nI Z) m f = sAdd (up S 2 0 m) (nI Z) m 0 (-1) f := fun f hf => by unfold sLost0; exact upf hf
  have g19 : sLost0 S (nI Z) m 19 (nT S + 1) = 1 := by unfold sLost0; rw [up_same]
  have g19' : ∀ t, ¬ t = nT S + 1 → sLost0 S (nI Z) m 19 t = S 19 t := fun t ht2 => by unfold sLost0; rw [up_ne _ _ (Or.inr ht2), sAdd_t (by rw [N1]; exact ht2) (by decide), upf (by decide)]
  obtain ⟨t1, t2⟩ := iTk.add (S := up S 2 0 m) (S' := sLost0 S (nI Z) m) (z := Z) (a := m.toNatClampNeg) (p := 0) (pl := 0) h1.2.2.2.2.1 (by rw [g 13 (by decide)]; exact a0) (by rw [N1]; exact ht) (by rw [g 2 (by decide)]; exact sAdd_o (by omega)) (by rw [g 38 (by decide)]; exact sAdd_o (by omega)) (fun t ht2 => by
    have ne : ¬ t = nT (up S 2 0 m) + 1 := by omega
    rw [g 14 (by decide), g 15 (by decide), g 16 (by decide), g 17 (by decide), g 18 (by decide), g 20 (by decide), g 21 (by decide), g19' t (by rw [← N1]; exact ne)]
    exact ⟨sAdd_t ne (by decide), sAdd_t ne (by decide), sAdd_t ne (by decide), sAdd_t ne (by decide), by rw [upf (by decide)], sAdd_t ne (by decide), sAdd_t ne (by decide), fun q => by rw [sAdd_t ne (by decide)] at q; exact q⟩) (by rw [N1, g 15 (by decide)]; exact a15) (by omega) (by rw [N1, g 16 (by decide)]; exact a16.trans mc.2) (by rw [up_same, ← mc.2]; exact Int32.le_refl _) mc.1 (by rw [N1, g 20 (by decide)]; exact a20) (by omega) (by rw [N1, g 17 (by decide)]; exact a17) (by omega) (by rw [N1, g19]; exact ⟨fun _ => by decide, fun _ => rfl⟩) (by rw [N1, g 18 (by decide), a18]; decide) (by rw [N1, g 21 (by decide), a21]; exact ⟨by decide, by decide⟩) (fun q => absurd q (by omega))
  refine Inv.tks (S := up S 2 0 m) (n := n) h1 (fun f hf => ?_) t1 (by rw [t2]; omega)
  rw [g f (by omega)]; exact sAdd_o hf
theorem Inv.lost1 (h : Inv S n) {p m : Int32} {o : Nat} (hm : S 2 0 ≤ m ∧ m ≤ 200000) (hp : 1 ≤ p ∧ p ≤ 1000000) (ht : nT S < 300) (ho : IsIn S p o) : Inv (sLost1 S p m o) (n + 1) := by
  have h1 := h.lateN hm
  have N1 : nT (up S 2 0 m) = nT S := nT_up (by decide)
  obtain ⟨o1, o2, o3, o4⟩ := ho
  obtain ⟨z, a, pp, pl, b1, b2, b3, b4, b5, b6, b7, b8, b9, b10, b11, b12, b13⟩ := h.2.2.2.2.1.2.2 o o1 o2
  obtain ⟨a0, a14, a15, a16, a17, a18, a19, a20, a21, a22⟩ := sAdd_n (S := up S 2 0 m) (z := S 15 o) (x := S 16 o) (p := p) (c := S 18 o)
  rw [N1] at a14 a15 a16 a17 a18 a19 a20 a21 a22
  have no : ¬ o = nT S + 1 := by omega
  have g : ∀ f, ¬ 20 = f → ¬ 21 = f → ¬ 14 = f → sLost1 S p m o f = sAdd (up S 2 0 m) (S 15 o) (S 16 o) p (S 18 o) f := fun f c1 c2 c3 => by unfold sLost1; rw [upf c3, upf c2, upf c1]
  have g20 : ∀ t, sLost1 S p m o 20 t = if t = nT S + 1 then S 20 o else sAdd (up S 2 0 m) (S 15 o) (S 16 o) p (S 18 o) 20 t := fun t => by unfold sLost1; rw [upf (by decide), upf (by decide), up_e]; simp
  have g21 : ∀ t, sLost1 S p m o 21 t = if t = nT S + 1 then S 21 o else sAdd (up S 2 0 m) (S 15 o) (S 16 o) p (S 18 o) 21 t := fun t => by unfold sLost1; rw [upf (by decide), up_e, upf (by decide)]; simp
  have g14 : ∀ t, sLost1 S p m o 14 t = if t = o then 2 else sAdd (up S 2 0 m) (S 15 o) (S 16 o) p (S 18 o) 14 t := fun t => by unfold sLost1; rw [up_e, upf (by decide), upf (by decide)]; simp
  have P0 : 1 ≤ pl := by
    have h9 := hp.1
    rw [← o4, b8, show (1 : Int32) = nI 1 from rfl] at h9
    exact (nI_leI (by omega) (by omega)).mp h9
  have np : nP (up S 2 0 m) = nP S := by unfold nP; rw [upf (by decide)]
  obtain ⟨t1, t2⟩ := iTk.add (S := up S 2 0 m) (S' := sLost1 S p m o) (z := z) (a := a) (p := pp) (pl := pl) h1.2.2.2.2.1 (by rw [g 13 (by decide) (by decide) (by decide)]; exact a0) (by rw [N1]; exact ht) (by rw [g 2 (by decide) (by decide) (by decide)]; exact sAdd_o (by omega)) (by rw [g 38 (by decide) (by decide) (by decide)]; exact sAdd_o (by omega)) (fun t ht2 => by
    have ne : ¬ t = nT (up S 2 0 m) + 1 := by omega
    have ne2 : ¬ t = nT S + 1 := by rw [N1] at ne; exact ne
    rw [g 15 (by decide) (by decide) (by decide), g 16 (by decide) (by decide) (by decide), g 17 (by decide) (by decide) (by decide), g 18 (by decide) (by decide) (by decide), g 19 (by decide) (by decide) (by decide), g20, g21, g14, if_neg ne2, if_neg ne2]
    refine ⟨sAdd_t ne (by decide), sAdd_t ne (by decide), sAdd_t ne (by decide), sAdd_t ne (by decide), sAdd_t ne (by decide), sAdd_t ne (by decide), sAdd_t ne (by decide), fun q => ?_⟩
    by_cases e : t = o
    · rw [if_pos e] at q; exact absurd q (by decide)
    · rw [if_neg e, sAdd_t ne (by decide)] at q; exact q) (by rw [N1, g 15 (by decide) (by decide) (by decide)]; exact a15.trans b1) b2 (by rw [N1, g 16 (by decide) (by decide) (by decide)]; exact a16.trans b3) (by rw [up_same]; exact Int32.le_trans b4 hm.1) b5 (by rw [N1, g20, if_pos rfl]; exact b6) (by rw [np]; exact b7) (by rw [N1, g 17 (by decide) (by decide) (by decide)]; exact a17.trans (o4.symm.trans b8)) b9 (by rw [N1, g 19 (by decide) (by decide) (by decide), a19]; exact ⟨fun q => by omega, fun q => absurd rfl q⟩) (by rw [N1, g 18 (by decide) (by decide) (by decide), a18]; exact b11) (by rw [N1, g21, if_pos rfl]; exact ⟨b12, b13⟩) (fun _ t q1 q2 q3 q4 => by
      have ne : ¬ t = nT (up S 2 0 m) + 1 := by omega
      rw [g14] at q3
      rw [upf (by decide)] at q4
      by_cases e : t = o
      · rw [if_pos e] at q3; exact absurd q3 (by decide)
      · rw [if_neg e, sAdd_t ne (by decide), upf (by decide)] at q3
        rw [N1] at q2
        exact e (h.uq p t o (Int32.lt_of_lt_of_le (by decide) hp.1) ⟨q1, q2, q3, by rw [q4, ← b8]; exact o4⟩ ⟨o1, o2, o3, o4⟩))
  refine Inv.tks (S := up S 2 0 m) (n := n) h1 (fun f hf => ?_) t1 (by rw [t2]; omega)
  rw [g f (by omega) (by omega) (by omega)]; exact sAdd_o hf
end ID
