/-! ===== it stays true: tariff, tickets ===== -/
section IC
variable {S S' : SS} {n : Nat}
theorem iLat.c (h : iLat S) (e : S' 2 = S 2) : iLat S' := by unfold iLat at *; rw [e]; exact h
theorem iPrd.c (h : iPrd S) (e : S' 5 = S 5 ∧ S' 6 = S 6 ∧ S' 7 = S 7 ∧ S' 9 = S 9 ∧ S' 10 = S 10) : iPrd S' := by
  obtain ⟨a, b, c, d, f⟩ := e
  unfold iPrd at *; rw [a, b, c, d, f]; exact h
theorem iFre.c (h : iFre S) (e : S' 4 = S 4) : iFre S' := by unfold iFre at *; rw [e]; exact h
theorem iOpn.c (h : iOpn S) (e1 : S' 1 = S 1) (e : eqT S S') (e11 : S' 11 = S 11) (e12 : S' 12 = S 12) : iOpn S' := by
  intro ho
  rw [e1] at ho
  obtain ⟨o1, o2, o3⟩ := h ho
  refine ⟨?_, ?_, o3.congr e e12⟩
  · obtain ⟨s4, s5, s6, s7, s8, s9, s10⟩ := e
    unfold opP inZ at *; rw [s5, s8, s9, s10]; exact o1
  · obtain ⟨s4, s5, s6, s7, s8, s9, s10⟩ := e
    unfold bkOK at *; rw [s5, s9, s10, e11]; exact o2
theorem iTk.c (h : iTk S) (e2 : S' 2 = S 2) (e : S' 13 = S 13 ∧ S' 14 = S 14 ∧ S' 15 = S 15 ∧ S' 16 = S 16 ∧ S' 17 = S 17 ∧ S' 18 = S 18 ∧ S' 19 = S 19 ∧ S' 20 = S 20 ∧ S' 21 = S 21) (e38 : S' 38 = S 38) : iTk S' := by
  obtain ⟨e13, e14, e15, e16, e17, e18, e19, e20, e21⟩ := e
  unfold iTk okT uqI IsIn nT nP at *
  rw [e2, e13, e14, e15, e16, e17, e18, e19, e20, e21, e38]; exact h
theorem iCon.c (h : iCon S) (e : S' 23 = S 23 ∧ S' 26 = S 26 ∧ S' 27 = S 27) : iCon S' := by
  obtain ⟨a, b, c⟩ := e
  unfold iCon okC noC uqC InC dsC at *; rw [a, b, c]; exact h
theorem iRes.c (h : iRes S) (e1 : S' 1 = S 1) (e3 : S' 3 = S 3) (e : S' 28 = S 28 ∧ S' 29 = S 29 ∧ S' 30 = S 30 ∧ S' 31 = S 31) : iRes S' := by
  obtain ⟨a, b, c, d⟩ := e
  have er : ∀ z m, runP S' z m = runP S z m := fun z m => by funext r; unfold runP; rw [a, b, c, d]
  unfold iRes runOK at *
  rw [e1, e3, a]
  simp only [er]
  exact h
theorem iMc.c {q : Nat} (h : iMc S q) (e13 : S' 13 = S 13) (e : S' 32 = S 32 ∧ S' 33 = S 33 ∧ S' 34 = S 34 ∧ S' 35 = S 35 ∧ S' 36 = S 36) : iMc S' q := by
  obtain ⟨a, b, c, d, f⟩ := e
  unfold iMc nT at *; rw [e13, a, b, c, d, f]; exact h
theorem iPay.c (h : iPay S n) (e38 : S' 38 = S 38) (e32 : S' 32 = S 32) (e36 : S' 36 = S 36) : iPay S' (n + 1) := by
  unfold iPay potS coinsS nP at *
  rw [e38, e32, e36]
  exact ⟨h.1, Nat.le_succ_of_le h.2⟩
/-- nothing changed but what no one looks at -/
theorem Inv.next (h : Inv S n) : Inv S (n + 1) := by
  obtain ⟨h1, h2, h3, h4, h5, h6, h7, h8, h9⟩ := h
  exact ⟨h1, h2, h3, h4, h5, h6, h7, h8, h9.c rfl rfl rfl⟩
theorem Inv.places (h : Inv S n) (ho : S 1 0 = 0) {z : Nat} {v : Int32} (hv : 1 ≤ v ∧ v ≤ 40) : Inv (up S 3 z v) (n + 1) := by
  obtain ⟨h1, h2, h3, h4, h5, h6, h7, h8, h9⟩ := h
  have f : ∀ g, ¬ 3 = g → up S 3 z v g = S g := fun g hg => upf hg
  refine ⟨h1.c (f 2 (by decide)), h2.c ⟨f 5 (by decide), f 6 (by decide), f 7 (by decide), f 9 (by decide), f 10 (by decide)⟩, h3.c (f 4 (by decide)), fun q => absurd ho (by rw [f 1 (by decide)] at q; exact q), h5.c (f 2 (by decide)) ⟨f 13 (by decide), f 14 (by decide), f 15 (by decide), f 16 (by decide), f 17 (by decide), f 18 (by decide), f 19 (by decide), f 20 (by decide), f 21 (by decide)⟩ (f 38 (by decide)), h6.c ⟨f 23 (by decide), f 26 (by decide), f 27 (by decide)⟩, ⟨fun y hy => ?_, ?_, ?_⟩, fun q hq => (h8 q hq).c (f 13 (by decide)) ⟨f 32 (by decide), f 33 (by decide), f 34 (by decide), f 35 (by decide), f 36 (by decide)⟩, h9.c (f 38 (by decide)) (f 32 (by decide)) (f 36 (by decide))⟩
  · have nr : ∀ m, cntN (runP (up S 3 z v) (nI y) m) 0 30 = 0 := fun m => by
      rcases Nat.eq_zero_or_pos (cntN (runP (up S 3 z v) (nI y) m) 0 30) with q | q
      · exact q
      · obtain ⟨j, _, j2, j3⟩ := cntN_pos 30 0 q
        have j4 := j3.1
        rw [f 28 (by decide)] at j4
        exact absurd (h7.2.2 ho j (by omega)) j4
    by_cases e : y = z
    · subst e
      have hc := nI_cl (n := 40) (by omega) (Int32.le_trans (by decide) hv.1) hv.2
      refine ⟨v.toNatClampNeg, ?_, hc.1, by rw [up_same]; exact hc.2, fun m => by rw [nr m]; omega⟩
      rcases Nat.eq_zero_or_pos v.toNatClampNeg with q | q
      · have h9 := hv.1
        rw [hc.2, q] at h9
        exact absurd h9 (by decide)
      · exact q
    · obtain ⟨k, k1, k2, k3, k4⟩ := h7.1 y hy
      exact ⟨k, k1, k2, by rw [up_ne _ _ (Or.inr e)]; exact k3, fun m => by rw [nr m]; omega⟩
  · rw [f 28 (by decide)]; exact h7.2.1
  · rw [f 28 (by decide), f 1 (by decide)]; exact h7.2.2
theorem Inv.free (h : Inv S n) (ho : S 1 0 = 0) {z : Nat} {v : Int32} (hv : 0 ≤ v ∧ v ≤ 120) : Inv (up S 4 z v) (n + 1) := by
  obtain ⟨h1, h2, h3, h4, h5, h6, h7, h8, h9⟩ := h
  have f : ∀ g, ¬ 4 = g → up S 4 z v g = S g := fun g hg => upf hg
  refine ⟨h1.c (f 2 (by decide)), h2.c ⟨f 5 (by decide), f 6 (by decide), f 7 (by decide), f 9 (by decide), f 10 (by decide)⟩, fun y hy => ?_, fun q => absurd ho (by rw [f 1 (by decide)] at q; exact q), h5.c (f 2 (by decide)) ⟨f 13 (by decide), f 14 (by decide), f 15 (by decide), f 16 (by decide), f 17 (by decide), f 18 (by decide), f 19 (by decide), f 20 (by decide), f 21 (by decide)⟩ (f 38 (by decide)), h6.c ⟨f 23 (by decide), f 26 (by decide), f 27 (by decide)⟩, h7.c (f 1 (by decide)) (f 3 (by decide)) ⟨f 28 (by decide), f 29 (by decide), f 30 (by decide), f 31 (by decide)⟩, fun q hq => (h8 q hq).c (f 13 (by decide)) ⟨f 32 (by decide), f 33 (by decide), f 34 (by decide), f 35 (by decide), f 36 (by decide)⟩, h9.c (f 38 (by decide)) (f 32 (by decide)) (f 36 (by decide))⟩
  by_cases e : y = z
  · subst e
    have hc := nI_cl (n := 120) (by omega) hv.1 hv.2
    exact ⟨v.toNatClampNeg, hc.1, by rw [up_same]; exact hc.2⟩
  · rw [up_ne _ _ (Or.inr e)]; exact h3 y hy
/-- the rest of the state, where the tariff alone changes -/
theorem Inv.tar (h : Inv S n) (ho : S 1 0 = 0) (hS : ∀ f, f < 5 ∨ 10 < f → S' f = S f) (hp : iPrd S') : Inv S' (n + 1) := by
  obtain ⟨h1, h2, h3, h4, h5, h6, h7, h8, h9⟩ := h
  have f : ∀ g, g < 5 ∨ 10 < g → S' g = S g := hS
  exact ⟨h1.c (f 2 (by omega)), hp, h3.c (f 4 (by omega)), fun q => absurd ho (by rw [f 1 (by omega)] at q; exact q), h5.c (f 2 (by omega)) ⟨f 13 (by omega), f 14 (by omega), f 15 (by omega), f 16 (by omega), f 17 (by omega), f 18 (by omega), f 19 (by omega), f 20 (by omega), f 21 (by omega)⟩ (f 38 (by omega)), h6.c ⟨f 23 (by omega), f 26 (by omega), f 27 (by omega)⟩, h7.c (f 1 (by omega)) (f 3 (by omega)) ⟨f 28 (by omega), f 29 (by omega), f 30 (by omega), f 31 (by omega)⟩, fun q hq => (h8 q hq).c (f 13 (by omega)) ⟨f 32 (by omega), f 33 (by omega), f 34 (by omega), f 35 (by omega), f 36 (by omega)⟩, h9.c (f 38 (by omega)) (f 32 (by omega)) (f 36 (by omega))⟩
theorem Inv.hours (h : Inv S n) (ho : S 1 0 = 0) {i : Nat} {x y : Int32} (hx : 0 ≤ x ∧ x ≤ 168) (hy : 0 ≤ y ∧ y ≤ 168) : Inv (up (up S 9 i x) 10 i y) (n + 1) := by
  refine h.tar ho (fun f hf => by rw [upf (by omega), upf (by omega)]) (fun p hp hs => ?_)
  have f : ∀ g, ¬ 9 = g → ¬ 10 = g → up (up S 9 i x) 10 i y g = S g := fun g a c => by rw [upf c, upf a]
  rw [f 5 (by decide) (by decide)] at hs
  obtain ⟨c, l, f', t, a1, a2, a3, a4, a5, a6, a7, a8, a9⟩ := h.2.1 p hp hs
  have xc := nI_cl (n := 168) (by omega) hx.1 hx.2
  have yc := nI_cl (n := 168) (by omega) hy.1 hy.2
  have e9 : up (up S 9 i x) 10 i y 9 p = if p = i then x else S 9 p := by rw [upf (by decide), up_e]; simp
  have e10 : up (up S 9 i x) 10 i y 10 p = if p = i then y else S 10 p := by rw [up_e, upf (by decide)]; simp
  rw [f 6 (by decide) (by decide), f 7 (by decide) (by decide), e9, e10]
  by_cases e : p = i
  · rw [if_pos e, if_pos e]
    exact ⟨c, l, _, _, a1, a2, a3, a4, a5, xc.1, yc.1, xc.2, yc.2⟩
  · rw [if_neg e, if_neg e]
    exact ⟨c, l, f', t, a1, a2, a3, a4, a5, a6, a7, a8, a9⟩
theorem Inv.product (h : Inv S n) (ho : S 1 0 = 0) {i : Nat} {p l z : Int32} (hp : (0 ≤ p ∧ p ≤ 20000) ∧ p - p / 5 * 5 = 0) (hl : 15 ≤ l ∧ l ≤ 4320) : Inv (sProduct S i p l z) (n + 1) := by
  refine h.tar ho (fun f hf => by unfold sProduct; rw [upf (by omega), upf (by omega), upf (by omega), upf (by omega), upf (by omega), upf (by omega)]) (fun j hj hs => ?_)
  have e5 : sProduct S i p l z 5 j = if j = i then 1 else S 5 j := by unfold sProduct; simp [up_e]
  have e6 : sProduct S i p l z 6 j = if j = i then p else S 6 j := by unfold sProduct; simp [up_e]
  have e7 : sProduct S i p l z 7 j = if j = i then l else S 7 j := by unfold sProduct; simp [up_e]
  have e9 : sProduct S i p l z 9 j = if j = i then 0 else S 9 j := by unfold sProduct; simp [up_e]
  have e10 : sProduct S i p l z 10 j = if j = i then 168 else S 10 j := by unfold sProduct; simp [up_e]
  rw [e5] at hs
  rw [e6, e7, e9, e10]
  by_cases e : j = i
  · simp only [e, if_true]
    obtain ⟨P, p1, rfl⟩ := nI_ex 20000 (by omega) hp.1.1 hp.1.2
    have lc := nI_cl (n := 4320) (by omega) (Int32.le_trans (by decide) hl.1) hl.2
    have h2 := hp.2
    rw [show (5 : Int32) = nI 5 from rfl, nI_rem (by omega) (by omega)] at h2
    have m0 : P % 5 = 0 := by
      rcases Nat.eq_zero_or_pos (P % 5) with q | q
      · exact q
      · exact absurd h2 (nI_ne0 q (by omega))
    have l15 : 15 ≤ l.toNatClampNeg := by
      have h9 := hl.1
      rw [lc.2, show (15 : Int32) = nI 15 from rfl] at h9
      exact (nI_leI (by omega) (by omega)).mp h9
    exact ⟨P / 5, _, 0, 168, by omega, by congr 1; omega, l15, lc.1, lc.2, by omega, by omega, rfl, rfl⟩
  · simp only [e, if_false] at hs ⊢
    exact h.2.1 j hj hs
theorem Inv.opn (h : Inv S n) (ho : opP S) (hS : ∀ f, ¬ f = 11 → ¬ f = 12 → S' f = up S 1 0 1 f) (hb : bkOK S') (hw : whOK S') (hr : S 1 0 = 0) : Inv S' (n + 1) := by
  obtain ⟨h1, h2, h3, h4, h5, h6, h7, h8, h9⟩ := h
  have f : ∀ g, ¬ g = 1 → ¬ g = 11 → ¬ g = 12 → S' g = S g := fun g a c d => by rw [hS g c d, upf (Ne.symm a)]
  refine ⟨h1.c (f 2 (by decide) (by decide) (by decide)), h2.c ⟨f 5 (by decide) (by decide) (by decide), f 6 (by decide) (by decide) (by decide), f 7 (by decide) (by decide) (by decide), f 9 (by decide) (by decide) (by decide), f 10 (by decide) (by decide) (by decide)⟩, h3.c (f 4 (by decide) (by decide) (by decide)), fun _ => ⟨?_, hb, hw⟩, h5.c (f 2 (by decide) (by decide) (by decide)) ⟨f 13 (by decide) (by decide) (by decide), f 14 (by decide) (by decide) (by decide), f 15 (by decide) (by decide) (by decide), f 16 (by decide) (by decide) (by decide), f 17 (by decide) (by decide) (by decide), f 18 (by decide) (by decide) (by decide), f 19 (by decide) (by decide) (by decide), f 20 (by decide) (by decide) (by decide), f 21 (by decide) (by decide) (by decide)⟩ (f 38 (by decide) (by decide) (by decide)), h6.c ⟨f 23 (by decide) (by decide) (by decide), f 26 (by decide) (by decide) (by decide), f 27 (by decide) (by decide) (by decide)⟩, ?_, fun q hq => (h8 q hq).c (f 13 (by decide) (by decide) (by decide)) ⟨f 32 (by decide) (by decide) (by decide), f 33 (by decide) (by decide) (by decide), f 34 (by decide) (by decide) (by decide), f 35 (by decide) (by decide) (by decide), f 36 (by decide) (by decide) (by decide)⟩, h9.c (f 38 (by decide) (by decide) (by decide)) (f 32 (by decide) (by decide) (by decide)) (f 36 (by decide) (by decide) (by decide))⟩
  · unfold opP inZ at *
    rw [f 5 (by decide) (by decide) (by decide), f 8 (by decide) (by decide) (by decide), f 9 (by decide) (by decide) (by decide), f 10 (by decide) (by decide) (by decide)]; exact ho
  · have e28 := f 28 (by decide) (by decide) (by decide)
    have er : ∀ z m, runP S' z m = runP S z m := fun z m => by funext r; unfold runP; rw [e28, f 29 (by decide) (by decide) (by decide), f 30 (by decide) (by decide) (by decide), f 31 (by decide) (by decide) (by decide)]
    refine ⟨?_, by rw [e28]; exact h7.2.1, fun q => ?_⟩
    · unfold runOK at *
      rw [f 3 (by decide) (by decide) (by decide)]
      simp only [er]
      exact h7.1
    · rw [hS 1 (by decide) (by decide), up_same] at q
      exact absurd q (by decide)
/-- the clock goes on -/
theorem Inv.late (h : Inv S n) {m : Int32} (hm : S 2 0 ≤ m ∧ m ≤ 200000) : Inv (up S 2 0 m) (n + 1) := by
  have hl := h.lat
  obtain ⟨h1, h2, h3, h4, h5, h6, h7, h8, h9⟩ := h
  have f : ∀ g, ¬ 2 = g → up S 2 0 m g = S g := fun g hg => upf hg
  have mc := nI_cl (n := 200000) (by omega) (Int32.le_trans hl hm.1) hm.2
  refine ⟨⟨m.toNatClampNeg, mc.1, by rw [up_same]; exact mc.2⟩, h2.c ⟨f 5 (by decide), f 6 (by decide), f 7 (by decide), f 9 (by decide), f 10 (by decide)⟩, h3.c (f 4 (by decide)), h4.c (f 1 (by decide)) ⟨f 4 (by decide), f 5 (by decide), f 6 (by decide), f 7 (by decide), f 8 (by decide), f 9 (by decide), f 10 (by decide)⟩ (f 11 (by decide)) (f 12 (by decide)), ?_, h6.c ⟨f 23 (by decide), f 26 (by decide), f 27 (by decide)⟩, h7.c (f 1 (by decide)) (f 3 (by decide)) ⟨f 28 (by decide), f 29 (by decide), f 30 (by decide), f 31 (by decide)⟩, fun q hq => (h8 q hq).c (f 13 (by decide)) ⟨f 32 (by decide), f 33 (by decide), f 34 (by decide), f 35 (by decide), f 36 (by decide)⟩, h9.c (f 38 (by decide)) (f 32 (by decide)) (f 36 (by decide))⟩
  unfold iTk okT uqI IsIn nT nP at *
  rw [f 13 (by decide), f 14 (by decide), f 15 (by decide), f 16 (by decide), f 17 (by decide), f 18 (by decide), f 19 (by decide), f 20 (by decide), f 21 (by decide), f 38 (by decide), up_same]
  refine ⟨h5.1, h5.2.1, fun t t1 t2 => ?_⟩
  obtain ⟨z, a, p, pl, a1, a2, a3, a4, a5⟩ := h5.2.2 t t1 t2
  exact ⟨z, a, p, pl, a1, a2, a3, Int32.le_trans a4 hm.1, a5⟩
/-- the model's memo of whole pieces -/
theorem Inv.m12 (h : Inv S n) (e : eq12 S S') (hw : whOK S') : Inv S' n := by
  obtain ⟨h1, h2, h3, h4, h5, h6, h7, h8, h9⟩ := h
  have f : ∀ g, ¬ g = 12 → S' g = S g := e
  refine ⟨h1.c (f 2 (by decide)), h2.c ⟨f 5 (by decide), f 6 (by decide), f 7 (by decide), f 9 (by decide), f 10 (by decide)⟩, h3.c (f 4 (by decide)), fun ho => ?_, h5.c (f 2 (by decide)) ⟨f 13 (by decide), f 14 (by decide), f 15 (by decide), f 16 (by decide), f 17 (by decide), f 18 (by decide), f 19 (by decide), f 20 (by decide), f 21 (by decide)⟩ (f 38 (by decide)), h6.c ⟨f 23 (by decide), f 26 (by decide), f 27 (by decide)⟩, h7.c (f 1 (by decide)) (f 3 (by decide)) ⟨f 28 (by decide), f 29 (by decide), f 30 (by decide), f 31 (by decide)⟩, fun q hq => (h8 q hq).c (f 13 (by decide)) ⟨f 32 (by decide), f 33 (by decide), f 34 (by decide), f 35 (by decide), f 36 (by decide)⟩, ?_⟩
  · rw [f 1 (by decide)] at ho
    obtain ⟨o1, o2, o3⟩ := h4 ho
    refine ⟨?_, ?_, hw⟩
    · unfold opP inZ at *; rw [f 5 (by decide), f 8 (by decide), f 9 (by decide), f 10 (by decide)]; exact o1
    · unfold bkOK at *; rw [f 5 (by decide), f 9 (by decide), f 10 (by decide), f 11 (by decide)]; exact o2
  · unfold iPay potS coinsS nP at *
    rw [f 38 (by decide), f 32 (by decide), f 36 (by decide)]; exact h9
end IC
