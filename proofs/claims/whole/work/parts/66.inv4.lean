/-! ===== it stays true: contracts, reservations ===== -/
section IE
variable {S S' : SS} {n : Nat}
theorem run_le {z k : Nat} (hz : z < 4) (hk : S 3 z = nI k) (k2 : k ≤ 40) (hm : ¬ tooMuch S (nI z)) (m : Int32) : cntN (runP S (nI z) m) 0 30 ≤ k := Nat.not_lt.mp (fun q => hm ((much_iff hz hk k2).mpr ⟨m, q⟩))
theorem cnt_other {i : Nat} {z w x y : Int32} (hi : i < 30) (h28 : S 28 i = 0) (m : Int32) (e : ¬ z = w) : cntN (runP (sRes S i z x y) w m) 0 30 = cntN (runP S w m) 0 30 := by
  have := cnt_res (x := x) (y := y) (z := z) hi h28 m w
  rw [if_neg (fun q => e q.1), Nat.add_zero] at this
  exact this
theorem Inv.con (h : Inv S n) (hS : ∀ f, f < 23 ∨ 27 < f → S' f = S f) (hc : iCon S') : Inv S' (n + 1) := by
  obtain ⟨h1, h2, h3, h4, h5, h6, h7, h8, h9⟩ := h
  have f : ∀ g, g < 23 ∨ 27 < g → S' g = S g := hS
  exact ⟨h1.c (f 2 (by omega)), h2.c ⟨f 5 (by omega), f 6 (by omega), f 7 (by omega), f 9 (by omega), f 10 (by omega)⟩, h3.c (f 4 (by omega)), h4.c (f 1 (by omega)) ⟨f 4 (by omega), f 5 (by omega), f 6 (by omega), f 7 (by omega), f 8 (by omega), f 9 (by omega), f 10 (by omega)⟩ (f 11 (by omega)) (f 12 (by omega)), h5.c (f 2 (by omega)) ⟨f 13 (by omega), f 14 (by omega), f 15 (by omega), f 16 (by omega), f 17 (by omega), f 18 (by omega), f 19 (by omega), f 20 (by omega), f 21 (by omega)⟩ (f 38 (by omega)), hc, h7.c (f 1 (by omega)) (f 3 (by omega)) ⟨f 28 (by omega), f 29 (by omega), f 30 (by omega), f 31 (by omega)⟩, fun q hq => (h8 q hq).c (f 13 (by omega)) ⟨f 32 (by omega), f 33 (by omega), f 34 (by omega), f 35 (by omega), f 36 (by omega)⟩, h9.c (f 38 (by omega)) (f 32 (by omega)) (f 36 (by omega))⟩
theorem Inv.contract (h : Inv S n) {c : Nat} {z k : Int32} : Inv (sContract S c z k) (n + 1) := by
  refine h.con (fun f hf => by unfold sContract; rw [upf (by omega), upf (by omega), upf (by omega)]) ?_
  obtain ⟨a1, a2, a3, a4, a5⟩ := h.2.2.2.2.2.1
  have f26 : sContract S c z k 26 = S 26 := by unfold sContract; rw [upf (by decide), upf (by decide), upf (by decide)]
  have f27 : sContract S c z k 27 = S 27 := by unfold sContract; rw [upf (by decide), upf (by decide), upf (by decide)]
  have f23 : ∀ d, sContract S c z k 23 d = if d = c then 1 else S 23 d := fun d => by unfold sContract; rw [upf (by decide), upf (by decide), up_e]; simp
  refine ⟨?_, fun d hd q => ?_, ?_, ?_, fun d hd => ?_⟩
  · unfold okC at *; rw [f26]; exact a1
  · rw [f23] at q
    rw [f26]
    by_cases e : d = c
    · rw [if_pos e] at q; exact absurd q (by decide)
    · rw [if_neg e] at q; exact a2 d hd q
  · unfold uqC InC at *; rw [f26, f27]; exact a3
  · unfold dsC at *; rw [f26, f27]; exact a4
  · rw [f23]
    by_cases e : d = c
    · rw [if_pos e]; exact Or.inr rfl
    · rw [if_neg e]; exact a5 d hd
theorem Inv.plate (h : Inv S n) {c : Nat} {p : Int32} (hc : c < 20) (h23 : ¬ S 23 c = 0) (h12 : S 26 c < 12) (hn : ∀ d, d < 20 → ¬ InC S p d) : Inv (sPlate S c p) (n + 1) := by
  refine h.con (fun f hf => by unfold sPlate; rw [upf (by omega), upf (by omega)]) ?_
  obtain ⟨a1, a2, a3, a4, a5⟩ := h.2.2.2.2.2.1
  obtain ⟨n1, n2⟩ := a1 c hc
  have l12 : (S 26 c).toNatClampNeg < 12 := by
    rw [n1, show (12 : Int32) = nI 12 from rfl] at h12
    exact (nI_ltI (by omega) (by omega)).mp h12
  have f23 : sPlate S c p 23 = S 23 := by unfold sPlate; rw [upf (by decide), upf (by decide)]
  have k26 : ∀ d, (sPlate S c p 26 d).toNatClampNeg = if d = c then (S 26 c).toNatClampNeg + 1 else (S 26 d).toNatClampNeg := fun d => by
    rw [sPlate_26]
    by_cases e : d = c
    · rw [if_pos e, if_pos e, n1, nI_1, nI_clamp (by omega), nI_clamp (by omega)]
    · rw [if_neg e, if_neg e]
  have k27 : ∀ d, d < 20 → ∀ k, k < (S 26 d).toNatClampNeg → sPlate S c p 27 (12 * d + k) = S 27 (12 * d + k) := fun d hd k hk => by
    rw [sPlate_27, if_neg]
    intro q
    have := (a1 d hd).2
    have e : d = c := by omega
    subst e
    omega
  have kn : sPlate S c p 27 (12 * c + (S 26 c).toNatClampNeg) = p := by rw [sPlate_27, if_pos rfl]
  have inc : ∀ q d, d < 20 → InC (sPlate S c p) q d → InC S q d ∨ (d = c ∧ q = p) := by
    intro q d hd ⟨k, hk, hv⟩
    rw [k26] at hk
    by_cases e : d = c
    · rw [if_pos e] at hk
      by_cases e2 : k = (S 26 c).toNatClampNeg
      · rw [e, e2, kn] at hv
        exact Or.inr ⟨e, hv.symm⟩
      · rw [k27 d hd k (by rw [e]; omega)] at hv
        exact Or.inl ⟨k, by rw [e]; omega, hv⟩
    · rw [if_neg e] at hk
      rw [k27 d hd k hk] at hv
      exact Or.inl ⟨k, hk, hv⟩
  refine ⟨fun d hd => ?_, fun d hd q => ?_, fun q d e hd he h1 h2 => ?_, fun d hd i j hi hj hv => ?_, fun d hd => by rw [f23]; exact a5 d hd⟩
  · rw [k26, sPlate_26]
    by_cases e : d = c
    · rw [if_pos e, if_pos e]
      exact ⟨by rw [n1, nI_1, nI_clamp (by omega)], by omega⟩
    · rw [if_neg e, if_neg e]; exact a1 d hd
  · rw [f23] at q
    rw [sPlate_26, if_neg (fun e => by rw [e] at q; exact h23 q)]
    exact a2 d hd q
  · rcases inc q d hd h1 with g1 | ⟨g1, g2⟩
    · rcases inc q e he h2 with g3 | ⟨g3, g4⟩
      · exact a3 q d e hd he g1 g3
      · rw [g4] at g1; exact absurd g1 (hn d hd)
    · rcases inc q e he h2 with g3 | ⟨g3, g4⟩
      · rw [g2] at g3; exact absurd g3 (hn e he)
      · omega
  · rw [k26] at hi hj
    by_cases e : d = c
    · subst e
      rw [if_pos rfl] at hi hj
      by_cases e1 : i = (S 26 d).toNatClampNeg
      · by_cases e2 : j = (S 26 d).toNatClampNeg
        · omega
        · rw [e1, kn, k27 d hd j (by omega)] at hv
          exact absurd ⟨j, by omega, hv.symm⟩ (hn d hd)
      · by_cases e2 : j = (S 26 d).toNatClampNeg
        · rw [e2, kn, k27 d hd i (by omega)] at hv
          exact absurd ⟨i, by omega, hv⟩ (hn d hd)
        · rw [k27 d hd i (by omega), k27 d hd j (by omega)] at hv
          exact a4 d hd i j (by omega) (by omega) hv
    · rw [if_neg e] at hi hj
      rw [k27 d hd i hi, k27 d hd j hj] at hv
      exact a4 d hd i j hi hj hv
theorem Inv.drop (h : Inv S n) {c : Nat} {p : Int32} (hc : c < 20) (hi : InC S p c) : Inv (sDrop S c p) (n + 1) := by
  obtain ⟨a1, a2, a3, a4, a5⟩ := h.2.2.2.2.2.1
  obtain ⟨n1, n2⟩ := a1 c hc
  obtain ⟨j0, j1, j2⟩ := hi
  obtain ⟨d1, d2, d3, d4⟩ := sDrop_e hc a4 n1 n2 j1 j2
  refine h.con (fun f hf => d4 f (by omega) (by omega)) ?_
  have f23 : sDrop S c p 23 = S 23 := d4 23 (by decide) (by decide)
  have k26 : ∀ d, (sDrop S c p 26 d).toNatClampNeg = if d = c then (S 26 c).toNatClampNeg - 1 else (S 26 d).toNatClampNeg := fun d => by
    rw [d1]
    by_cases e : d = c
    · rw [if_pos e, if_pos e, nI_clamp (by omega)]
    · rw [if_neg e, if_neg e]
  have k27 : ∀ d, d < 20 → ¬ d = c → ∀ k, k < (S 26 d).toNatClampNeg → sDrop S c p 27 (12 * d + k) = S 27 (12 * d + k) := fun d hd hne k hk => d3 _ (by have := (a1 d hd).2; omega)
  have mp : ∀ j, j < (S 26 c).toNatClampNeg - 1 → ∃ i, i < (S 26 c).toNatClampNeg ∧ (i = if j < j0 then j else j + 1) ∧ sDrop S c p 27 (12 * c + j) = S 27 (12 * c + i) := fun j hj => by
    refine ⟨if j < j0 then j else j + 1, by split <;> omega, rfl, ?_⟩
    rw [d2 j hj]
    split <;> rfl
  have inc : ∀ q d, d < 20 → InC (sDrop S c p) q d → InC S q d := by
    intro q d hd ⟨k, hk, hv⟩
    rw [k26] at hk
    by_cases e : d = c
    · subst e
      rw [if_pos rfl] at hk
      obtain ⟨i, i1, _, i3⟩ := mp k hk
      exact ⟨i, i1, by rw [← i3]; exact hv⟩
    · rw [if_neg e] at hk
      rw [k27 d hd e k hk] at hv
      exact ⟨k, hk, hv⟩
  refine ⟨fun d hd => ?_, fun d hd q => ?_, fun q d e hd he h1 h2 => a3 q d e hd he (inc q d hd h1) (inc q e he h2), fun d hd i j hi hj hv => ?_, fun d hd => by rw [f23]; exact a5 d hd⟩
  · rw [k26, d1]
    by_cases e : d = c
    · rw [if_pos e, if_pos e]; exact ⟨rfl, by omega⟩
    · rw [if_neg e, if_neg e]; exact a1 d hd
  · rw [f23] at q
    have := a2 d hd q
    rw [d1]
    by_cases e : d = c
    · exfalso
      subst e
      rw [this] at j1
      exact absurd j1 (Nat.not_lt_zero _)
    · rw [if_neg e]; exact this
  · rw [k26] at hi hj
    by_cases e : d = c
    · subst e
      rw [if_pos rfl] at hi hj
      obtain ⟨i', i1, i2, i3⟩ := mp i hi
      obtain ⟨j', j3, j4, j5⟩ := mp j hj
      rw [i3, j5] at hv
      have := a4 d hd i' j' i1 j3 hv
      split at i2 <;> split at j4 <;> omega
    · rw [if_neg e] at hi hj
      rw [k27 d hd e i hi, k27 d hd e j hj] at hv
      exact a4 d hd i j hi hj hv
theorem Inv.res (h : Inv S n) (hS : ∀ f, f < 28 ∨ 31 < f → S' f = S f) (hc : iRes S') : Inv S' (n + 1) := by
  obtain ⟨h1, h2, h3, h4, h5, h6, h7, h8, h9⟩ := h
  have f : ∀ g, g < 28 ∨ 31 < g → S' g = S g := hS
  exact ⟨h1.c (f 2 (by omega)), h2.c ⟨f 5 (by omega), f 6 (by omega), f 7 (by omega), f 9 (by omega), f 10 (by omega)⟩, h3.c (f 4 (by omega)), h4.c (f 1 (by omega)) ⟨f 4 (by omega), f 5 (by omega), f 6 (by omega), f 7 (by omega), f 8 (by omega), f 9 (by omega), f 10 (by omega)⟩ (f 11 (by omega)) (f 12 (by omega)), h5.c (f 2 (by omega)) ⟨f 13 (by omega), f 14 (by omega), f 15 (by omega), f 16 (by omega), f 17 (by omega), f 18 (by omega), f 19 (by omega), f 20 (by omega), f 21 (by omega)⟩ (f 38 (by omega)), h6.c ⟨f 23 (by omega), f 26 (by omega), f 27 (by omega)⟩, hc, fun q hq => (h8 q hq).c (f 13 (by omega)) ⟨f 32 (by omega), f 33 (by omega), f 34 (by omega), f 35 (by omega), f 36 (by omega)⟩, h9.c (f 38 (by omega)) (f 32 (by omega)) (f 36 (by omega))⟩
theorem Inv.cancel (h : Inv S n) {i : Nat} : Inv (up S 28 i 0) (n + 1) := by
  refine h.res (fun f hf => upf (by omega)) ?_
  obtain ⟨a1, a2, a3⟩ := h.2.2.2.2.2.2.1
  have e28 : ∀ r, up S 28 i 0 28 r = if r = i then 0 else S 28 r := fun r => by rw [up_e]; simp
  refine ⟨fun z hz => ?_, fun r hr => ?_, fun q r hr => ?_⟩
  · obtain ⟨k, k1, k2, k3, k4⟩ := a1 z hz
    refine ⟨k, k1, k2, by rw [upf (by decide)]; exact k3, fun m => Nat.le_trans (cntN_mono 30 0 (fun j _ _ hp => ?_)) (k4 m)⟩
    unfold runP at *
    rw [e28, upf (by decide), upf (by decide), upf (by decide)] at hp
    by_cases e : j = i
    · rw [if_pos e] at hp; exact absurd rfl hp.1
    · rw [if_neg e] at hp; exact hp
  · rw [e28]
    by_cases e : r = i
    · rw [if_pos e]; exact Or.inl rfl
    · rw [if_neg e]; exact a2 r hr
  · rw [upf (by decide)] at q
    rw [e28]
    by_cases e : r = i
    · rw [if_pos e]
    · rw [if_neg e]; exact a3 q r hr
theorem Inv.reserve (h : Inv S n) {i z : Nat} {x y : Int32} (hi : i < 30) (hz : z < 4) (h28 : S 28 i = 0) (ho : ¬ S 1 0 = 0) (hm : ¬ tooMuch (sRes S i (nI z) x y) (nI z)) : Inv (sRes S i (nI z) x y) (n + 1) := by
  refine h.res (fun f hf => by unfold sRes; rw [upf (by omega), upf (by omega), upf (by omega), upf (by omega)]) ?_
  obtain ⟨a1, a2, a3⟩ := h.2.2.2.2.2.2.1
  have e28 : ∀ r, sRes S i (nI z) x y 28 r = if r = i then 1 else S 28 r := fun r => by unfold sRes; rw [upf (by decide), upf (by decide), upf (by decide), up_e]; simp
  have e3 : sRes S i (nI z) x y 3 = S 3 := by unfold sRes; rw [upf (by decide), upf (by decide), upf (by decide), upf (by decide)]
  have e1 : sRes S i (nI z) x y 1 = S 1 := by unfold sRes; rw [upf (by decide), upf (by decide), upf (by decide), upf (by decide)]
  refine ⟨fun w hw => ?_, fun r hr => ?_, fun q => absurd q (by rw [e1]; exact ho)⟩
  · obtain ⟨k, k1, k2, k3, k4⟩ := a1 w hw
    refine ⟨k, k1, k2, by rw [e3]; exact k3, fun m => ?_⟩
    by_cases e : w = z
    · subst e
      exact run_le hw (by rw [e3]; exact k3) k2 hm m
    · exact Nat.le_trans (Nat.le_of_eq (cnt_other hi h28 m (fun q => e ((nI_eq (by omega) (by omega)).mp q).symm))) (k4 m)
  · rw [e28]
    by_cases e : r = i
    · rw [if_pos e]; exact Or.inr rfl
    · rw [if_neg e]; exact a2 r hr
theorem Inv.reserve0 (h : Inv S n) {i : Nat} {z x y : Int32} (h28 : S 28 i = 0) : Inv (up (sRes S i z x y) 28 i 0) (n + 1) := by
  refine h.res (fun f hf => by rw [upf (by omega)]; unfold sRes; rw [upf (by omega), upf (by omega), upf (by omega), upf (by omega)]) ?_
  obtain ⟨a1, a2, a3⟩ := h.2.2.2.2.2.2.1
  have e28 : ∀ r, up (sRes S i z x y) 28 i 0 28 r = if r = i then 0 else S 28 r := fun r => by
    unfold sRes; rw [up_e, upf (by decide), upf (by decide), upf (by decide), up_e]
    by_cases e : r = i
    · simp [e]
    · simp [e]
  have e3 : up (sRes S i z x y) 28 i 0 3 = S 3 := by unfold sRes; rw [upf (by decide), upf (by decide), upf (by decide), upf (by decide), upf (by decide)]
  have e1 : up (sRes S i z x y) 28 i 0 1 = S 1 := by unfold sRes; rw [upf (by decide), upf (by decide), upf (by decide), upf (by decide), upf (by decide)]
  have eo : ∀ f r, ¬ r = i → up (sRes S i z x y) 28 i 0 f r = S f r := fun f r e => by
    unfold sRes; simp only [up_e, e, and_false, if_false]
  refine ⟨fun w hw => ?_, fun r hr => ?_, fun q r hr => ?_⟩
  · obtain ⟨k, k1, k2, k3, k4⟩ := a1 w hw
    refine ⟨k, k1, k2, by rw [e3]; exact k3, fun m => Nat.le_trans (cntN_mono 30 0 (fun j _ _ hp => ?_)) (k4 m)⟩
    by_cases e : j = i
    · have := hp.1
      rw [e28, if_pos e] at this
      exact absurd rfl this
    · unfold runP at *
      rw [eo 28 j e, eo 29 j e, eo 30 j e, eo 31 j e] at hp
      exact hp
  · rw [e28]
    by_cases e : r = i
    · rw [if_pos e]; exact Or.inl rfl
    · rw [if_neg e]; exact a2 r hr
  · rw [e1] at q
    rw [e28]
    by_cases e : r = i
    · rw [if_pos e]
    · rw [if_neg e]; exact a3 q r hr
end IE
