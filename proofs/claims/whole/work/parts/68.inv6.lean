/-! ===== it stays true: payments ===== -/
theorem feN5 {S : SS} {n t m : Nat} (h : Inv S n) (ho : ¬ S 1 0 = 0) (h1 : 1 ≤ t) (h2 : t ≤ nT S) (hm : m ≤ 200000) : ∃ f, feN S t m = 5 * f ∧ 5 * f < 2 ^ 30 := by
  obtain ⟨z, a, p, pl, a1, a2, a3, a4, a5, a6, a7, _⟩ := h.2.2.2.2.1.2.2 t h1 h2
  obtain ⟨oT, oW⟩ := h.op ho
  unfold feN
  split
  · exact ⟨0, rfl, by omega⟩
  · rw [a1, nI_clamp (by omega)]
    have pb : (S 20 t).toNatClampNeg % 5 = 0 := by
      rw [a6]
      by_cases q : 5 * p < 2 ^ 31
      · rw [nI_clamp q]; omega
      · exfalso
        have := h.2.2.2.2.2.2.2.2.1
        have n9 : nP S < 2 ^ 31 := by
          unfold nP
          have := (S 38 0).toNatClampNeg_lt
          omega
        omega
    have nb : (if S 19 t = 0 then m - (S 16 t).toNatClampNeg else 4320) ≤ 200000 := by split <;> omega
    have cb := chg_le (a := (S 16 t).toNatClampNeg) oT.2.1 oT.1 a2 nb
    generalize chg S z (S 16 t).toNatClampNeg (if S 19 t = 0 then m - (S 16 t).toNatClampNeg else 4320) = c at *
    exact ⟨(c - (S 20 t).toNatClampNeg) / 5, by omega, by omega⟩
section IG
variable {S S' : SS} {n : Nat}
theorem Inv.payBegin (h : Inv S n) {q t f : Nat} {m : Int32} (hq : q < 3) (hm : S 2 0 ≤ m ∧ m ≤ 200000) (h1 : 1 ≤ t) (h2 : t ≤ nT S) (hb : S 32 q = 0) (hf : 5 * f < 2 ^ 30) : Inv (sPayB S t q m (nI (5 * f))) (n + 1) := by
  have L := h.lateN hm
  have hl := h.lat
  have mc := nI_cl (n := 200000) (by omega) (Int32.le_trans hl hm.1) hm.2
  have e : ∀ g, ¬ g = 22 → ¬ g = 32 → ¬ g = 33 → ¬ g = 34 → ¬ g = 36 → sPayB S t q m (nI (5 * f)) g = up S 2 0 m g := fun g c1 c2 c3 c4 c5 => by
    unfold sPayB; rw [zP_f (Ne.symm c5), upf (Ne.symm c4), upf (Ne.symm c3), upf (Ne.symm c1), upf (Ne.symm c2)]
  have g32 : ∀ r, sPayB S t q m (nI (5 * f)) 32 r = if r = q then nI t else S 32 r := fun r => by
    unfold sPayB; rw [zP_f (by decide), upf (by decide), upf (by decide), upf (by decide), up_e, upf (by decide)]; simp
  have g33 : ∀ r, sPayB S t q m (nI (5 * f)) 33 r = if r = q then nI (5 * f) else S 33 r := fun r => by
    unfold sPayB; rw [zP_f (by decide), upf (by decide), up_e, upf (by decide), upf (by decide), upf (by decide)]; simp
  have g34 : ∀ r, sPayB S t q m (nI (5 * f)) 34 r = if r = q then m else S 34 r := fun r => by
    unfold sPayB; rw [zP_f (by decide), up_e, upf (by decide), upf (by decide), upf (by decide), upf (by decide)]; simp
  have g36 : ∀ j, sPayB S t q m (nI (5 * f)) 36 j = if 6 * q ≤ j ∧ j < 6 * q + 6 then 0 else S 36 j := fun j => by
    unfold sPayB; rw [zP_e, upf (by decide), upf (by decide), upf (by decide), upf (by decide), upf (by decide)]; rfl
  have e13 : sPayB S t q m (nI (5 * f)) 13 = S 13 := by rw [e 13 (by decide) (by decide) (by decide) (by decide) (by decide), upf (by decide)]
  have e35 : sPayB S t q m (nI (5 * f)) 35 = S 35 := by rw [e 35 (by decide) (by decide) (by decide) (by decide) (by decide), upf (by decide)]
  have e38 : sPayB S t q m (nI (5 * f)) 38 = S 38 := by rw [e 38 (by decide) (by decide) (by decide) (by decide) (by decide), upf (by decide)]
  have o36 : ∀ r, ¬ r = q → ∀ j, j < 6 → sPayB S t q m (nI (5 * f)) 36 (6 * r + j) = S 36 (6 * r + j) := fun r hr j hj => by rw [g36, if_neg (fun y => by omega)]
  refine L.mch (fun g c1 c2 => e g c1 (by omega) (by omega) (by omega) (by omega)) (fun r hr => ?_) ?_
  · by_cases x : r = q
    · subst x
      obtain ⟨t', f', mm, c, bx, m1, m2, m3, m4, m5, m6, m7, m8, m9, m10⟩ := h.2.2.2.2.2.2.2.1 r hr
      refine ⟨t, f, m.toNatClampNeg, fun _ => 0, bx, by rw [g32, if_pos rfl], by unfold nT at *; rw [e13]; exact h2, by rw [g33, if_pos rfl], hf, by rw [g34, if_pos rfl]; exact mc.2, mc.1, fun k hk => by rw [g36, if_pos ⟨by omega, by omega⟩]; rfl, by rw [sm6]; omega, fun k hk => by rw [e35]; exact m9 k hk, fun _ k hk => Nat.zero_le _⟩
    · exact (h.2.2.2.2.2.2.2.1 r hr).o e13 ⟨by rw [g32, if_neg x], by rw [g33, if_neg x], by rw [g34, if_neg x]⟩ (fun j hj => by rw [e35]) (o36 r x)
  · refine (h.2.2.2.2.2.2.2.2).q hq e38 (fun r hr x => pot_o (by rw [g32, if_neg x]) (o36 r x)) ?_
    have p0 : potS S q = 0 := by unfold potS; rw [if_pos hb]
    have p1 : potS (sPayB S t q m (nI (5 * f))) q ≤ 1 := by
      have c0 : coinsS (sPayB S t q m (nI (5 * f))) q = 0 := by
        unfold coinsS
        exact sumI_z 6 0 (fun j _ hj => by rw [g36, if_pos ⟨by omega, by omega⟩])
      unfold potS
      rw [c0, if_pos rfl]
      split <;> omega
    omega
/-- machine q ends: x came out -/
theorem Inv.ends (h : Inv S n) {q : Nat} {x : Nat → Int32} (hq : q < 3) (hx : ∀ k, k < 6 → ∃ y b, x k = nI y ∧ S 35 (6 * q + k) = nI b ∧ b < 2 ^ 31 ∧ y ≤ b) {k : Nat} (hk : n ≤ potS S q + k) : Inv (eS S q x) k := by
  have g32 : ∀ r, eS S q x 32 r = if r = q then 0 else S 32 r := fun r => by unfold eS; rw [up_e, upf (by decide), eL_e 6 (by omega), if_neg (fun y => by omega), if_neg (fun y => by omega)]; simp
  have g35 : ∀ j, eS S q x 35 j = if 6 * q ≤ j ∧ j < 6 * q + 6 then S 35 j - x (j - 6 * q) else S 35 j := fun j => by
    unfold eS
    rw [upf (by decide), upf (by decide), eL_e 6 (by omega), if_neg (fun y => by omega)]
    by_cases c : 6 * q ≤ j ∧ j < 6 * q + 6
    · rw [if_pos ⟨rfl, by omega, c.2⟩, if_pos c]
    · rw [if_neg (fun y => c ⟨by omega, y.2.2⟩), if_neg c]
  have f : ∀ g, ¬ g = 22 → ¬ g = 32 → ¬ g = 35 → ¬ g = 37 → eS S q x g = S g := fun g c1 c2 c3 c4 => eS_f ⟨c1, c2, c3, c4⟩
  refine h.mch (fun g c1 c2 => f g c1 (by omega) (by omega) (by omega)) (fun r hr => ?_) ?_
  · by_cases e : r = q
    · subst e
      obtain ⟨t', f', mm, c, bx, m1, m2, m3, m4, m5, m6, m7, m8, m9, m10⟩ := h.2.2.2.2.2.2.2.1 r hr
      have ex : ∀ k, ∃ b', k < 6 → eS S r x 35 (6 * r + k) = nI b' ∧ b' ≤ 500 := fun k => by
        by_cases hk6 : k < 6
        · obtain ⟨y, b, y1, y2, y4, y3⟩ := hx k hk6
          obtain ⟨b1, b2⟩ := m9 k hk6
          refine ⟨bx k - y, fun _ => ?_⟩
          rw [g35, if_pos ⟨by omega, by omega⟩, show 6 * r + k - 6 * r = k by omega, y1, b1]
          have yb : y ≤ bx k := by
            rw [b1] at y2
            have hb31 : bx k < 2 ^ 31 := by omega
            have := (nI_eq hb31 y4).mp y2
            omega
          exact ⟨nI_subN yb, by omega⟩
        · exact ⟨0, fun q => absurd q hk6⟩
      refine ⟨0, f', mm, c, fun k => (ex k).choose, by rw [g32, if_pos rfl]; rfl, Nat.zero_le _, by rw [f 33 (by decide) (by decide) (by decide) (by decide)]; exact m3, m4, by rw [f 34 (by decide) (by decide) (by decide) (by decide)]; exact m5, m6, fun j hj => by rw [f 36 (by decide) (by decide) (by decide) (by decide)]; exact m7 j hj, m8, fun j hj => (ex j).choose_spec hj, fun y => absurd rfl y⟩
    · exact (h.2.2.2.2.2.2.2.1 r hr).o (f 13 (by decide) (by decide) (by decide) (by decide)) ⟨by rw [g32, if_neg e], by rw [f 33 (by decide) (by decide) (by decide) (by decide)], by rw [f 34 (by decide) (by decide) (by decide) (by decide)]⟩ (fun j hj => by rw [g35, if_neg (fun y => by omega)]) (fun j hj => by rw [f 36 (by decide) (by decide) (by decide) (by decide)])
  · refine (h.2.2.2.2.2.2.2.2).q hq (f 38 (by decide) (by decide) (by decide) (by decide)) (fun r hr e => pot_o (by rw [g32, if_neg e]) (fun j hj => by rw [f 36 (by decide) (by decide) (by decide) (by decide)])) ?_
    have p0 : potS (eS S q x) q = 0 := by unfold potS; rw [g32, if_pos rfl, if_pos rfl]
    omega
end IG
