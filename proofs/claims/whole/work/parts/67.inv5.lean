/-! ===== it stays true: machines ===== -/
section IFM
variable {S S' : SS} {n : Nat}
/-- the rest of the state, where machines (and who is paying) alone change -/
theorem Inv.mch (h : Inv S n) (hS : ∀ f, ¬ f = 22 → f < 32 ∨ 37 < f → S' f = S f) (hm : ∀ q, q < 3 → iMc S' q) {k : Nat} (hp : iPay S' k) : Inv S' k := by
  obtain ⟨h1, h2, h3, h4, h5, h6, h7, h8, h9⟩ := h
  have f : ∀ g, ¬ g = 22 → g < 32 ∨ 37 < g → S' g = S g := hS
  exact ⟨h1.c (f 2 (by decide) (by omega)), h2.c ⟨f 5 (by decide) (by omega), f 6 (by decide) (by omega), f 7 (by decide) (by omega), f 9 (by decide) (by omega), f 10 (by decide) (by omega)⟩, h3.c (f 4 (by decide) (by omega)), h4.c (f 1 (by decide) (by omega)) ⟨f 4 (by decide) (by omega), f 5 (by decide) (by omega), f 6 (by decide) (by omega), f 7 (by decide) (by omega), f 8 (by decide) (by omega), f 9 (by decide) (by omega), f 10 (by decide) (by omega)⟩ (f 11 (by decide) (by omega)) (f 12 (by decide) (by omega)), h5.c (f 2 (by decide) (by omega)) ⟨f 13 (by decide) (by omega), f 14 (by decide) (by omega), f 15 (by decide) (by omega), f 16 (by decide) (by omega), f 17 (by decide) (by omega), f 18 (by decide) (by omega), f 19 (by decide) (by omega), f 20 (by decide) (by omega), f 21 (by decide) (by omega)⟩ (f 38 (by decide) (by omega)), h6.c ⟨f 23 (by decide) (by omega), f 26 (by decide) (by omega), f 27 (by decide) (by omega)⟩, h7.c (f 1 (by decide) (by omega)) (f 3 (by decide) (by omega)) ⟨f 28 (by decide) (by omega), f 29 (by decide) (by omega), f 30 (by decide) (by omega), f 31 (by decide) (by omega)⟩, hm, hp⟩
/-- a machine that nothing happened to -/
theorem iMc.o {q : Nat} (h : iMc S q) (e13 : S' 13 = S 13) (e : S' 32 q = S 32 q ∧ S' 33 q = S 33 q ∧ S' 34 q = S 34 q) (e35 : ∀ k, k < 6 → S' 35 (6 * q + k) = S 35 (6 * q + k)) (e36 : ∀ k, k < 6 → S' 36 (6 * q + k) = S 36 (6 * q + k)) : iMc S' q := by
  obtain ⟨t, f, mm, c, bx, m1, m2, m3, m4, m5, m6, m7, m8, m9, m10⟩ := h
  refine ⟨t, f, mm, c, bx, e.1.trans m1, by unfold nT at *; rw [e13]; exact m2, e.2.1.trans m3, m4, e.2.2.trans m5, m6, fun k hk => (e36 k hk).trans (m7 k hk), m8, fun k hk => by rw [e35 k hk]; exact m9 k hk, m10⟩
theorem pot_o {q : Nat} (e32 : S' 32 q = S 32 q) (e36 : ∀ k, k < 6 → S' 36 (6 * q + k) = S 36 (6 * q + k)) : potS S' q = potS S q := by
  have : coinsS S' q = coinsS S q := by unfold coinsS; exact sumI_congr 6 0 (fun j _ hj => e36 j (by omega))
  unfold potS
  rw [e32, this]
/-- the calls that payments took, where machine q alone changes -/
theorem iPay.q {q k : Nat} (h : iPay S n) (hq : q < 3) (e38 : S' 38 = S 38) (ho : ∀ r, r < 3 → ¬ r = q → potS S' r = potS S r) (hk : potS S' q + n ≤ potS S q + k) : iPay S' k := by
  refine ⟨by unfold nP; rw [e38]; exact h.1, ?_⟩
  have h2 := h.2
  have np : nP S' = nP S := by unfold nP; rw [e38]
  rw [np]
  match q, hq with
  | 0, _ => have a := ho 1 (by omega) (by omega); have c := ho 2 (by omega) (by omega); omega
  | 1, _ => have a := ho 0 (by omega) (by omega); have c := ho 2 (by omega) (by omega); omega
  | 2, _ => have a := ho 0 (by omega) (by omega); have c := ho 1 (by omega) (by omega); omega
theorem pot_2 (S : SS) (q : Nat) : potS S q ≤ 2 := by unfold potS; split <;> (try split) <;> omega
theorem Inv.fill (h : Inv S n) {q k : Nat} {v : Int32} (hq : q < 3) (hk : k < 6) (hf : S 32 q = 0) (hv : 0 ≤ v ∧ v ≤ 500) : Inv (up S 35 (6 * q + k) v) (n + 1) := by
  have f : ∀ g, ¬ 35 = g → up S 35 (6 * q + k) v g = S g := fun g hg => upf hg
  refine h.mch (fun g _ hg => f g (by omega)) (fun r hr => ?_) ?_
  · by_cases e : r = q
    · subst e
      obtain ⟨t, f', mm, c, bx, m1, m2, m3, m4, m5, m6, m7, m8, m9, m10⟩ := h.2.2.2.2.2.2.2.1 r hr
      have t0 : t = 0 := by
        rw [m1] at hf
        have := h.tk.2
        rcases Nat.eq_zero_or_pos t with y | y
        · exact y
        · exact absurd hf (nI_ne0 y (by omega))
      have vc := nI_cl (n := 500) (by omega) hv.1 hv.2
      refine ⟨t, f', mm, c, fun j => if j = k then v.toNatClampNeg else bx j, by rw [f 32 (by decide)]; exact m1, by rw [nT_up (by decide)]; exact m2, by rw [f 33 (by decide)]; exact m3, m4, by rw [f 34 (by decide)]; exact m5, m6, fun j hj => by rw [f 36 (by decide)]; exact m7 j hj, m8, fun j hj => ?_, fun y => absurd t0 y⟩
      by_cases x : j = k
      · subst x; simp only [if_true]; rw [up_same]; exact ⟨vc.2, vc.1⟩
      · simp only [x, if_false]; rw [up_ne _ _ (Or.inr (by omega))]; exact m9 j hj
    · exact (h.2.2.2.2.2.2.2.1 r hr).o (f 13 (by decide)) ⟨by rw [f 32 (by decide)], by rw [f 33 (by decide)], by rw [f 34 (by decide)]⟩ (fun j hj => up_ne _ _ (Or.inr (by omega))) (fun j hj => by rw [f 36 (by decide)])
  · exact (h.2.2.2.2.2.2.2.2).c (f 38 (by decide)) (f 32 (by decide)) (f 36 (by decide))
theorem Inv.coin (h : Inv S n) {q k : Nat} (hq : q < 3) (hk : k < 6) (hb : ¬ S 32 q = 0) (h5 : ¬ S 35 (6 * q + k) = 500) (hc : ¬ coinsS S q = 200) : Inv (sCoin S q k) (n + 1) := by
  have f : ∀ g, ¬ 35 = g → ¬ 36 = g → sCoin S q k g = S g := fun g a c => by unfold sCoin; rw [upf c, upf a]
  have g35 : ∀ j, sCoin S q k 35 j = if j = 6 * q + k then S 35 (6 * q + k) + 1 else S 35 j := fun j => by unfold sCoin; rw [upf (by decide), up_e]; simp
  have g36 : ∀ j, sCoin S q k 36 j = if j = 6 * q + k then S 36 (6 * q + k) + 1 else S 36 j := fun j => by unfold sCoin; rw [up_e, upf (by decide)]; simp
  have o36 : ∀ r, ¬ r = q → ∀ j, j < 6 → sCoin S q k 36 (6 * r + j) = S 36 (6 * r + j) := fun r hr j hj => by rw [g36, if_neg (by omega)]
  refine h.mch (fun g _ hg => f g (by omega) (by omega)) (fun r hr => ?_) ?_
  · by_cases e : r = q
    · subst e
      obtain ⟨t, f', mm, c, bx, m1, m2, m3, m4, m5, m6, m7, m8, m9, m10⟩ := h.2.2.2.2.2.2.2.1 r hr
      rw [coins_n m7, show (200 : Int32) = nI 200 from rfl] at hc
      have c200 : smN c 6 ≤ 199 := by
        have : ¬ smN c 6 = 200 := fun y => hc (by rw [y])
        omega
      obtain ⟨b1, b2⟩ := m9 k hk
      rw [b1, show (500 : Int32) = nI 500 from rfl] at h5
      have b499 : bx k ≤ 499 := by
        have : ¬ bx k = 500 := fun y => h5 (by rw [y])
        omega
      have t0 : ¬ t = 0 := fun y => hb (by rw [m1, y]; rfl)
      refine ⟨t, f', mm, fun j => if j = k then c k + 1 else c j, fun j => if j = k then bx k + 1 else bx j, by rw [f 32 (by decide) (by decide)]; exact m1, by unfold nT at *; rw [f 13 (by decide) (by decide)]; exact m2, by rw [f 33 (by decide) (by decide)]; exact m3, m4, by rw [f 34 (by decide) (by decide)]; exact m5, m6, fun j hj => ?_, ?_, fun j hj => ?_, fun _ j hj => ?_⟩
      · rw [g36]
        by_cases x : j = k
        · subst x; simp only [if_true]; rw [m7 j hj, nI_1]
        · simp only [x, if_false]; rw [if_neg (by omega)]; exact m7 j hj
      · rw [sm6] at *
        match k, hk with
        | 0, _ => simp; omega
        | 1, _ => simp; omega
        | 2, _ => simp; omega
        | 3, _ => simp; omega
        | 4, _ => simp; omega
        | 5, _ => simp; omega
      · rw [g35]
        by_cases x : j = k
        · subst x; simp only [if_true]; rw [b1, nI_1]; exact ⟨rfl, by omega⟩
        · simp only [x, if_false]; rw [if_neg (by omega)]; exact m9 j hj
      · by_cases x : j = k
        · subst x; simp only [if_true]; have := m10 t0 j hj; omega
        · simp only [x, if_false]; exact m10 t0 j hj
    · exact (h.2.2.2.2.2.2.2.1 r hr).o (f 13 (by decide) (by decide)) ⟨by rw [f 32 (by decide) (by decide)], by rw [f 33 (by decide) (by decide)], by rw [f 34 (by decide) (by decide)]⟩ (fun j hj => by rw [g35, if_neg (by omega)]) (o36 r e)
  · refine (h.2.2.2.2.2.2.2.2).q hq (f 38 (by decide) (by decide)) (fun r hr e => pot_o (by rw [f 32 (by decide) (by decide)]) (o36 r e)) ?_
    have p1 : 1 ≤ potS S q := by unfold potS; rw [if_neg hb]; split <;> omega
    have := pot_2 (sCoin S q k) q
    omega
end IFM
