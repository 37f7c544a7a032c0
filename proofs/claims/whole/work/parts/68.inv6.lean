/-! ===== it stays true: payments ===== -/
theorem feN5 {S : SS} {n t m : Nat} (h : Inv S n) (hn : n ≤ 512) (ho : ¬ S 1 0 = 0) (h1 : 1 ≤ t) (h2 : t ≤ nT S) (hm : m ≤ 200000) : ∃ f, feN S t m = 5 * f ∧ 5 * f < 2 ^ 30 := by
  obtain ⟨z, a, p, pl, a1, a2, a3, a4, a5, a6, a7, _⟩ := h.2.2.2.2.1.2.2 t h1 h2
  obtain ⟨oT, oW⟩ := h.op ho
  unfold feN
  split
  · exact ⟨0, rfl, by omega⟩
  · rw [a1, nI_clamp (by omega)]
    have pb : (S 20 t).toNatClampNeg % 5 = 0 := by
      rw [a6]
      have := h.np hn
      rw [nI_clamp (by omega)]; omega
    have nb : (if S 19 t = 0 then m - (S 16 t).toNatClampNeg else 4320) ≤ 200000 := by split <;> omega
    have cb := chg_le (a := (S 16 t).toNatClampNeg) oT.2.1 oT.1 a2 nb
    generalize chg S z (S 16 t).toNatClampNeg (if S 19 t = 0 then m - (S 16 t).toNatClampNeg else 4320) = c at *
    exact ⟨(c - (S 20 t).toNatClampNeg) / 5, by omega, by omega⟩
/-- a payment above 0 that is paid: coins were put in -/
theorem Inv.pot2 {S : SS} {n : Nat} (h : Inv S n) {q : Nat} (hq : q < 3) (hb : ¬ S 32 q = 0) (hs : ¬ sumS S q - S 33 q < 0) (hf : ¬ S 33 q = 0) : potS S q = 2 := by
  obtain ⟨t, f, mm, c, bx, m1, m2, m3, m4, m5, m6, m7, m8, _⟩ := h.2.2.2.2.2.2.2.1 q hq
  unfold potS
  rw [if_neg hb, if_neg]
  intro z
  rw [coins_n m7] at z
  have c0 : smN c 6 = 0 := by
    rcases Nat.eq_zero_or_pos (smN c 6) with y | y
    · exact y
    · exact absurd z (nI_ne0 y (by omega))
  have s0 : smN (fun k => unN k * c k) 6 = 0 := by
    rw [sm6] at c0
    rw [sm6]
    have : c 0 = 0 ∧ c 1 = 0 ∧ c 2 = 0 ∧ c 3 = 0 ∧ c 4 = 0 ∧ c 5 = 0 := by omega
    obtain ⟨a0, a1, a2, a3, a4, a5⟩ := this
    show unN 0 * c 0 + unN 1 * c 1 + unN 2 * c 2 + unN 3 * c 3 + unN 4 * c 4 + unN 5 * c 5 = 0
    rw [a0, a1, a2, a3, a4, a5]; simp
  rw [sum_n m7, s0, m3] at hs
  have f0 : 0 < f := by
    rcases Nat.eq_zero_or_pos f with y | y
    · rw [m3, y] at hf; exact absurd rfl hf
    · exact y
  exact hs (nI_neg (a := 5 * 0) (by omega) (by omega))
section IG
variable {S S' : SS} {n : Nat}
theorem Inv.payBegin (h : Inv S n) {q t f : Nat} {m : Int32} (hq : q < 3) (hm : S 2 0 ≤ m ∧ m ≤ 200000) (h1 : 1 ≤ t) (h2 : t ≤ nT S) (hb : S 32 q = 0) (hf : 5 * f < 2 ^ 30) : Inv (sPayB S t q m (nI (5 * f))) (n + 1) := by
  have L := h.lateN hm
  have hl := h.lat
  have mc := nI_cl (n := 200000) (by omega) (Int32.le_trans hl hm.1) hm.2
  have e : ∀ g, ¬ g = 22 → ¬ g = 32 → ¬ g = 33 → ¬ g = 34 → ¬ g = 36 → sPayB S t q m (nI (5 * f)) g = up S 2 0 m g := fun g c1 c2 c3 c4 c5 => by
    unfold sPayB; rw [zP_f (Ne.symm c5), upf (Ne.symm c4), upf (Ne.symm c3), upf (Ne.symm c1), upf (Ne.symm c2)]
  have g32 : ∀ r, sPayB S t q m (nI (5 * f)) 32 r = if r = q then nI t else S 32 r := fun r => by
    unfold sPayB; rw [zP_f (by decide), upf (by decide), upf (by decide), upf (by decide), up_e, upf (by decide)]; simp
  have g33 : ∀ r, sPayB S t q m (nI (5 * f)) 33 r = if r = q then nI (5 * f) else S 33 r := fun r => by
    unfold sPayB; rw [zP_f (by decide), upf (by decide), up_e, upf (by decide), upf (by decide), upf (by decide)]; simp
  have g34 : ∀ r, sPayB S t q m (nI (5 * f)) 34 r = if r = q then m else S 34 r := fun r => by
    unfold sPayB; rw [zP_f (by decide), up_e, upf (by decide), upf (by decide), upf (by decide), upf (by decide)]; simp
  have g36 : ∀ j, sPayB S t q m (nI (5 * f)) 36 j = if 6 * q ≤ j ∧ j < 6 * q + 6 then 0 else S 36 j := fun j => by
    unfold sPayB; rw [zP_e, upf (by decide), upf (by decide), upf (by decide), upf (by decide), upf (by decide)]; rfl
  have e13 : sPayB S t q m (nI (5 * f)) 13 = S 13 := by rw [e 13 (by decide) (by decide) (by decide) (by decide) (by decide), upf (by decide)]
  have e35 : sPayB S t q m (nI (5 * f)) 35 = S 35 := by rw [e 35 (by decide) (by decide) (by decide) (by decide) (by decide), upf (by decide)]
  have e38 : sPayB S t q m (nI (5 * f)) 38 = S 38 := by rw [e 38 (by decide) (by decide) (by decide) (by decide) (by decide), upf (by decide)]
  have o36 : ∀ r, ¬ r = q → ∀ j, j < 6 → sPayB S t q m (nI (5 * f)) 36 (6 * r + j) = S 36 (6 * r + j) := fun r hr j hj => by rw [g36, if_neg (fun y => by omega)]
  refine L.mch (fun g c1 c2 => e g c1 (by omega) (by omega) (by omega) (by omega)) (fun r hr => ?_) ?_
  · by_cases x : r = q
    · subst x
      obtain ⟨t', f', mm, c, bx, m1, m2, m3, m4, m5, m6, m7, m8, m9, m10⟩ := h.2.2.2.2.2.2.2.1 r hr
      refine ⟨t, f, m.toNatClampNeg, fun _ => 0, bx, by rw [g32, if_pos rfl], by unfold nT at *; rw [e13]; exact h2, by rw [g33, if_pos rfl], hf, by rw [g34, if_pos rfl]; exact mc.2, mc.1, fun k hk => by rw [g36, if_pos ⟨by omega, by omega⟩]; rfl, by rw [sm6]; omega, fun k hk => by rw [e35]; exact m9 k hk, fun _ k hk => Nat.zero_le _⟩
    · exact (h.2.2.2.2.2.2.2.1 r hr).o e13 ⟨by rw [g32, if_neg x], by rw [g33, if_neg x], by rw [g34, if_neg x]⟩ (fun j hj => by rw [e35]) (o36 r x)
  · refine (h.2.2.2.2.2.2.2.2).q hq e38 (fun r hr x => pot_o (by rw [g32, if_neg x]) (o36 r x)) ?_
    have p0 : potS S q = 0 := by unfold potS; rw [if_pos hb]
    have p1 : potS (sPayB S t q m (nI (5 * f))) q ≤ 1 := by
      have c0 : coinsS (sPayB S t q m (nI (5 * f))) q = 0 := by
        unfold coinsS
        exact sumI_z 6 0 (fun j _ hj => by rw [g36, if_pos ⟨by omega, by omega⟩])
      unfold potS
      rw [c0, if_pos rfl]
      split <;> omega
    omega
/-- machine q ends: x came out -/
theorem Inv.ends (h : Inv S n) {q : Nat} {x : Nat → Int32} (hq : q < 3) (hx : ∀ k, k < 6 → ∃ y b, x k = nI y ∧ S 35 (6 * q + k) = nI b ∧ b < 2 ^ 31 ∧ y ≤ b) {k : Nat} (hk : n ≤ potS S q + k) : Inv (eS S q x) k := by
  have g32 : ∀ r, eS S q x 32 r = if r = q then 0 else S 32 r := fun r => by
    have a : eL S q x 6 32 r = S 32 r := by rw [eL_e 6 (by omega), if_neg (fun y => by omega), if_neg (fun y => by omega)]
    unfold eS; rw [up_e, upf (by decide), a]; simp
  have g35 : ∀ j, eS S q x 35 j = if 6 * q ≤ j ∧ j < 6 * q + 6 then S 35 j - x (j - 6 * q) else S 35 j := fun j => by
    unfold eS
    rw [upf (by decide), upf (by decide), eL_e 6 (by omega), if_neg (fun y => by omega)]
    by_cases c : 6 * q ≤ j ∧ j < 6 * q + 6
    · rw [if_pos ⟨rfl, by omega, c.2⟩, if_pos c]
    · rw [if_neg (fun y => c ⟨by omega, y.2.2⟩), if_neg c]
  have f : ∀ g, ¬ g = 22 → ¬ g = 32 → ¬ g = 35 → ¬ g = 37 → eS S q x g = S g := fun g c1 c2 c3 c4 => eS_f ⟨c1, c2, c3, c4⟩
  refine h.mch (fun g c1 c2 => f g c1 (by omega) (by omega) (by omega)) (fun r hr => ?_) ?_
  · by_cases e : r = q
    · subst e
      obtain ⟨t', f', mm, c, bx, m1, m2, m3, m4, m5, m6, m7, m8, m9, m10⟩ := h.2.2.2.2.2.2.2.1 r hr
      have ex : ∀ k, ∃ b', k < 6 → eS S r x 35 (6 * r + k) = nI b' ∧ b' ≤ 500 := fun k => by
        by_cases hk6 : k < 6
        · obtain ⟨y, b, y1, y2, y4, y3⟩ := hx k hk6
          obtain ⟨b1, b2⟩ := m9 k hk6
          refine ⟨bx k - y, fun _ => ?_⟩
          rw [g35, if_pos ⟨by omega, by omega⟩, show 6 * r + k - 6 * r = k by omega, y1, b1]
          have yb : y ≤ bx k := by
            rw [b1] at y2
            have hb31 : bx k < 2 ^ 31 := by omega
            have := (nI_eq hb31 y4).mp y2
            omega
          exact ⟨nI_subN yb, by omega⟩
        · exact ⟨0, fun q => absurd q hk6⟩
      refine ⟨0, f', mm, c, fun k => (ex k).choose, by rw [g32, if_pos rfl]; rfl, Nat.zero_le _, by rw [f 33 (by decide) (by decide) (by decide) (by decide)]; exact m3, m4, by rw [f 34 (by decide) (by decide) (by decide) (by decide)]; exact m5, m6, fun j hj => by rw [f 36 (by decide) (by decide) (by decide) (by decide)]; exact m7 j hj, m8, fun j hj => (ex j).choose_spec hj, fun y => absurd rfl y⟩
    · exact (h.2.2.2.2.2.2.2.1 r hr).o (f 13 (by decide) (by decide) (by decide) (by decide)) ⟨by rw [g32, if_neg e], by rw [f 33 (by decide) (by decide) (by decide) (by decide)], by rw [f 34 (by decide) (by decide) (by decide) (by decide)]⟩ (fun j hj => by rw [g35, if_neg (fun y => by omega)]) (fun j hj => by rw [f 36 (by decide) (by decide) (by decide) (by decide)])
  · refine (h.2.2.2.2.2.2.2.2).q hq (f 38 (by decide) (by decide) (by decide) (by decide)) (fun r hr e => pot_o (by rw [g32, if_neg e]) (fun j hj => by rw [f 36 (by decide) (by decide) (by decide) (by decide)])) ?_
    have p0 : potS (eS S q x) q = 0 := by unfold potS; rw [g32, if_pos rfl, if_pos rfl]
    omega
theorem Inv.payBack (h : Inv S n) {q : Nat} (hq : q < 3) (hb : ¬ S 32 q = 0) : Inv (gB (sFree S q) q 0 6) (n + 1) := by
  rw [← eS_B]
  refine h.ends hq (fun k hk => ?_) (by omega)
  obtain ⟨t, f, mm, c, bx, m1, m2, m3, m4, m5, m6, m7, m8, m9, m10⟩ := h.2.2.2.2.2.2.2.1 q hq
  have t0 : ¬ t = 0 := fun y => hb (by rw [m1, y]; rfl)
  obtain ⟨b1, b2⟩ := m9 k hk
  exact ⟨c k, bx k, m7 k hk, b1, by omega, m10 t0 k hk⟩
/-- a payment is written down -/
theorem Inv.recd (h : Inv S n) {q t f : Nat} (hq : q < 3) (h1 : 1 ≤ t) (h2 : t ≤ nT S) (hf : S 33 q = nI (5 * f)) (hf2 : 5 * f ≤ 40000) (hn : n ≤ 512) : Inv (rcd S q t) (n + 3) := by
  have np := h.np hn
  have e : ∀ g, ¬ g = 20 → ¬ g = 21 → ¬ g = 38 → ¬ g = 39 → ¬ g = 40 → ¬ g = 41 → rcd S q t g = S g := fun g c1 c2 c3 c4 c5 c6 => rcd_f ⟨c1, c2, c3, c4, c5, c6⟩
  have g20 : ∀ u, rcd S q t 20 u = if u = t then S 20 t + S 33 q else S 20 u := fun u => by unfold rcd; rw [upf (by decide), upf (by decide), upf (by decide), upf (by decide), upf (by decide), up_e]; simp
  have g21 : ∀ u, rcd S q t 21 u = if u = t then S 34 q else S 21 u := fun u => by unfold rcd; rw [upf (by decide), upf (by decide), upf (by decide), upf (by decide), up_e, upf (by decide)]; simp
  have g38 : rcd S q t 38 0 = S 38 0 + 1 := by unfold rcd; rw [up_same]
  obtain ⟨h1', h2', h3', h4', h5', h6', h7', h8', h9'⟩ := h
  have e13 := e 13 (by decide) (by decide) (by decide) (by decide) (by decide) (by decide)
  have nt : nT (rcd S q t) = nT S := by unfold nT; rw [e13]
  have np2 : nP (rcd S q t) = nP S + 1 := by
    show (rcd S q t 38 0).toNatClampNeg = _
    rw [g38, h9'.1, nI_1, nI_clamp (by omega)]
  refine ⟨h1'.c (e 2 (by decide) (by decide) (by decide) (by decide) (by decide) (by decide)), h2'.c ⟨e 5 (by decide) (by decide) (by decide) (by decide) (by decide) (by decide), e 6 (by decide) (by decide) (by decide) (by decide) (by decide) (by decide), e 7 (by decide) (by decide) (by decide) (by decide) (by decide) (by decide), e 9 (by decide) (by decide) (by decide) (by decide) (by decide) (by decide), e 10 (by decide) (by decide) (by decide) (by decide) (by decide) (by decide)⟩, h3'.c (e 4 (by decide) (by decide) (by decide) (by decide) (by decide) (by decide)), h4'.c (e 1 (by decide) (by decide) (by decide) (by decide) (by decide) (by decide)) ⟨e 4 (by decide) (by decide) (by decide) (by decide) (by decide) (by decide), e 5 (by decide) (by decide) (by decide) (by decide) (by decide) (by decide), e 6 (by decide) (by decide) (by decide) (by decide) (by decide) (by decide), e 7 (by decide) (by decide) (by decide) (by decide) (by decide) (by decide), e 8 (by decide) (by decide) (by decide) (by decide) (by decide) (by decide), e 9 (by decide) (by decide) (by decide) (by decide) (by decide) (by decide), e 10 (by decide) (by decide) (by decide) (by decide) (by decide) (by decide)⟩ (e 11 (by decide) (by decide) (by decide) (by decide) (by decide) (by decide)) (e 12 (by decide) (by decide) (by decide) (by decide) (by decide) (by decide)), ?_, h6'.c ⟨e 23 (by decide) (by decide) (by decide) (by decide) (by decide) (by decide), e 26 (by decide) (by decide) (by decide) (by decide) (by decide) (by decide), e 27 (by decide) (by decide) (by decide) (by decide) (by decide) (by decide)⟩, h7'.c (e 1 (by decide) (by decide) (by decide) (by decide) (by decide) (by decide)) (e 3 (by decide) (by decide) (by decide) (by decide) (by decide) (by decide)) ⟨e 28 (by decide) (by decide) (by decide) (by decide) (by decide) (by decide), e 29 (by decide) (by decide) (by decide) (by decide) (by decide) (by decide), e 30 (by decide) (by decide) (by decide) (by decide) (by decide) (by decide), e 31 (by decide) (by decide) (by decide) (by decide) (by decide) (by decide)⟩, fun r hr => (h8' r hr).c e13 ⟨e 32 (by decide) (by decide) (by decide) (by decide) (by decide) (by decide), e 33 (by decide) (by decide) (by decide) (by decide) (by decide) (by decide), e 34 (by decide) (by decide) (by decide) (by decide) (by decide) (by decide), e 35 (by decide) (by decide) (by decide) (by decide) (by decide) (by decide), e 36 (by decide) (by decide) (by decide) (by decide) (by decide) (by decide)⟩, ?_⟩
  · obtain ⟨k, u, r⟩ := h5'
    have e14 := e 14 (by decide) (by decide) (by decide) (by decide) (by decide) (by decide)
    have e17 := e 17 (by decide) (by decide) (by decide) (by decide) (by decide) (by decide)
    refine ⟨by unfold okT nT at *; rw [e13]; exact k, by unfold uqI IsIn nT at *; rw [e13, e14, e17]; exact u, fun x x1 x2 => ?_⟩
    rw [nt] at x2
    obtain ⟨z, a, p, pl, b1, b2, b3, b4, b5, b6, b7, b8, b9, b10, b11, b12, b13⟩ := r x x1 x2
    rw [np2, g20, g21, e 15 (by decide) (by decide) (by decide) (by decide) (by decide) (by decide), e 16 (by decide) (by decide) (by decide) (by decide) (by decide) (by decide), e17, e 18 (by decide) (by decide) (by decide) (by decide) (by decide) (by decide), e 19 (by decide) (by decide) (by decide) (by decide) (by decide) (by decide), e 2 (by decide) (by decide) (by decide) (by decide) (by decide) (by decide)]
    by_cases y : x = t
    · subst y
      rw [if_pos rfl, if_pos rfl]
      obtain ⟨t', f', mm, c, bx, m1, m2, m3, m4, m5, m6, _⟩ := h8' q hq
      refine ⟨z, a, p + f, pl, b1, b2, b3, b4, b5, by rw [b6, hf, nI_add]; congr 1; omega, by omega, b8, b9, b10, b11, ?_, ?_⟩
      · rw [m5]; exact Int32.le_trans (by decide) (nI_pos' (by omega))
      · rw [m5, show (200000 : Int32) = nI 200000 from rfl]; exact nI_le m6 (by omega)
    · rw [if_neg y, if_neg y]
      exact ⟨z, a, p, pl, b1, b2, b3, b4, b5, b6, by omega, b8, b9, b10, b11, b12, b13⟩
  · refine ⟨by rw [np2, g38, h9'.1, nI_1], ?_⟩
    have e32 := e 32 (by decide) (by decide) (by decide) (by decide) (by decide) (by decide)
    have e36 := e 36 (by decide) (by decide) (by decide) (by decide) (by decide) (by decide)
    have p : ∀ r, potS (rcd S q t) r = potS S r := fun r => by unfold potS coinsS; rw [e32, e36]
    have p0 := p 0
    have p1 := p 1
    have p2 := p 2
    have := h9'.2
    rw [np2]
    omega
theorem Inv.two (h : Inv S n) {q : Nat} (hq : q < 3) : potS S q ≤ n := by
  have h9 := h.2.2.2.2.2.2.2.2.2
  match q, hq with
  | 0, _ => omega
  | 1, _ => omega
  | 2, _ => omega
theorem Inv.payEnd (h : Inv S n) {q : Nat} {x : Nat → Nat} {r : Nat} (hq : q < 3) (hb : ¬ S 32 q = 0) (hs : ¬ sumS S q - S 33 q < 0) (hx : Opt (stk S q) 6 r x) (hn : n < 512) : Inv (sEnd S q x) (n + 1) := by
  have hbx := h.bx
  have ok : ∀ k, k < 6 → ∃ y b, (fun k => nI (x k)) k = nI y ∧ S 35 (6 * q + k) = nI b ∧ b < 2 ^ 31 ∧ y ≤ b := fun k hk => by
    obtain ⟨b1, b2⟩ := hbx (6 * q + k) (by omega)
    have bc := nI_cl (n := 500) (by omega) b1 b2
    exact ⟨x k, _, rfl, bc.2, by omega, hx.1.1 k hk⟩
  unfold sEnd
  by_cases f0 : 0 < S 33 q
  · rw [if_pos f0]
    have fn : ¬ S 33 q = 0 := fun y => by rw [y] at f0; exact absurd f0 (by decide)
    obtain ⟨t, f, mm, c, bx, m1, m2, m3, m4, m5, m6, m7, m8, m9, m10⟩ := h.2.2.2.2.2.2.2.1 q hq
    have p2 := h.pot2 hq hb hs fn
    have two := h.two hq
    have e := h.ends (x := fun k => nI (x k)) hq ok (k := n - 2) (by omega)
    rw [eS_G] at e
    have tb := h.okm q hq hb
    have fb : 5 * f ≤ 40000 := by
      have ul := un_le m8
      rw [sum_n m7, m3] at hs
      generalize smN (fun k => unN k * c k) 6 = sm at *
      rcases Nat.lt_or_ge (5 * sm) (5 * f) with y | y
      · exact absurd (nI_neg y (by omega)) hs
      · omega
    have nt : nT (gG q x 6 (sFree S q)) = nT S := by unfold nT; rw [gG_f (by decide) (by decide), sFree_f (by decide) (by decide)]
    have e33 : gG q x 6 (sFree S q) 33 q = nI (5 * f) := by rw [gG_f (by decide) (by decide), sFree_f (by decide) (by decide)]; exact m3
    generalize gG q x 6 (sFree S q) = S1 at *
    have r1 := e.recd (q := q) (t := (S 32 q).toNatClampNeg) (f := f) hq tb.1 (by rw [nt]; exact tb.2) e33 fb (by omega)
    rw [show n - 2 + 3 = n + 1 by omega] at r1
    exact r1
  · rw [if_neg f0, ← eS_G]
    exact h.ends hq ok (by omega)
end IG
