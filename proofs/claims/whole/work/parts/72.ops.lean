/-! ===== each case of the law ===== -/
def kOpen (S : SS) : Int32 := if S 1 0 = 0 then 0 else 1
def kCoin (S : SS) (m v : Int32) : Int32 := if kMc m v = 1 then 1 else kCoinS S m.toNatClampNeg (kdI v).toNatClampNeg
def kFill (S : SS) (m v n : Int32) : Int32 := if kMc m v = 1 then 1 else kFillS S m.toNatClampNeg (kdI v).toNatClampNeg n
theorem kd_c {k : Nat} (hk : k < 6) : (kdI (coM k)).toNatClampNeg = k := by
  match k, hk with
  | 0, _ => decide
  | 1, _ => decide
  | 2, _ => decide
  | 3, _ => decide
  | 4, _ => decide
  | 5, _ => decide
theorem kMc_c {q k : Nat} (hq : q < 3) (hk : k < 6) : kMc (nI q) (coM k) = 0 := by
  match q, hq, k, hk with
  | 0, _, 0, _ => decide
  | 0, _, 1, _ => decide
  | 0, _, 2, _ => decide
  | 0, _, 3, _ => decide
  | 0, _, 4, _ => decide
  | 0, _, 5, _ => decide
  | 1, _, 0, _ => decide
  | 1, _, 1, _ => decide
  | 1, _, 2, _ => decide
  | 1, _, 3, _ => decide
  | 1, _, 4, _ => decide
  | 1, _, 5, _ => decide
  | 2, _, 0, _ => decide
  | 2, _, 1, _ => decide
  | 2, _, 2, _ => decide
  | 2, _, 3, _ => decide
  | 2, _, 4, _ => decide
  | 2, _, 5, _ => decide
theorem kCoin_e {S : SS} {q k : Nat} (hq : q < 3) (hk : k < 6) : kCoin S (nI q) (coM k) = kCoinS S q k := by
  unfold kCoin
  rw [kMc_c hq hk, if_neg (by decide), kd_c hk, nI_clamp (by omega)]
theorem kFill_e {S : SS} {q k : Nat} {n : Int32} (hq : q < 3) (hk : k < 6) : kFill S (nI q) (coM k) n = kFillS S q k n := by
  unfold kFill
  rw [kMc_c hq hk, if_neg (by decide), kd_c hk, nI_clamp (by omega)]
theorem kPl_1 {p : Int32} (h : ¬ kPl p = 0) : kPl p = 1 := by unfold kPl at *; grind
theorem kZ_1 {p : Int32} (h : ¬ kZ p = 0) : kZ p = 1 := by unfold kZ at *; grind
theorem kR_1 {p : Int32} (h : ¬ kR p = 0) : kR p = 1 := by unfold kR at *; grind
theorem kJ_1 {p : Int32} (h : ¬ kJ p = 0) : kJ p = 1 := by unfold kJ at *; grind
theorem kT_1 {p q : Int32} (h : ¬ kT p q = 0) : kT p q = 1 := by unfold kT at *; grind
theorem kMc_1 {p q : Int32} (h : ¬ kMc p q = 0) : kMc p q = 1 := by unfold kMc at *; grind
theorem nI_m1 {n : Nat} (h : n < 2 ^ 31) : ¬ (-1 : Int32) = nI n := fun e => by
  have := nI_pos' h
  rw [← e] at this
  exact absurd this (by decide)
theorem eq12.off {S S' : SS} (e : eq12 S S') : off S S' := fun f _ h => e f h
theorem kRes_0 {S : SS} {i z x y : Int32} (e : kReserve S i z x y = 0) : okRes S i z x y ∧ ¬ S 1 0 = 0 ∧ S 28 i.toNatClampNeg = 0 := by
  unfold kReserve at e
  split at e
  · rename_i a
    refine ⟨a, fun q => ?_, Classical.not_not.mp (fun q => ?_)⟩
    · rw [if_pos (Or.inl q)] at e; cases e
    · rw [if_pos (Or.inr q)] at e; cases e
  · cases e
theorem sRes_1 {S : SS} {i : Nat} {z x y : Int32} : up (sRes S i z x y) 28 i 1 = sRes S i z x y := by
  funext f j
  unfold sRes
  simp only [up_e]
  by_cases h : f = 28 ∧ j = i
  · rw [if_pos h, if_neg (by omega), if_neg (by omega), if_neg (by omega), if_pos h]
  · rw [if_neg h]
theorem CE.res0 {G : vg_G} {b : Nat} {S : SS} {h h1 : vg_H} {i : Nat} {z x y : Int32} (c : CE G b S h h1) (e : S 28 i = 0) : CE G b (up (sRes S i z x y) 28 i 0) h h1 := by
  obtain ⟨f, A, ⟨p1, p2, p3, p4, p5, p6, p7, p8, p9, p10⟩, v⟩ := c
  refine ⟨f, A, ⟨p1, ((((p2.up (by decide)).up (by decide)).up (by decide)).up (by decide)).up (by decide), ((((p3.up (by decide)).up (by decide)).up (by decide)).up (by decide)).up (by decide), ((((p4.up (by decide)).up (by decide)).up (by decide)).up (by decide)).up (by decide), ((((p5.up (by decide)).up (by decide)).up (by decide)).up (by decide)).up (by decide), ((((p6.up (by decide)).up (by decide)).up (by decide)).up (by decide)).up (by decide), ?_, ((((p8.up (by decide)).up (by decide)).up (by decide)).up (by decide)).up (by decide), ((((p9.up (by decide)).up (by decide)).up (by decide)).up (by decide)).up (by decide), p10⟩, ((((v.up (by decide)).up (by decide)).up (by decide)).up (by decide)).up (by decide)⟩
  intro r hr
  have q := p7 r hr
  by_cases g : r = i
  · subst g
    have g0 : up (sRes S r z x y) 28 r 0 28 r = 0 := up_same _ _ _ _
    exact ⟨fun _ => q.1 e, fun n => absurd g0 n⟩
  · have g0 : ∀ f, up (sRes S i z x y) 28 i 0 f r = S f r := fun f => by
      unfold sRes
      simp only [up_e]
      rw [if_neg (fun z => g z.2), if_neg (fun z => g z.2), if_neg (fun z => g z.2), if_neg (fun z => g z.2), if_neg (fun z => g z.2)]
    rw [g0, g0, g0, g0]
    exact q
theorem fill_r {x p : Int32} (h : 0 ≤ x ∧ x ≤ 500) (h1 : ¬ p < -x) (h2 : ¬ 500 - x < p) : 0 ≤ x + p ∧ x + p ≤ 500 := by
  rw [Int32.le_iff_toInt_le, Int32.le_iff_toInt_le] at *
  rw [Int32.lt_iff_toInt_lt] at h1 h2
  rw [Int32.toInt_neg] at h1
  rw [Int32.toInt_sub] at h2
  rw [Int32.toInt_add]
  rw [show (0 : Int32).toInt = 0 from rfl, show (500 : Int32).toInt = 500 from rfl] at *
  have b1 := p.toInt_lt
  have b2 := p.le_toInt
  rw [Int.bmod_eq_of_le (by omega) (by omega)] at h1
  rw [Int.bmod_eq_of_le (by omega) (by omega)] at h2
  rw [Int.bmod_eq_of_le (by omega) (by omega)]
  omega
theorem undS_pos {S : SS} {c : Int32} (h : okT S) : 0 ≤ undS S c := by
  have e : undS S c = nI (cntN (fun t => S 14 t = 0 ∧ S 18 t = c) 1 (nT S)) := sumI_cnt _ _
  have := cntN_le (P := fun t => S 14 t = 0 ∧ S 18 t = c) (nT S) 1
  have := h.2
  rw [e]
  exact nI_pos' (by omega)
section LP
variable {G : vg_G} {b n k : Nat} {S : SS} {h : vg_H} {Q : vg_O → vg_H → Prop}
theorem op_0 {uc us : Nat} (hL : LI G b n k S h) (hk : 5 * k + 5 ≤ n) (hn : n ≤ 2560) (hu : uc ≤ 100 + 10 * k) (hs : us ≤ 400000 + 100 * k) (hQ : ∀ S' h' uc' us' (u v : Option vg_V), LI G b n (k + 1) S' h' → uc' ≤ 100 + 10 * (k + 1) → us' ≤ 400000 + 100 * (k + 1) → vg_A G (MT 169) uc' us' 1964 [some (.inr (.inr (some (G.2.2.2.2 4)))), some (.inr (.inr (some b))), some (.inr (.inr (some (b + 37)))), some (.inr (.inr (some (b + 80)))), some (.inl (nI (5 * k))), u, v] [] h' Q) : vg_A G (MT 169) uc us 160 [some (.inr (.inr (some (G.2.2.2.2 4)))), some (.inr (.inr (some b))), some (.inr (.inr (some (b + 37)))), some (.inr (.inr (some (b + 80)))), some (.inl (nI (5 * k))), none, none] [] h Q := by
  obtain ⟨⟨A, x1, x2⟩, x3, x4, _⟩ := id hL
  have k5 : k < 512 := by omega
  have k6 : k ≤ 512 := by omega
  have ic := x4.2.2.2.2.2.1
  obtain ⟨p1, y1⟩ : ∃ p, h.2.2.1 (G.2.2.2.2 4) (5 * k + 1) = p := ⟨_, rfl⟩
  obtain ⟨p2, y2⟩ : ∃ p, h.2.2.1 (G.2.2.2.2 4) (5 * k + 2) = p := ⟨_, rfl⟩
  refine wk_0 (R := RW (kPlaces S p1 p2) S (up S 3 p1.toNatClampNeg p2)) hL hk hn hu hs y1 y2 hQ (hh_0 hL ?_) (fun w S' h1 hR m => ?_)
  · exact c_52 x1 x2 (fun e h' c => CW.bad1 e c) (fun e h' c => CW.bad2 e c) (fun e h' c => CW.good e c)
  · refine c_146 m (fun e h' mp => PW.bad hR x4 e mp) (fun e h' mp => PW.go hR e mp ?_)
    have ar : ((0 ≤ p1 ∧ p1 ≤ 3) ∧ 1 ≤ p2 ∧ p2 ≤ 40) ∧ S 1 0 = 0 := by unfold kPlaces at e; grind
    exact x4.places ar.2 ar.1.2
theorem op_1 {uc us : Nat} (hL : LI G b n k S h) (hk : 5 * k + 5 ≤ n) (hn : n ≤ 2560) (hu : uc ≤ 100 + 10 * k) (hs : us ≤ 400000 + 100 * k) (hQ : ∀ S' h' uc' us' (u v : Option vg_V), LI G b n (k + 1) S' h' → uc' ≤ 100 + 10 * (k + 1) → us' ≤ 400000 + 100 * (k + 1) → vg_A G (MT 169) uc' us' 1964 [some (.inr (.inr (some (G.2.2.2.2 4)))), some (.inr (.inr (some b))), some (.inr (.inr (some (b + 37)))), some (.inr (.inr (some (b + 80)))), some (.inl (nI (5 * k))), u, v] [] h' Q) : vg_A G (MT 169) uc us 208 [some (.inr (.inr (some (G.2.2.2.2 4)))), some (.inr (.inr (some b))), some (.inr (.inr (some (b + 37)))), some (.inr (.inr (some (b + 80)))), some (.inl (nI (5 * k))), none, none] [] h Q := by
  obtain ⟨⟨A, x1, x2⟩, x3, x4, _⟩ := id hL
  have k5 : k < 512 := by omega
  have k6 : k ≤ 512 := by omega
  have ic := x4.2.2.2.2.2.1
  obtain ⟨p1, y1⟩ : ∃ p, h.2.2.1 (G.2.2.2.2 4) (5 * k + 1) = p := ⟨_, rfl⟩
  obtain ⟨p2, y2⟩ : ∃ p, h.2.2.1 (G.2.2.2.2 4) (5 * k + 2) = p := ⟨_, rfl⟩
  obtain ⟨p3, y3⟩ : ∃ p, h.2.2.1 (G.2.2.2.2 4) (5 * k + 3) = p := ⟨_, rfl⟩
  obtain ⟨p4, y4⟩ : ∃ p, h.2.2.1 (G.2.2.2.2 4) (5 * k + 4) = p := ⟨_, rfl⟩
  refine wk_1 (R := RW (kProduct S p1 p2 p3 p4) S (sProduct S p1.toNatClampNeg p2 p3 p4)) hL hk hn hu hs y1 y2 y3 y4 hQ (hh_1 hL ?_) (fun w S' h1 hR m => ?_)
  · exact c_55 x1 x2 (fun e h' c => CW.bad1 e c) (fun e h' c => CW.bad2 e c) (fun e h' c => CW.good e c)
  · refine c_148 m (fun e h' mp => PW.bad hR x4 e mp) (fun e h' mp => PW.go hR e mp ?_)
    have ar : (((0 ≤ p2 ∧ p2 ≤ 20000) ∧ p2 - p2 / 5 * 5 = 0) ∧ 15 ≤ p3 ∧ p3 ≤ 4320) ∧ S 1 0 = 0 := by
      unfold kProduct at e
      split at e
      · cases e
      · split at e
        · cases e
        · rename_i a c
          have a := Decidable.not_not.mp a
          exact ⟨⟨a.2.1, a.2.2.1⟩, Decidable.not_not.mp c⟩
    exact x4.product ar.2 ar.1.1 ar.1.2
theorem op_2 {uc us : Nat} (hL : LI G b n k S h) (hk : 5 * k + 5 ≤ n) (hn : n ≤ 2560) (hu : uc ≤ 100 + 10 * k) (hs : us ≤ 400000 + 100 * k) (hQ : ∀ S' h' uc' us' (u v : Option vg_V), LI G b n (k + 1) S' h' → uc' ≤ 100 + 10 * (k + 1) → us' ≤ 400000 + 100 * (k + 1) → vg_A G (MT 169) uc' us' 1964 [some (.inr (.inr (some (G.2.2.2.2 4)))), some (.inr (.inr (some b))), some (.inr (.inr (some (b + 37)))), some (.inr (.inr (some (b + 80)))), some (.inl (nI (5 * k))), u, v] [] h' Q) : vg_A G (MT 169) uc us 280 [some (.inr (.inr (some (G.2.2.2.2 4)))), some (.inr (.inr (some b))), some (.inr (.inr (some (b + 37)))), some (.inr (.inr (some (b + 80)))), some (.inl (nI (5 * k))), none, none] [] h Q := by
  obtain ⟨⟨A, x1, x2⟩, x3, x4, _⟩ := id hL
  have k5 : k < 512 := by omega
  have k6 : k ≤ 512 := by omega
  have ic := x4.2.2.2.2.2.1
  obtain ⟨p1, y1⟩ : ∃ p, h.2.2.1 (G.2.2.2.2 4) (5 * k + 1) = p := ⟨_, rfl⟩
  obtain ⟨p2, y2⟩ : ∃ p, h.2.2.1 (G.2.2.2.2 4) (5 * k + 2) = p := ⟨_, rfl⟩
  obtain ⟨p3, y3⟩ : ∃ p, h.2.2.1 (G.2.2.2.2 4) (5 * k + 3) = p := ⟨_, rfl⟩
  refine wk_2 (R := RW (kHours S p1 p2 p3) S (up (up S 9 p1.toNatClampNeg p2) 10 p1.toNatClampNeg p3)) hL hk hn hu hs y1 y2 y3 hQ (hh_2 hL ?_) (fun w S' h1 hR m => ?_)
  · exact c_23 x1 x2 (fun e h' c => CW.bad1 e c) (fun e h' c => CW.bad2 e c) (fun e h' c => CW.good e c)
  · refine c_119 m (fun e h' mp => PW.bad hR x4 e mp) (fun e h' mp => PW.go hR e mp ?_)
    have ar : (0 ≤ p2 ∧ p2 ≤ 168) ∧ (0 ≤ p3 ∧ p3 ≤ 168) ∧ S 1 0 = 0 := by unfold kHours at e; grind
    exact x4.hours ar.2.2 ar.1 ar.2.1
theorem op_3 {uc us : Nat} (hL : LI G b n k S h) (hk : 5 * k + 5 ≤ n) (hn : n ≤ 2560) (hu : uc ≤ 100 + 10 * k) (hs : us ≤ 400000 + 100 * k) (hQ : ∀ S' h' uc' us' (u v : Option vg_V), LI G b n (k + 1) S' h' → uc' ≤ 100 + 10 * (k + 1) → us' ≤ 400000 + 100 * (k + 1) → vg_A G (MT 169) uc' us' 1964 [some (.inr (.inr (some (G.2.2.2.2 4)))), some (.inr (.inr (some b))), some (.inr (.inr (some (b + 37)))), some (.inr (.inr (some (b + 80)))), some (.inl (nI (5 * k))), u, v] [] h' Q) : vg_A G (MT 169) uc us 340 [some (.inr (.inr (some (G.2.2.2.2 4)))), some (.inr (.inr (some b))), some (.inr (.inr (some (b + 37)))), some (.inr (.inr (some (b + 80)))), some (.inl (nI (5 * k))), none, none] [] h Q := by
  obtain ⟨⟨A, x1, x2⟩, x3, x4, _⟩ := id hL
  have k5 : k < 512 := by omega
  have k6 : k ≤ 512 := by omega
  have ic := x4.2.2.2.2.2.1
  obtain ⟨p1, y1⟩ : ∃ p, h.2.2.1 (G.2.2.2.2 4) (5 * k + 1) = p := ⟨_, rfl⟩
  obtain ⟨p2, y2⟩ : ∃ p, h.2.2.1 (G.2.2.2.2 4) (5 * k + 2) = p := ⟨_, rfl⟩
  refine wk_3 (R := RW (kFree S p1 p2) S (up S 4 p1.toNatClampNeg p2)) hL hk hn hu hs y1 y2 hQ (hh_3 hL ?_) (fun w S' h1 hR m => ?_)
  · exact c_22 x1 x2 (fun e h' c => CW.bad1 e c) (fun e h' c => CW.bad2 e c) (fun e h' c => CW.good e c)
  · refine c_115 m (fun e h' mp => PW.bad hR x4 e mp) (fun e h' mp => PW.go hR e mp ?_)
    have ar : ((0 ≤ p1 ∧ p1 ≤ 3) ∧ 0 ≤ p2 ∧ p2 ≤ 120) ∧ S 1 0 = 0 := by unfold kFree at e; grind
    exact x4.free ar.2 ar.1.2
theorem op_4 {uc us : Nat} (hL : LI G b n k S h) (hk : 5 * k + 5 ≤ n) (hn : n ≤ 2560) (hu : uc ≤ 100 + 10 * k) (hs : us ≤ 400000 + 100 * k) (hQ : ∀ S' h' uc' us' (u v : Option vg_V), LI G b n (k + 1) S' h' → uc' ≤ 100 + 10 * (k + 1) → us' ≤ 400000 + 100 * (k + 1) → vg_A G (MT 169) uc' us' 1964 [some (.inr (.inr (some (G.2.2.2.2 4)))), some (.inr (.inr (some b))), some (.inr (.inr (some (b + 37)))), some (.inr (.inr (some (b + 80)))), some (.inl (nI (5 * k))), u, v] [] h' Q) : vg_A G (MT 169) uc us 388 [some (.inr (.inr (some (G.2.2.2.2 4)))), some (.inr (.inr (some b))), some (.inr (.inr (some (b + 37)))), some (.inr (.inr (some (b + 80)))), some (.inl (nI (5 * k))), none, none] [] h Q := by
  obtain ⟨⟨A, x1, x2⟩, x3, x4, _⟩ := id hL
  have k5 : k < 512 := by omega
  have k6 : k ≤ 512 := by omega
  have ic := x4.2.2.2.2.2.1
  refine wk_4 (R := RR (kOpen S) S (fun v S' => (∃ z a, z < 4 ∧ a < 168 ∧ ¬ hasO S z a ∧ (∀ z' a', z' < 4 → a' < 168 → 168 * z' + a' < 168 * z + a → hasO S z' a') ∧ v = cI (nI (168 * z + a)) ∧ S' = S) ∨ (opP S ∧ v = cI (-1) ∧ S' = up S 1 0 1))) hL hk hn hu hs  hQ (hh_4 hL ?_) (fun w v S' h1 hR m => ?_)
  · refine c_48 x1 x2 (fun e h' c => CO1.bad (if_neg e) c) (fun e z a hz ha hn hm h' c => CO1.good (if_pos e) ?_ c) (fun e ho h' c => CO1.good (if_pos e) ?_ c)
    · exact Or.inl ⟨z, a, hz, ha, hn, hm, rfl, rfl⟩
    · exact Or.inr ⟨ho, rfl, rfl⟩
  · refine c_142 m (fun e h' mp => PM.bad hR x4 (by unfold kOpen; rw [if_neg e]; decide) (by unfold kOpen; rw [if_neg e]; exact mp)) (fun e z a hz ha hn hm h' mp => PM.good hR (if_pos e) (fun t => ?_)) (fun e ho S2 h' of hb hw mp => PM.good hR (if_pos e) (fun t => ?_))
    · rcases t with ⟨z1, a1, t1, t2, t3, t4, rfl, rfl⟩ | ⟨t1, _⟩
      · have q : 168 * z + a = 168 * z1 + a1 := by
          rcases Nat.lt_trichotomy (168 * z + a) (168 * z1 + a1) with q | q | q
          · exact absurd (t4 z a hz ha q) hn
          · exact q
          · exact absurd (hm z1 a1 t1 t2 q) t3
        exact ⟨_, mp, by rw [q], off.refl _, x4.next⟩
      · exact absurd (t1 z hz a ha) hn
    · rcases t with ⟨z1, a1, t1, t2, t3, _⟩ | ⟨t1, rfl, rfl⟩
      · exact absurd (ho z1 t1 a1 t2) t3
      · exact ⟨S2, mp, rfl, of, x4.opn ho of hb hw e⟩
theorem op_5 {uc us : Nat} (hL : LI G b n k S h) (hk : 5 * k + 5 ≤ n) (hn : n ≤ 2560) (hu : uc ≤ 100 + 10 * k) (hs : us ≤ 400000 + 100 * k) (hQ : ∀ S' h' uc' us' (u v : Option vg_V), LI G b n (k + 1) S' h' → uc' ≤ 100 + 10 * (k + 1) → us' ≤ 400000 + 100 * (k + 1) → vg_A G (MT 169) uc' us' 1964 [some (.inr (.inr (some (G.2.2.2.2 4)))), some (.inr (.inr (some b))), some (.inr (.inr (some (b + 37)))), some (.inr (.inr (some (b + 80)))), some (.inl (nI (5 * k))), u, v] [] h' Q) : vg_A G (MT 169) uc us 432 [some (.inr (.inr (some (G.2.2.2.2 4)))), some (.inr (.inr (some b))), some (.inr (.inr (some (b + 37)))), some (.inr (.inr (some (b + 80)))), some (.inl (nI (5 * k))), none, none] [] h Q := by
  obtain ⟨⟨A, x1, x2⟩, x3, x4, _⟩ := id hL
  have k5 : k < 512 := by omega
  have k6 : k ≤ 512 := by omega
  have ic := x4.2.2.2.2.2.1
  obtain ⟨p1, y1⟩ : ∃ p, h.2.2.1 (G.2.2.2.2 4) (5 * k + 1) = p := ⟨_, rfl⟩
  obtain ⟨p2, y2⟩ : ∃ p, h.2.2.1 (G.2.2.2.2 4) (5 * k + 2) = p := ⟨_, rfl⟩
  obtain ⟨p3, y3⟩ : ∃ p, h.2.2.1 (G.2.2.2.2 4) (5 * k + 3) = p := ⟨_, rfl⟩
  refine wk_5 (R := RR (kEnter S p1 p2 p3) S (fun v S' => (((∃ t, IsIn S p2 t) ∨ fullS (up S 2 0 p3) (laneZ p1) p3) ∧ v = cI 0 ∧ S' = up S 2 0 p3) ∨ (¬ ((∃ t, IsIn S p2 t) ∨ fullS (up S 2 0 p3) (laneZ p1) p3) ∧ v = cI (nI (nT S + 1)) ∧ S' = sAdd (up S 2 0 p3) (laneZ p1) p3 p2 (undC (up S 2 0 p3) p2 (laneZ p1))))) hL hk hn hu hs y1 y2 y3 hQ (hh_5 hL ?_) (fun w v S' h1 hR m => ?_)
  · exact c_18 x1 x2 x4.tk x4.lat ic.2.1 ic.1 ic.2.2.1 x4.okm (fun e h' c => CO.bad1 e c) (fun e h' c => CO.bad2 e c) (fun e f h' c => CO.good e (Or.inl ⟨f, rfl, rfl⟩) c) (fun e f h' c => CO.good e (Or.inr ⟨f, rfl, rfl⟩) c)
  · have ar : kEnter S p1 p2 p3 = 0 → (0 ≤ p1 ∧ p1 ≤ 7) ∧ (1 ≤ p2 ∧ p2 ≤ 1000000) ∧ (S 2 0 ≤ p3 ∧ p3 ≤ 200000) ∧ ¬ S 13 0 = 300 := fun e => by unfold kEnter at e; grind
    refine c_110 m x4.tk ic.1 ic.2.2.1 x4.pl (fun e h' mp => PM.bad hR x4 e mp) (fun e f h' mp => PM.good hR e (fun t => ?_)) (fun e f h' mp => PM.good hR e (fun t => ?_))
    · rcases t with ⟨t1, rfl, rfl⟩ | ⟨t1, _⟩
      · exact ⟨_, mp, rfl, off.refl _, x4.late (ar e).2.2.1⟩
      · exact absurd f t1
    · rcases t with ⟨t1, _⟩ | ⟨t1, rfl, rfl⟩
      · exact absurd t1 f
      · refine ⟨_, mp, rfl, off.refl _, ?_⟩
        obtain ⟨a1, a2, a3, a4⟩ := ar e
        obtain ⟨z, z1, z2⟩ := laneZ_ok a1.1 a1.2
        rw [z2]
        refine x4.enter a3 z1 a2 ?_ (fun q => f (Or.inl q)) _ (undC_ge _ _ _)
        have := x4.tk.2
        have : ¬ nT S = 300 := fun q => a4 (by rw [x4.tk.1, q]; rfl)
        omega
theorem op_6 {uc us : Nat} (hL : LI G b n k S h) (hk : 5 * k + 5 ≤ n) (hn : n ≤ 2560) (hu : uc ≤ 100 + 10 * k) (hs : us ≤ 400000 + 100 * k) (hQ : ∀ S' h' uc' us' (u v : Option vg_V), LI G b n (k + 1) S' h' → uc' ≤ 100 + 10 * (k + 1) → us' ≤ 400000 + 100 * (k + 1) → vg_A G (MT 169) uc' us' 1964 [some (.inr (.inr (some (G.2.2.2.2 4)))), some (.inr (.inr (some b))), some (.inr (.inr (some (b + 37)))), some (.inr (.inr (some (b + 80)))), some (.inl (nI (5 * k))), u, v] [] h' Q) : vg_A G (MT 169) uc us 512 [some (.inr (.inr (some (G.2.2.2.2 4)))), some (.inr (.inr (some b))), some (.inr (.inr (some (b + 37)))), some (.inr (.inr (some (b + 80)))), some (.inl (nI (5 * k))), none, none] [] h Q := by
  obtain ⟨⟨A, x1, x2⟩, x3, x4, _⟩ := id hL
  have k5 : k < 512 := by omega
  have k6 : k ≤ 512 := by omega
  have ic := x4.2.2.2.2.2.1
  obtain ⟨p1, y1⟩ : ∃ p, h.2.2.1 (G.2.2.2.2 4) (5 * k + 1) = p := ⟨_, rfl⟩
  obtain ⟨p2, y2⟩ : ∃ p, h.2.2.1 (G.2.2.2.2 4) (5 * k + 2) = p := ⟨_, rfl⟩
  refine wk_6 (R := RR (kFee S p1 p2) S (fun v S' => v = cI (nI (feN S p1.toNatClampNeg p2.toNatClampNeg)) ∧ S' = up S 2 0 p2)) hL hk hn hu hs y1 y2 hQ (hh_6 hL ?_) (fun w v S' h1 hR m => ?_)
  · exact c_19 x1 x2 x4.tk x4.lat x4.op (x4.tki k6) x4.tkj x4.hr (fun e h' c => CO.bad1 e c) (fun e h' c => CO.bad2 e c) (fun e h' c => CO.good e ⟨rfl, rfl⟩ c)
  · refine c_111 m x4.tk x4.lat x4.op (x4.tki k6) (fun e h' mp => PM.bad hR x4 e mp) (fun e S2 h' q hw mp => PM.good hR e (fun t => ?_))
    obtain ⟨rfl, rfl⟩ := t
    have ar : S 2 0 ≤ p2 ∧ p2 ≤ 200000 := by unfold kFee at e; grind
    exact ⟨S2, mp, rfl, q.off, (x4.late ar).m12 q hw⟩
theorem op_7 {uc us : Nat} (hL : LI G b n k S h) (hk : 5 * k + 5 ≤ n) (hn : n ≤ 2560) (hu : uc ≤ 100 + 10 * k) (hs : us ≤ 400000 + 100 * k) (hQ : ∀ S' h' uc' us' (u v : Option vg_V), LI G b n (k + 1) S' h' → uc' ≤ 100 + 10 * (k + 1) → us' ≤ 400000 + 100 * (k + 1) → vg_A G (MT 169) uc' us' 1964 [some (.inr (.inr (some (G.2.2.2.2 4)))), some (.inr (.inr (some b))), some (.inr (.inr (some (b + 37)))), some (.inr (.inr (some (b + 80)))), some (.inl (nI (5 * k))), u, v] [] h' Q) : vg_A G (MT 169) uc us 580 [some (.inr (.inr (some (G.2.2.2.2 4)))), some (.inr (.inr (some b))), some (.inr (.inr (some (b + 37)))), some (.inr (.inr (some (b + 80)))), some (.inl (nI (5 * k))), none, none] [] h Q := by
  obtain ⟨⟨A, x1, x2⟩, x3, x4, _⟩ := id hL
  have k5 : k < 512 := by omega
  have k6 : k ≤ 512 := by omega
  have ic := x4.2.2.2.2.2.1
  obtain ⟨p1, y1⟩ : ∃ p, h.2.2.1 (G.2.2.2.2 4) (5 * k + 1) = p := ⟨_, rfl⟩
  obtain ⟨p2, y2⟩ : ∃ p, h.2.2.1 (G.2.2.2.2 4) (5 * k + 2) = p := ⟨_, rfl⟩
  refine wk_7 (R := RR (kLeave S p1 p2) S (fun v S' => (0 < feN S p1.toNatClampNeg p2.toNatClampNeg ∧ v = cB 0 ∧ S' = up S 2 0 p2) ∨ (feN S p1.toNatClampNeg p2.toNatClampNeg = 0 ∧ v = cB 1 ∧ S' = up (up S 2 0 p2) 14 p1.toNatClampNeg 1))) hL hk hn hu hs y1 y2 hQ (hh_7 hL ?_) (fun w v S' h1 hR m => ?_)
  · exact c_42 x1 x2 x4.tk x4.lat x4.op (x4.tki k6) x4.tkj x4.hr (fun e h' c => CO.bad1 e c) (fun e h' c => CO.bad2 e c) (fun e f h' c => CO.good e (Or.inl ⟨f, rfl, rfl⟩) c) (fun e f h' c => CO.good e (Or.inr ⟨f, rfl, rfl⟩) c)
  · have ar : kLeave S p1 p2 = 0 → S 2 0 ≤ p2 ∧ p2 ≤ 200000 := fun e => by unfold kLeave at e; grind
    refine c_136 m x4.tk x4.lat x4.op (x4.tki k6) (fun e h' mp => PM.bad hR x4 e mp) (fun e f S2 h' q hw mp => PM.good hR e (fun t => ?_)) (fun e f S2 h' q hw mp => PM.good hR e (fun t => ?_))
    · rcases t with ⟨t1, rfl, rfl⟩ | ⟨t1, _⟩
      · exact ⟨S2, mp, rfl, q.off, (x4.late (ar e)).m12 q hw⟩
      · omega
    · rcases t with ⟨t1, _⟩ | ⟨t1, rfl, rfl⟩
      · omega
      · exact ⟨S2, mp, rfl, q.off, (x4.leave (ar e)).m12 q hw⟩
theorem op_8 {uc us : Nat} (hL : LI G b n k S h) (hk : 5 * k + 5 ≤ n) (hn : n ≤ 2560) (hu : uc ≤ 100 + 10 * k) (hs : us ≤ 400000 + 100 * k) (hQ : ∀ S' h' uc' us' (u v : Option vg_V), LI G b n (k + 1) S' h' → uc' ≤ 100 + 10 * (k + 1) → us' ≤ 400000 + 100 * (k + 1) → vg_A G (MT 169) uc' us' 1964 [some (.inr (.inr (some (G.2.2.2.2 4)))), some (.inr (.inr (some b))), some (.inr (.inr (some (b + 37)))), some (.inr (.inr (some (b + 80)))), some (.inl (nI (5 * k))), u, v] [] h' Q) : vg_A G (MT 169) uc us 655 [some (.inr (.inr (some (G.2.2.2.2 4)))), some (.inr (.inr (some b))), some (.inr (.inr (some (b + 37)))), some (.inr (.inr (some (b + 80)))), some (.inl (nI (5 * k))), none, none] [] h Q := by
  obtain ⟨⟨A, x1, x2⟩, x3, x4, _⟩ := id hL
  have k5 : k < 512 := by omega
  have k6 : k ≤ 512 := by omega
  have ic := x4.2.2.2.2.2.1
  obtain ⟨p1, y1⟩ : ∃ p, h.2.2.1 (G.2.2.2.2 4) (5 * k + 1) = p := ⟨_, rfl⟩
  obtain ⟨p2, y2⟩ : ∃ p, h.2.2.1 (G.2.2.2.2 4) (5 * k + 2) = p := ⟨_, rfl⟩
  obtain ⟨p3, y3⟩ : ∃ p, h.2.2.1 (G.2.2.2.2 4) (5 * k + 3) = p := ⟨_, rfl⟩
  refine wk_8 (R := RR (kLost S p1 p2 p3) S (fun v S' => (oldT S p1 = 0 ∧ v = cI (nI (nT S + 1)) ∧ S' = sLost0 S p2 p3) ∨ (¬ oldT S p1 = 0 ∧ v = cI (nI (nT S + 1)) ∧ S' = sLost1 S p1 p3 (oldT S p1)))) hL hk hn hu hs y1 y2 y3 hQ (hh_8 hL ?_) (fun w v S' h1 hR m => ?_)
  · exact c_43 x1 x2 x4.tk x4.lat x4.uq x4.okm (fun e h' c => CO.bad1 e c) (fun e h' c => CO.bad2 e c) (fun e f h' c => CO.good e (Or.inl ⟨f, rfl, rfl⟩) c) (fun e f h' c => CO.good e (Or.inr ⟨f, rfl, rfl⟩) c)
  · have ar : kLost S p1 p2 p3 = 0 → okLost S p1 p2 p3 ∧ ¬ S 13 0 = 300 := fun e => by
      unfold kLost at e
      split at e
      · rename_i a
        refine ⟨a, fun q => ?_⟩
        rw [if_pos (Or.inr (Or.inl q))] at e
        cases e
      · cases e
    have a5 : ¬ S 13 0 = 300 → nT S < 300 := fun a4 => by
      have := x4.tk.2
      have : ¬ nT S = 300 := fun q => a4 (by rw [x4.tk.1, q]; rfl)
      omega
    refine c_138 m x4.tk x4.uq (fun e h' mp => PM.bad hR x4 e mp) (fun e f h' mp => PM.good hR e (fun t => ?_)) (fun e f h' mp => PM.good hR e (fun t => ?_))
    · rcases t with ⟨t1, rfl, rfl⟩ | ⟨t1, _⟩
      · exact ⟨_, mp, rfl, off.refl _, x4.lost0 (ar e).1.2.2 (ar e).1.2.1 (a5 (ar e).2)⟩
      · exact absurd f t1
    · rcases t with ⟨t1, _⟩ | ⟨t1, rfl, rfl⟩
      · exact absurd t1 f
      · refine ⟨_, mp, rfl, off.refl _, ?_⟩
        rcases oldT_ok S p1 with q | ⟨q1, q2⟩
        · exact absurd q t1
        · refine x4.lost1 (ar e).1.2.2 ?_ (a5 (ar e).2) q2
          rcases (ar e).1.1 with q | q
          · exact absurd q q1
          · exact q
theorem op_9 {uc us : Nat} (hL : LI G b n k S h) (hk : 5 * k + 5 ≤ n) (hn : n ≤ 2560) (hu : uc ≤ 100 + 10 * k) (hs : us ≤ 400000 + 100 * k) (hQ : ∀ S' h' uc' us' (u v : Option vg_V), LI G b n (k + 1) S' h' → uc' ≤ 100 + 10 * (k + 1) → us' ≤ 400000 + 100 * (k + 1) → vg_A G (MT 169) uc' us' 1964 [some (.inr (.inr (some (G.2.2.2.2 4)))), some (.inr (.inr (some b))), some (.inr (.inr (some (b + 37)))), some (.inr (.inr (some (b + 80)))), some (.inl (nI (5 * k))), u, v] [] h' Q) : vg_A G (MT 169) uc us 735 [some (.inr (.inr (some (G.2.2.2.2 4)))), some (.inr (.inr (some b))), some (.inr (.inr (some (b + 37)))), some (.inr (.inr (some (b + 80)))), some (.inl (nI (5 * k))), none, none] [] h Q := by
  obtain ⟨⟨A, x1, x2⟩, x3, x4, _⟩ := id hL
  have k5 : k < 512 := by omega
  have k6 : k ≤ 512 := by omega
  have ic := x4.2.2.2.2.2.1
  obtain ⟨p1, y1⟩ : ∃ p, h.2.2.1 (G.2.2.2.2 4) (5 * k + 1) = p := ⟨_, rfl⟩
  obtain ⟨p2, y2⟩ : ∃ p, h.2.2.1 (G.2.2.2.2 4) (5 * k + 2) = p := ⟨_, rfl⟩
  obtain ⟨p3, y3⟩ : ∃ p, h.2.2.1 (G.2.2.2.2 4) (5 * k + 3) = p := ⟨_, rfl⟩
  refine wk_9 (R := RW (kContract S p1 p2 p3) S (sContract S p1.toNatClampNeg p2 p3)) hL hk hn hu hs y1 y2 y3 hQ (hh_9 hL ?_) (fun w S' h1 hR m => ?_)
  · exact c_14 x1 x2 x4.tk ic.2.1 ic.2.2.2.2 (fun c => undS_pos x4.tk) (fun e h' c => CW.bad1 e c) (fun e h' c => CW.bad2 e c) (fun e h' c => CW.good e c)
  · exact c_106 m x4.tk (fun e h' mp => PW.bad hR x4 e mp) (fun e h' mp => PW.go hR e mp x4.contract)
theorem op_10 {uc us : Nat} (hL : LI G b n k S h) (hk : 5 * k + 5 ≤ n) (hn : n ≤ 2560) (hu : uc ≤ 100 + 10 * k) (hs : us ≤ 400000 + 100 * k) (hQ : ∀ S' h' uc' us' (u v : Option vg_V), LI G b n (k + 1) S' h' → uc' ≤ 100 + 10 * (k + 1) → us' ≤ 400000 + 100 * (k + 1) → vg_A G (MT 169) uc' us' 1964 [some (.inr (.inr (some (G.2.2.2.2 4)))), some (.inr (.inr (some b))), some (.inr (.inr (some (b + 37)))), some (.inr (.inr (some (b + 80)))), some (.inl (nI (5 * k))), u, v] [] h' Q) : vg_A G (MT 169) uc us 795 [some (.inr (.inr (some (G.2.2.2.2 4)))), some (.inr (.inr (some b))), some (.inr (.inr (some (b + 37)))), some (.inr (.inr (some (b + 80)))), some (.inl (nI (5 * k))), none, none] [] h Q := by
  obtain ⟨⟨A, x1, x2⟩, x3, x4, _⟩ := id hL
  have k5 : k < 512 := by omega
  have k6 : k ≤ 512 := by omega
  have ic := x4.2.2.2.2.2.1
  obtain ⟨p1, y1⟩ : ∃ p, h.2.2.1 (G.2.2.2.2 4) (5 * k + 1) = p := ⟨_, rfl⟩
  obtain ⟨p2, y2⟩ : ∃ p, h.2.2.1 (G.2.2.2.2 4) (5 * k + 2) = p := ⟨_, rfl⟩
  refine wk_10 (R := RW (kPlate S p1 p2) S (if conS S p2 = p1 then S else sPlate S p1.toNatClampNeg p2)) hL hk hn hu hs y1 y2 hQ (hh_10 hL ?_) (fun w S' h1 hR m => ?_)
  · exact c_53 x1 x2 ic.2.1 ic.1 ic.2.2.1 (fun e h' c => CW.bad1 e c) (fun e h' c => CW.bad2 e c) (fun e f h' c => CW.good e (by rw [if_pos f]; exact c)) (fun e f h' c => CW.good e (by rw [if_neg f]; exact c))
  · refine c_147 m ic.1 ic.2.2.1 (fun e h' mp => PW.bad hR x4 e mp) (fun e f h' mp => PW.go hR e (by rw [if_pos f]; exact mp) (by rw [if_pos f]; exact x4.next)) (fun e f h' mp => PW.go hR e (by rw [if_neg f]; exact mp) ?_)
    rw [if_neg f]
    have ar : ((0 ≤ p1 ∧ p1 ≤ 19) ∧ 1 ≤ p2 ∧ p2 ≤ 1000000) ∧ ¬ S 23 p1.toNatClampNeg = 0 ∧ (conS S p2 = p1 ∨ conS S p2 < 0 ∧ S 26 p1.toNatClampNeg < 12) := by
      unfold kPlate at e
      split at e
      · cases e
      · split at e
        · cases e
        · rename_i a c
          exact ⟨Classical.not_not.mp a, Classical.not_not.mp c⟩
    obtain ⟨⟨a1, a2⟩, a3, a4⟩ := ar
    obtain ⟨j, j1, j2⟩ := nI_ex 19 (by omega) a1.1 a1.2
    have e1 : p1.toNatClampNeg = j := by rw [j2]; exact nI_clamp (by omega)
    have a5 : conS S p2 < 0 ∧ S 26 p1.toNatClampNeg < 12 := by
      rcases a4 with q | q
      · exact absurd q f
      · exact q
    rw [e1] at a3 a5 ⊢
    refine x4.plate (by omega) a3 a5.2 (fun d hd hi => ?_)
    have := conS_d ic.2.2.1 hd hi
    rw [this] at a5
    exact absurd a5.1 (Int32.not_lt.mpr (nI_pos' (by omega)))
theorem op_11 {uc us : Nat} (hL : LI G b n k S h) (hk : 5 * k + 5 ≤ n) (hn : n ≤ 2560) (hu : uc ≤ 100 + 10 * k) (hs : us ≤ 400000 + 100 * k) (hQ : ∀ S' h' uc' us' (u v : Option vg_V), LI G b n (k + 1) S' h' → uc' ≤ 100 + 10 * (k + 1) → us' ≤ 400000 + 100 * (k + 1) → vg_A G (MT 169) uc' us' 1964 [some (.inr (.inr (some (G.2.2.2.2 4)))), some (.inr (.inr (some b))), some (.inr (.inr (some (b + 37)))), some (.inr (.inr (some (b + 80)))), some (.inl (nI (5 * k))), u, v] [] h' Q) : vg_A G (MT 169) uc us 843 [some (.inr (.inr (some (G.2.2.2.2 4)))), some (.inr (.inr (some b))), some (.inr (.inr (some (b + 37)))), some (.inr (.inr (some (b + 80)))), some (.inl (nI (5 * k))), none, none] [] h Q := by
  obtain ⟨⟨A, x1, x2⟩, x3, x4, _⟩ := id hL
  have k5 : k < 512 := by omega
  have k6 : k ≤ 512 := by omega
  have ic := x4.2.2.2.2.2.1
  obtain ⟨p1, y1⟩ : ∃ p, h.2.2.1 (G.2.2.2.2 4) (5 * k + 1) = p := ⟨_, rfl⟩
  refine wk_11 (R := RR (kPl p1) S (fun v S' => (conS S p1 = -1 ∧ v = cB 0 ∧ S' = S) ∨ (∃ c, c < 20 ∧ InC S p1 c ∧ conS S p1 = nI c ∧ v = cB 1 ∧ S' = sDrop S c p1))) hL hk hn hu hs y1 hQ (hh_11 hL ?_) (fun w v S' h1 hR m => ?_)
  · exact c_17 x1 x2 ic.2.1 ic.1 ic.2.2.1 ic.2.2.2.1 (fun e h' c => CO1.bad (kPl_1 e) c) (fun e f h' c => CO1.good e (Or.inl ⟨f, rfl, rfl⟩) c) (fun e d d1 d2 d3 h' c => CO1.good e (Or.inr ⟨d, d1, d2, d3, rfl, rfl⟩) c)
  · refine c_109 m ic.1 ic.2.2.1 (fun e h' mp => PM.bad hR x4 e (by rw [kPl_1 e]; exact mp)) (fun e f h' mp => PM.good hR e (fun t => ?_)) (fun e d d1 d2 d3 h' mp => PM.good hR e (fun t => ?_))
    · rcases t with ⟨t1, rfl, rfl⟩ | ⟨c, c1, c2, c3, _⟩
      · exact ⟨_, mp, rfl, off.refl _, x4.next⟩
      · rw [f] at c3
        exact absurd c3 (nI_m1 (by omega))
    · rcases t with ⟨t1, _⟩ | ⟨c, c1, c2, c3, rfl, rfl⟩
      · rw [d3] at t1
        exact absurd t1.symm (nI_m1 (by omega))
      · have q : c = d := ic.2.2.1 p1 c d c1 d1 c2 d2
        subst q
        exact ⟨_, mp, rfl, off.refl _, x4.drop d1 d2⟩
theorem op_12 {uc us : Nat} (hL : LI G b n k S h) (hk : 5 * k + 5 ≤ n) (hn : n ≤ 2560) (hu : uc ≤ 100 + 10 * k) (hs : us ≤ 400000 + 100 * k) (hQ : ∀ S' h' uc' us' (u v : Option vg_V), LI G b n (k + 1) S' h' → uc' ≤ 100 + 10 * (k + 1) → us' ≤ 400000 + 100 * (k + 1) → vg_A G (MT 169) uc' us' 1964 [some (.inr (.inr (some (G.2.2.2.2 4)))), some (.inr (.inr (some b))), some (.inr (.inr (some (b + 37)))), some (.inr (.inr (some (b + 80)))), some (.inl (nI (5 * k))), u, v] [] h' Q) : vg_A G (MT 169) uc us 906 [some (.inr (.inr (some (G.2.2.2.2 4)))), some (.inr (.inr (some b))), some (.inr (.inr (some (b + 37)))), some (.inr (.inr (some (b + 80)))), some (.inl (nI (5 * k))), none, none] [] h Q := by
  obtain ⟨⟨A, x1, x2⟩, x3, x4, _⟩ := id hL
  have k5 : k < 512 := by omega
  have k6 : k ≤ 512 := by omega
  have ic := x4.2.2.2.2.2.1
  obtain ⟨p1, y1⟩ : ∃ p, h.2.2.1 (G.2.2.2.2 4) (5 * k + 1) = p := ⟨_, rfl⟩
  obtain ⟨p2, y2⟩ : ∃ p, h.2.2.1 (G.2.2.2.2 4) (5 * k + 2) = p := ⟨_, rfl⟩
  obtain ⟨p3, y3⟩ : ∃ p, h.2.2.1 (G.2.2.2.2 4) (5 * k + 3) = p := ⟨_, rfl⟩
  obtain ⟨p4, y4⟩ : ∃ p, h.2.2.1 (G.2.2.2.2 4) (5 * k + 4) = p := ⟨_, rfl⟩
  refine wk_12 (R := RR (kReserve S p1 p2 p3 p4) S (fun v S' => (tooMuch (sRes S p1.toNatClampNeg p2 p3 p4) p2 ∧ v = cB 0 ∧ S' = up (sRes S p1.toNatClampNeg p2 p3 p4) 28 p1.toNatClampNeg 0) ∨ (¬ tooMuch (sRes S p1.toNatClampNeg p2 p3 p4) p2 ∧ v = cB 1 ∧ S' = up (sRes S p1.toNatClampNeg p2 p3 p4) 28 p1.toNatClampNeg 1))) hL hk hn hu hs y1 y2 y3 y4 hQ (hh_12 hL ?_) (fun w v S' h1 hR m => ?_)
  · have ar : kReserve S p1 p2 p3 p4 = 0 → okRes S p1 p2 p3 p4 ∧ ¬ S 1 0 = 0 ∧ S 28 p1.toNatClampNeg = 0 := kRes_0
    refine c_57 x1 x2 x4.2.2.2.2.2.2.1.1 x4.lat (fun e h' c => CO.bad1 e c) (fun e h' c => CO.bad2 e c) (fun e f h' c => CO.good e (Or.inl ⟨f, rfl, rfl⟩) ?_) (fun e f h' c => CO.good e (Or.inr ⟨f, rfl, rfl⟩) ?_)
    · exact c.res0 (ar e).2.2
    · rw [sRes_1]; exact c
  · have ar : kReserve S p1 p2 p3 p4 = 0 → okRes S p1 p2 p3 p4 ∧ ¬ S 1 0 = 0 ∧ S 28 p1.toNatClampNeg = 0 := kRes_0
    refine c_150 m (fun e h' mp => PM.bad hR x4 e mp) (fun e f h' mp => PM.good hR e (fun t => ?_)) (fun e f h' mp => PM.good hR e (fun t => ?_))
    · rcases t with ⟨t1, rfl, rfl⟩ | ⟨t1, _⟩
      · exact ⟨_, mp, rfl, off.refl _, x4.reserve0 (ar e).2.2⟩
      · exact absurd f t1
    · rcases t with ⟨t1, _⟩ | ⟨t1, rfl, rfl⟩
      · exact absurd t1 f
      · refine ⟨_, mp, rfl, off.refl _, ?_⟩
        rw [sRes_1]
        obtain ⟨⟨a1, a2, _⟩, a3, a4⟩ := ar e
        obtain ⟨j, j1, j2⟩ := nI_ex 29 (by omega) a1.1 a1.2
        obtain ⟨z, z1, z2⟩ := nI_ex 3 (by omega) a2.1 a2.2
        have e1 : p1.toNatClampNeg = j := by rw [j2]; exact nI_clamp (by omega)
        rw [e1] at a4
        rw [e1, z2] at f
        rw [e1, z2]
        exact x4.reserve (by omega) (by omega) a4 a3 f
theorem op_13 {uc us : Nat} (hL : LI G b n k S h) (hk : 5 * k + 5 ≤ n) (hn : n ≤ 2560) (hu : uc ≤ 100 + 10 * k) (hs : us ≤ 400000 + 100 * k) (hQ : ∀ S' h' uc' us' (u v : Option vg_V), LI G b n (k + 1) S' h' → uc' ≤ 100 + 10 * (k + 1) → us' ≤ 400000 + 100 * (k + 1) → vg_A G (MT 169) uc' us' 1964 [some (.inr (.inr (some (G.2.2.2.2 4)))), some (.inr (.inr (some b))), some (.inr (.inr (some (b + 37)))), some (.inr (.inr (some (b + 80)))), some (.inl (nI (5 * k))), u, v] [] h' Q) : vg_A G (MT 169) uc us 1005 [some (.inr (.inr (some (G.2.2.2.2 4)))), some (.inr (.inr (some b))), some (.inr (.inr (some (b + 37)))), some (.inr (.inr (some (b + 80)))), some (.inl (nI (5 * k))), none, none] [] h Q := by
  obtain ⟨⟨A, x1, x2⟩, x3, x4, _⟩ := id hL
  have k5 : k < 512 := by omega
  have k6 : k ≤ 512 := by omega
  have ic := x4.2.2.2.2.2.1
  obtain ⟨p1, y1⟩ : ∃ p, h.2.2.1 (G.2.2.2.2 4) (5 * k + 1) = p := ⟨_, rfl⟩
  refine wk_13 (R := RR (kR p1) S (fun v S' => v = cB (S 28 p1.toNatClampNeg) ∧ S' = up S 28 p1.toNatClampNeg 0)) hL hk hn hu hs y1 hQ (hh_13 hL ?_) (fun w v S' h1 hR m => ?_)
  · exact c_10 x1 x2 x4.2.2.2.2.2.2.1.2.1 (fun e h' c => CO1.bad (kR_1 e) c) (fun e h' c => CO1.good e ⟨rfl, rfl⟩ c)
  · exact c_99 m x4.2.2.2.2.2.2.1.2.1 (fun e h' mp => PM.bad hR x4 e (by rw [kR_1 e]; exact mp)) (fun e h' mp => PM.go hR e mp x4.cancel)
theorem op_14 {uc us : Nat} (hL : LI G b n k S h) (hk : 5 * k + 5 ≤ n) (hn : n ≤ 2560) (hu : uc ≤ 100 + 10 * k) (hs : us ≤ 400000 + 100 * k) (hQ : ∀ S' h' uc' us' (u v : Option vg_V), LI G b n (k + 1) S' h' → uc' ≤ 100 + 10 * (k + 1) → us' ≤ 400000 + 100 * (k + 1) → vg_A G (MT 169) uc' us' 1964 [some (.inr (.inr (some (G.2.2.2.2 4)))), some (.inr (.inr (some b))), some (.inr (.inr (some (b + 37)))), some (.inr (.inr (some (b + 80)))), some (.inl (nI (5 * k))), u, v] [] h' Q) : vg_A G (MT 169) uc us 1068 [some (.inr (.inr (some (G.2.2.2.2 4)))), some (.inr (.inr (some b))), some (.inr (.inr (some (b + 37)))), some (.inr (.inr (some (b + 80)))), some (.inl (nI (5 * k))), none, none] [] h Q := by
  obtain ⟨⟨A, x1, x2⟩, x3, x4, _⟩ := id hL
  have k5 : k < 512 := by omega
  have k6 : k ≤ 512 := by omega
  have ic := x4.2.2.2.2.2.1
  obtain ⟨p1, y1⟩ : ∃ p, h.2.2.1 (G.2.2.2.2 4) (5 * k + 1) = p := ⟨_, rfl⟩
  obtain ⟨p2, y2⟩ : ∃ p, h.2.2.1 (G.2.2.2.2 4) (5 * k + 2) = p := ⟨_, rfl⟩
  obtain ⟨p3, y3⟩ : ∃ p, h.2.2.1 (G.2.2.2.2 4) (5 * k + 3) = p := ⟨_, rfl⟩
  refine wk_14 (R := RR (kPayB S p1 p2 p3) S (fun v S' => v = cI (nI (feN S p1.toNatClampNeg p3.toNatClampNeg)) ∧ S' = sPayB S p1.toNatClampNeg p2.toNatClampNeg p3 (nI (feN S p1.toNatClampNeg p3.toNatClampNeg)))) hL hk hn hu hs y1 y2 y3 hQ (hh_14 hL ?_) (fun w v S' h1 hR m => ?_)
  · exact c_50 x1 x2 x4.tk x4.lat x4.op (x4.tki k6) x4.tkj x4.hr (fun q hq => (x4.r32 q hq).1) (fun e h' c => CO.bad1 e c) (fun e h' c => CO.bad2 e c) (fun e h' c => CO.good e ⟨rfl, rfl⟩ c)
  · refine c_144 m x4.tk x4.lat x4.op (x4.tki k6) (fun e h' mp => PM.bad hR x4 e mp) (fun e S2 h' q hw mp => PM.good hR e (fun t => ?_))
    obtain ⟨rfl, rfl⟩ := t
    have ar : (1 ≤ p1 ∧ p1 ≤ S 13 0) ∧ (0 ≤ p2 ∧ p2 ≤ 2) ∧ (S 2 0 ≤ p3 ∧ p3 ≤ 200000) ∧ ¬ S 1 0 = 0 ∧ ¬ 0 < S 32 p2.toNatClampNeg := by unfold kPayB at e; grind
    obtain ⟨a1, a2, a3, a4, a5⟩ := ar
    refine ⟨S2, mp, rfl, q.off, Inv.m12 ?_ q hw⟩
    obtain ⟨y, z1, z2⟩ := nI_ex 2 (by omega) a2.1 a2.2
    have e1 : p2.toNatClampNeg = y := by rw [z2]; exact nI_clamp (by omega)
    have c13 := x4.tk
    have c14 := c13.2
    rw [c13.1] at a1
    obtain ⟨t, t1, t2⟩ := nI_ex (nT S) (by omega) (Int32.le_trans (by decide) a1.1) a1.2
    have e2 : p1.toNatClampNeg = t := by rw [t2]; exact nI_clamp (by omega)
    have t3 : 1 ≤ t := by
      rcases Nat.eq_zero_or_pos t with q | q
      · rw [t2, q] at a1; exact absurd a1.1 (by decide)
      · exact q
    obtain ⟨mm, m1, m2⟩ := nI_ex 200000 (by omega) (Int32.le_trans x4.lat a3.1) a3.2
    have e3 : p3.toNatClampNeg = mm := by rw [m2]; exact nI_clamp (by omega)
    obtain ⟨f, f1, f2⟩ := feN5 (t := t) (m := mm) x4 k6 a4 t3 t1 (by omega)
    rw [e1] at a5
    rw [e1, e2, e3, f1]
    refine x4.payBegin (by omega) a3 t3 t1 ?_ f2
    have r := (x4.r32 y (by omega)).1
    clear hR e mp q hw m hQ hL x1 x2 x3 x4 ic
    grind
theorem op_15 {uc us : Nat} (hL : LI G b n k S h) (hk : 5 * k + 5 ≤ n) (hn : n ≤ 2560) (hu : uc ≤ 100 + 10 * k) (hs : us ≤ 400000 + 100 * k) (hQ : ∀ S' h' uc' us' (u v : Option vg_V), LI G b n (k + 1) S' h' → uc' ≤ 100 + 10 * (k + 1) → us' ≤ 400000 + 100 * (k + 1) → vg_A G (MT 169) uc' us' 1964 [some (.inr (.inr (some (G.2.2.2.2 4)))), some (.inr (.inr (some b))), some (.inr (.inr (some (b + 37)))), some (.inr (.inr (some (b + 80)))), some (.inl (nI (5 * k))), u, v] [] h' Q) : vg_A G (MT 169) uc us 1148 [some (.inr (.inr (some (G.2.2.2.2 4)))), some (.inr (.inr (some b))), some (.inr (.inr (some (b + 37)))), some (.inr (.inr (some (b + 80)))), some (.inl (nI (5 * k))), none, none] [] h Q := by
  obtain ⟨⟨A, x1, x2⟩, x3, x4, _⟩ := id hL
  have k5 : k < 512 := by omega
  have k6 : k ≤ 512 := by omega
  have ic := x4.2.2.2.2.2.1
  obtain ⟨p1, y1⟩ : ∃ p, h.2.2.1 (G.2.2.2.2 4) (5 * k + 1) = p := ⟨_, rfl⟩
  obtain ⟨p2, y2⟩ : ∃ p, h.2.2.1 (G.2.2.2.2 4) (5 * k + 2) = p := ⟨_, rfl⟩
  refine wk_15 (R := RR (kCoin S p1 p2) S (fun v S' => v = cI (sumS (sCoin S p1.toNatClampNeg (kdI p2).toNatClampNeg) p1.toNatClampNeg) ∧ S' = sCoin S p1.toNatClampNeg (kdI p2).toNatClampNeg)) hL hk hn hu hs y1 y2 hQ (hh_15 hL ?_) (fun w v S' h1 hR m => ?_)
  · refine c_13 x1 x2 x4.bx x4.co (fun e h' c => CO.bad1 (if_pos e) c) (fun q i hq hi e1 e2 e0 e h' c => CO.bad2 ?_ c) (fun q i hq hi e1 e2 e0 e h' c => CO.good ?_ ?_ c)
    · subst e1 e2; rw [kCoin_e hq hi]; exact e
    · subst e1 e2; rw [kCoin_e hq hi]; exact e
    · subst e1 e2; rw [kd_c hi, nI_clamp (by omega)]; exact ⟨rfl, rfl⟩
  · refine c_103 m (fun e h' mp => PM.bad hR x4 (by unfold kCoin; rw [if_pos e]; decide) (by unfold kCoin; rw [if_pos e]; exact mp)) (fun q i hq hi e1 e2 e0 e h' mp => PM.bad hR x4 ?_ ?_) (fun q i hq hi e1 e2 e0 e h' mp => PM.good hR ?_ (fun t => ?_))
    · subst e1 e2; rw [kCoin_e hq hi, e]; decide
    · subst e1 e2; rw [kCoin_e hq hi, e]; exact mp
    · subst e1 e2; rw [kCoin_e hq hi]; exact e
    · subst e1 e2
      rw [kd_c hi, nI_clamp (by omega)] at t
      obtain ⟨rfl, rfl⟩ := t
      refine ⟨_, mp, rfl, off.refl _, ?_⟩
      have ar : ¬ S 32 q = 0 ∧ ¬ S 35 (6 * q + i) = 500 ∧ ¬ coinsS S q = 200 := by unfold kCoinS at e; grind
      exact x4.coin hq hi ar.1 ar.2.1 ar.2.2
theorem op_16 {uc us : Nat} (hL : LI G b n k S h) (hk : 5 * k + 5 ≤ n) (hn : n ≤ 2560) (hu : uc ≤ 100 + 10 * k) (hs : us ≤ 400000 + 100 * k) (hQ : ∀ S' h' uc' us' (u v : Option vg_V), LI G b n (k + 1) S' h' → uc' ≤ 100 + 10 * (k + 1) → us' ≤ 400000 + 100 * (k + 1) → vg_A G (MT 169) uc' us' 1964 [some (.inr (.inr (some (G.2.2.2.2 4)))), some (.inr (.inr (some b))), some (.inr (.inr (some (b + 37)))), some (.inr (.inr (some (b + 80)))), some (.inl (nI (5 * k))), u, v] [] h' Q) : vg_A G (MT 169) uc us 1216 [some (.inr (.inr (some (G.2.2.2.2 4)))), some (.inr (.inr (some b))), some (.inr (.inr (some (b + 37)))), some (.inr (.inr (some (b + 80)))), some (.inl (nI (5 * k))), none, none] [] h Q := by
  obtain ⟨⟨A, x1, x2⟩, x3, x4, _⟩ := id hL
  have k5 : k < 512 := by omega
  have k6 : k ≤ 512 := by omega
  have ic := x4.2.2.2.2.2.1
  obtain ⟨p1, y1⟩ : ∃ p, h.2.2.1 (G.2.2.2.2 4) (5 * k + 1) = p := ⟨_, rfl⟩
  refine wk_16 (R := RR (kMach S p1) S (fun v S' => (noFe S p1.toNatClampNeg ∧ v = cI (-1) ∧ S' = gB (sFree S p1.toNatClampNeg) p1.toNatClampNeg 0 6) ∨ (¬ sumS S p1.toNatClampNeg - S 33 p1.toNatClampNeg < 0 ∧ ∃ x, Opt (stk S p1.toNatClampNeg) 6 ((sumS S p1.toNatClampNeg - S 33 p1.toNatClampNeg).toNatClampNeg / 5) x ∧ v = cI (sumS S p1.toNatClampNeg - S 33 p1.toNatClampNeg) ∧ S' = sEnd S p1.toNatClampNeg x))) hL hk hn hu hs y1 hQ (hh_16 hL ?_) (fun w v S' h1 hR m => ?_)
  · refine c_51 x1 x2 x4.tk.2 x4.okm x4.bx x4.2.2.2.2.2.2.2.2.1 (x4.np2 k5) x4.f33 x4.rest (fun e h' c => CO.bad1 e c) (fun e h' c => CO.bad2 e c) (fun q hq e1 e f h' c => CO.good e ?_ c) (fun q hq e1 e f x hx h' c => CO.good e ?_ c)
    · subst e1; rw [nI_clamp (by omega)]; exact Or.inl ⟨f, rfl, rfl⟩
    · subst e1; rw [nI_clamp (by omega)]; exact Or.inr ⟨f, x, hx, rfl, rfl⟩
  · have ar : kMach S p1 = 0 → ¬ S 32 p1.toNatClampNeg = 0 := fun e => by unfold kMach at e; grind
    refine c_145 m x4.r32 x4.bx x4.restB ⟨x4.2.2.2.2.2.2.2.2.1, Nat.lt_of_le_of_lt (x4.np k6) (by decide)⟩ (fun e h' mp => PM.bad hR x4 e mp) (fun q hq e1 e f h' mp => PM.good hR e (fun t => ?_)) (fun q hq e1 e f x hx h' mp => PM.good hR e (fun t => ?_))
    · have a := ar e
      subst e1; rw [nI_clamp (by omega)] at t a
      rcases t with ⟨t1, rfl, rfl⟩ | ⟨t1, x, t2, _⟩
      · exact ⟨_, mp, rfl, off.refl _, x4.payBack hq a⟩
      · rcases f with f | f
        · exact absurd f t1
        · exact absurd t2.1 (f x)
    · have a := ar e
      subst e1; rw [nI_clamp (by omega)] at t a
      rcases t with ⟨t1, _⟩ | ⟨t1, y, t2, rfl, rfl⟩
      · rcases t1 with t1 | t1
        · exact absurd t1 f
        · exact absurd hx.1 (t1 x)
      · have u : sEnd S q y = sEnd S q x := by unfold sEnd; rw [gG_congr 6 _ (t2.uniq hx)]
        rw [u]
        exact ⟨_, mp, rfl, off.refl _, x4.payEnd hq a f hx k5⟩
theorem op_17 {uc us : Nat} (hL : LI G b n k S h) (hk : 5 * k + 5 ≤ n) (hn : n ≤ 2560) (hu : uc ≤ 100 + 10 * k) (hs : us ≤ 400000 + 100 * k) (hQ : ∀ S' h' uc' us' (u v : Option vg_V), LI G b n (k + 1) S' h' → uc' ≤ 100 + 10 * (k + 1) → us' ≤ 400000 + 100 * (k + 1) → vg_A G (MT 169) uc' us' 1964 [some (.inr (.inr (some (G.2.2.2.2 4)))), some (.inr (.inr (some b))), some (.inr (.inr (some (b + 37)))), some (.inr (.inr (some (b + 80)))), some (.inl (nI (5 * k))), u, v] [] h' Q) : vg_A G (MT 169) uc us 1272 [some (.inr (.inr (some (G.2.2.2.2 4)))), some (.inr (.inr (some b))), some (.inr (.inr (some (b + 37)))), some (.inr (.inr (some (b + 80)))), some (.inl (nI (5 * k))), none, none] [] h Q := by
  obtain ⟨⟨A, x1, x2⟩, x3, x4, _⟩ := id hL
  have k5 : k < 512 := by omega
  have k6 : k ≤ 512 := by omega
  have ic := x4.2.2.2.2.2.1
  obtain ⟨p1, y1⟩ : ∃ p, h.2.2.1 (G.2.2.2.2 4) (5 * k + 1) = p := ⟨_, rfl⟩
  refine wk_17 (R := RR (kMach S p1) S (fun v S' => v = cI (sumS (gB (sFree S p1.toNatClampNeg) p1.toNatClampNeg 0 6) p1.toNatClampNeg) ∧ S' = gB (sFree S p1.toNatClampNeg) p1.toNatClampNeg 0 6)) hL hk hn hu hs y1 hQ (hh_17 hL ?_) (fun w v S' h1 hR m => ?_)
  · refine c_49 x1 x2 x4.tk.2 x4.okm (fun e h' c => CO.bad1 e c) (fun e h' c => CO.bad2 e c) (fun q hq e1 e h' c => CO.good e ?_ c)
    subst e1; rw [nI_clamp (by omega)]; exact ⟨rfl, rfl⟩
  · have ar : kMach S p1 = 0 → ¬ S 32 p1.toNatClampNeg = 0 := fun e => by unfold kMach at e; grind
    refine c_143 m x4.r32 (fun e h' mp => PM.bad hR x4 e mp) (fun q hq e1 e h' mp => PM.good hR e (fun t => ?_))
    have a := ar e
    subst e1; rw [nI_clamp (by omega)] at t a
    obtain ⟨rfl, rfl⟩ := t
    exact ⟨_, mp, rfl, off.refl _, x4.payBack hq a⟩
theorem op_18 {uc us : Nat} (hL : LI G b n k S h) (hk : 5 * k + 5 ≤ n) (hn : n ≤ 2560) (hu : uc ≤ 100 + 10 * k) (hs : us ≤ 400000 + 100 * k) (hQ : ∀ S' h' uc' us' (u v : Option vg_V), LI G b n (k + 1) S' h' → uc' ≤ 100 + 10 * (k + 1) → us' ≤ 400000 + 100 * (k + 1) → vg_A G (MT 169) uc' us' 1964 [some (.inr (.inr (some (G.2.2.2.2 4)))), some (.inr (.inr (some b))), some (.inr (.inr (some (b + 37)))), some (.inr (.inr (some (b + 80)))), some (.inl (nI (5 * k))), u, v] [] h' Q) : vg_A G (MT 169) uc us 1328 [some (.inr (.inr (some (G.2.2.2.2 4)))), some (.inr (.inr (some b))), some (.inr (.inr (some (b + 37)))), some (.inr (.inr (some (b + 80)))), some (.inl (nI (5 * k))), none, none] [] h Q := by
  obtain ⟨⟨A, x1, x2⟩, x3, x4, _⟩ := id hL
  have k5 : k < 512 := by omega
  have k6 : k ≤ 512 := by omega
  have ic := x4.2.2.2.2.2.1
  obtain ⟨p1, y1⟩ : ∃ p, h.2.2.1 (G.2.2.2.2 4) (5 * k + 1) = p := ⟨_, rfl⟩
  obtain ⟨p2, y2⟩ : ∃ p, h.2.2.1 (G.2.2.2.2 4) (5 * k + 2) = p := ⟨_, rfl⟩
  refine wk_18 (R := RR (kMc p1 p2) S (fun v S' => v = cI (S 37 (6 * p1.toNatClampNeg + (kdI p2).toNatClampNeg)) ∧ S' = S)) hL hk hn hu hs y1 y2 hQ (hh_18 hL ?_) (fun w v S' h1 hR m => ?_)
  · refine c_11 x1 x2 (fun e h' c => CO1.bad (kMc_1 e) c) (fun q i hq hi e1 e2 e => CO1.good e ?_ (CE.refl x1 x2))
    subst e1 e2; rw [kd_c hi, nI_clamp (by omega)]; exact ⟨rfl, rfl⟩
  · refine c_101 m (fun e h' mp => PM.bad hR x4 e (by rw [kMc_1 e]; exact mp)) (fun q i hq hi e1 e2 e h' mp => PM.good hR e (fun t => ?_))
    subst e1 e2
    rw [kd_c hi, nI_clamp (by omega)] at t
    obtain ⟨rfl, rfl⟩ := t
    exact ⟨_, mp, rfl, off.refl _, x4.next⟩
theorem op_19 {uc us : Nat} (hL : LI G b n k S h) (hk : 5 * k + 5 ≤ n) (hn : n ≤ 2560) (hu : uc ≤ 100 + 10 * k) (hs : us ≤ 400000 + 100 * k) (hQ : ∀ S' h' uc' us' (u v : Option vg_V), LI G b n (k + 1) S' h' → uc' ≤ 100 + 10 * (k + 1) → us' ≤ 400000 + 100 * (k + 1) → vg_A G (MT 169) uc' us' 1964 [some (.inr (.inr (some (G.2.2.2.2 4)))), some (.inr (.inr (some b))), some (.inr (.inr (some (b + 37)))), some (.inr (.inr (some (b + 80)))), some (.inl (nI (5 * k))), u, v] [] h' Q) : vg_A G (MT 169) uc us 1396 [some (.inr (.inr (some (G.2.2.2.2 4)))), some (.inr (.inr (some b))), some (.inr (.inr (some (b + 37)))), some (.inr (.inr (some (b + 80)))), some (.inl (nI (5 * k))), none, none] [] h Q := by
  obtain ⟨⟨A, x1, x2⟩, x3, x4, _⟩ := id hL
  have k5 : k < 512 := by omega
  have k6 : k ≤ 512 := by omega
  have ic := x4.2.2.2.2.2.1
  obtain ⟨p1, y1⟩ : ∃ p, h.2.2.1 (G.2.2.2.2 4) (5 * k + 1) = p := ⟨_, rfl⟩
  obtain ⟨p2, y2⟩ : ∃ p, h.2.2.1 (G.2.2.2.2 4) (5 * k + 2) = p := ⟨_, rfl⟩
  obtain ⟨p3, y3⟩ : ∃ p, h.2.2.1 (G.2.2.2.2 4) (5 * k + 3) = p := ⟨_, rfl⟩
  refine wk_19 (R := RR (kFill S p1 p2 p3) S (fun v S' => v = cI (S 35 (6 * p1.toNatClampNeg + (kdI p2).toNatClampNeg) + p3) ∧ S' = up S 35 (6 * p1.toNatClampNeg + (kdI p2).toNatClampNeg) (S 35 (6 * p1.toNatClampNeg + (kdI p2).toNatClampNeg) + p3))) hL hk hn hu hs y1 y2 y3 hQ (hh_19 hL ?_) (fun w v S' h1 hR m => ?_)
  · refine c_21 x1 x2 x4.bx x4.r32 (fun e h' c => CO.bad1 (if_pos e) c) (fun q i hq hi e1 e2 e0 e h' c => CO.bad2 ?_ c) (fun q i hq hi e1 e2 e0 e h' c => CO.good ?_ ?_ c)
    · subst e1 e2; rw [kFill_e hq hi]; exact e
    · subst e1 e2; rw [kFill_e hq hi]; exact e
    · subst e1 e2; rw [kd_c hi, nI_clamp (by omega)]; exact ⟨rfl, rfl⟩
  · refine c_113 m x4.bx (fun e h' mp => PM.bad hR x4 (by unfold kFill; rw [if_pos e]; decide) (by unfold kFill; rw [if_pos e]; exact mp)) (fun q i hq hi e1 e2 e0 e h' mp => PM.bad hR x4 ?_ ?_) (fun q i hq hi e1 e2 e0 e h' mp => PM.good hR ?_ (fun t => ?_))
    · subst e1 e2; rw [kFill_e hq hi, e]; decide
    · subst e1 e2; rw [kFill_e hq hi, e]; exact mp
    · subst e1 e2; rw [kFill_e hq hi]; exact e
    · subst e1 e2
      rw [kd_c hi, nI_clamp (by omega)] at t
      obtain ⟨rfl, rfl⟩ := t
      refine ⟨_, mp, rfl, off.refl _, ?_⟩
      have bx := x4.bx (6 * q + i) (by omega)
      have r := x4.r32 q hq
      have ar : ¬ p3 < -(S 35 (6 * q + i)) ∧ ¬ 500 - S 35 (6 * q + i) < p3 ∧ ¬ 0 < S 32 q := by unfold kFillS at e; grind
      refine x4.fill hq hi ?_ ?_
      · grind
      · exact fill_r bx ar.1 ar.2.1
theorem op_20 {uc us : Nat} (hL : LI G b n k S h) (hk : 5 * k + 5 ≤ n) (hn : n ≤ 2560) (hu : uc ≤ 100 + 10 * k) (hs : us ≤ 400000 + 100 * k) (hQ : ∀ S' h' uc' us' (u v : Option vg_V), LI G b n (k + 1) S' h' → uc' ≤ 100 + 10 * (k + 1) → us' ≤ 400000 + 100 * (k + 1) → vg_A G (MT 169) uc' us' 1964 [some (.inr (.inr (some (G.2.2.2.2 4)))), some (.inr (.inr (some b))), some (.inr (.inr (some (b + 37)))), some (.inr (.inr (some (b + 80)))), some (.inl (nI (5 * k))), u, v] [] h' Q) : vg_A G (MT 169) uc us 1476 [some (.inr (.inr (some (G.2.2.2.2 4)))), some (.inr (.inr (some b))), some (.inr (.inr (some (b + 37)))), some (.inr (.inr (some (b + 80)))), some (.inl (nI (5 * k))), none, none] [] h Q := by
  obtain ⟨⟨A, x1, x2⟩, x3, x4, _⟩ := id hL
  have k5 : k < 512 := by omega
  have k6 : k ≤ 512 := by omega
  have ic := x4.2.2.2.2.2.1
  obtain ⟨p1, y1⟩ : ∃ p, h.2.2.1 (G.2.2.2.2 4) (5 * k + 1) = p := ⟨_, rfl⟩
  obtain ⟨p2, y2⟩ : ∃ p, h.2.2.1 (G.2.2.2.2 4) (5 * k + 2) = p := ⟨_, rfl⟩
  refine wk_20 (R := RR (kMc p1 p2) S (fun v S' => v = cI (S 35 (6 * p1.toNatClampNeg + (kdI p2).toNatClampNeg)) ∧ S' = S)) hL hk hn hu hs y1 y2 hQ (hh_20 hL ?_) (fun w v S' h1 hR m => ?_)
  · refine c_9 x1 x2 (fun e h' c => CO1.bad (kMc_1 e) c) (fun q i hq hi e1 e2 e => CO1.good e ?_ (CE.refl x1 x2))
    subst e1 e2; rw [kd_c hi, nI_clamp (by omega)]; exact ⟨rfl, rfl⟩
  · refine c_98 m (fun e h' mp => PM.bad hR x4 e (by rw [kMc_1 e]; exact mp)) (fun q i hq hi e1 e2 e h' mp => PM.good hR e (fun t => ?_))
    subst e1 e2
    rw [kd_c hi, nI_clamp (by omega)] at t
    obtain ⟨rfl, rfl⟩ := t
    exact ⟨_, mp, rfl, off.refl _, x4.next⟩
theorem op_21 {uc us : Nat} (hL : LI G b n k S h) (hk : 5 * k + 5 ≤ n) (hn : n ≤ 2560) (hu : uc ≤ 100 + 10 * k) (hs : us ≤ 400000 + 100 * k) (hQ : ∀ S' h' uc' us' (u v : Option vg_V), LI G b n (k + 1) S' h' → uc' ≤ 100 + 10 * (k + 1) → us' ≤ 400000 + 100 * (k + 1) → vg_A G (MT 169) uc' us' 1964 [some (.inr (.inr (some (G.2.2.2.2 4)))), some (.inr (.inr (some b))), some (.inr (.inr (some (b + 37)))), some (.inr (.inr (some (b + 80)))), some (.inl (nI (5 * k))), u, v] [] h' Q) : vg_A G (MT 169) uc us 1544 [some (.inr (.inr (some (G.2.2.2.2 4)))), some (.inr (.inr (some b))), some (.inr (.inr (some (b + 37)))), some (.inr (.inr (some (b + 80)))), some (.inl (nI (5 * k))), none, none] [] h Q := by
  obtain ⟨⟨A, x1, x2⟩, x3, x4, _⟩ := id hL
  have k5 : k < 512 := by omega
  have k6 : k ≤ 512 := by omega
  have ic := x4.2.2.2.2.2.1
  obtain ⟨p1, y1⟩ : ∃ p, h.2.2.1 (G.2.2.2.2 4) (5 * k + 1) = p := ⟨_, rfl⟩
  refine wk_21 (R := RR (kZ p1) S (fun v S' => v = cI (carsS S p1) ∧ S' = S)) hL hk hn hu hs y1 hQ (hh_21 hL ?_) (fun w v S' h1 hR m => ?_)
  · exact c_47 x1 x2 x4.tk (fun e h' c => CO1.bad (kZ_1 e) c) (fun e => CO1.good e ⟨rfl, rfl⟩ (CE.refl x1 x2))
  · exact c_140 m x4.tk x4.pl (fun e h' mp => PM.bad hR x4 e (by rw [kZ_1 e]; exact mp)) (fun e h' mp => PM.go hR e mp x4.next)
theorem op_22 {uc us : Nat} (hL : LI G b n k S h) (hk : 5 * k + 5 ≤ n) (hn : n ≤ 2560) (hu : uc ≤ 100 + 10 * k) (hs : us ≤ 400000 + 100 * k) (hQ : ∀ S' h' uc' us' (u v : Option vg_V), LI G b n (k + 1) S' h' → uc' ≤ 100 + 10 * (k + 1) → us' ≤ 400000 + 100 * (k + 1) → vg_A G (MT 169) uc' us' 1964 [some (.inr (.inr (some (G.2.2.2.2 4)))), some (.inr (.inr (some b))), some (.inr (.inr (some (b + 37)))), some (.inr (.inr (some (b + 80)))), some (.inl (nI (5 * k))), u, v] [] h' Q) : vg_A G (MT 169) uc us 1600 [some (.inr (.inr (some (G.2.2.2.2 4)))), some (.inr (.inr (some b))), some (.inr (.inr (some (b + 37)))), some (.inr (.inr (some (b + 80)))), some (.inl (nI (5 * k))), none, none] [] h Q := by
  obtain ⟨⟨A, x1, x2⟩, x3, x4, _⟩ := id hL
  have k5 : k < 512 := by omega
  have k6 : k ≤ 512 := by omega
  have ic := x4.2.2.2.2.2.1
  obtain ⟨p1, y1⟩ : ∃ p, h.2.2.1 (G.2.2.2.2 4) (5 * k + 1) = p := ⟨_, rfl⟩
  refine wk_22 (R := RR (kPl p1) S (fun v S' => S' = S ∧ (((∀ t, ¬ IsIn S p1 t) ∧ v = cI 0) ∨ ∃ t, IsIn S p1 t ∧ v = cI (nI t)))) hL hk hn hu hs y1 hQ (hh_22 hL ?_) (fun w v S' h1 hR m => ?_)
  · exact c_25 x1 x2 x4.tk (fun e h' c => CO1.bad (kPl_1 e) c) (fun e f => CO1.good e ⟨rfl, Or.inl ⟨f, rfl⟩⟩ (CE.refl x1 x2)) (fun e t f => CO1.good e ⟨rfl, Or.inr ⟨t, f, rfl⟩⟩ (CE.refl x1 x2))
  · refine c_121 m x4.tk (fun e h' mp => PM.bad hR x4 e (by rw [kPl_1 e]; exact mp)) (fun e f h' mp => PM.good hR e (fun t => ?_)) (fun e u f h' mp => PM.good hR e (fun t => ?_))
    · obtain ⟨rfl, t⟩ := t
      rcases t with ⟨t1, rfl⟩ | ⟨u, u1, _⟩
      · exact ⟨_, mp, rfl, off.refl _, x4.next⟩
      · exact absurd u1 (f u)
    · obtain ⟨rfl, t⟩ := t
      rcases t with ⟨t1, _⟩ | ⟨u', u1, rfl⟩
      · exact absurd f (t1 u)
      · have ps : 0 < p1 := by unfold kPl at e; grind
        rw [x4.uq p1 u' u ps u1 f]
        exact ⟨_, mp, rfl, off.refl _, x4.next⟩
theorem op_23 {uc us : Nat} (hL : LI G b n k S h) (hk : 5 * k + 5 ≤ n) (hn : n ≤ 2560) (hu : uc ≤ 100 + 10 * k) (hs : us ≤ 400000 + 100 * k) (hQ : ∀ S' h' uc' us' (u v : Option vg_V), LI G b n (k + 1) S' h' → uc' ≤ 100 + 10 * (k + 1) → us' ≤ 400000 + 100 * (k + 1) → vg_A G (MT 169) uc' us' 1964 [some (.inr (.inr (some (G.2.2.2.2 4)))), some (.inr (.inr (some b))), some (.inr (.inr (some (b + 37)))), some (.inr (.inr (some (b + 80)))), some (.inl (nI (5 * k))), u, v] [] h' Q) : vg_A G (MT 169) uc us 1656 [some (.inr (.inr (some (G.2.2.2.2 4)))), some (.inr (.inr (some b))), some (.inr (.inr (some (b + 37)))), some (.inr (.inr (some (b + 80)))), some (.inl (nI (5 * k))), none, none] [] h Q := by
  obtain ⟨⟨A, x1, x2⟩, x3, x4, _⟩ := id hL
  have k5 : k < 512 := by omega
  have k6 : k ≤ 512 := by omega
  have ic := x4.2.2.2.2.2.1
  obtain ⟨p1, y1⟩ : ∃ p, h.2.2.1 (G.2.2.2.2 4) (5 * k + 1) = p := ⟨_, rfl⟩
  obtain ⟨p2, y2⟩ : ∃ p, h.2.2.1 (G.2.2.2.2 4) (5 * k + 2) = p := ⟨_, rfl⟩
  obtain ⟨p3, y3⟩ : ∃ p, h.2.2.1 (G.2.2.2.2 4) (5 * k + 3) = p := ⟨_, rfl⟩
  refine wk_23 (R := RR (kLeast S p1 p2 p3) S (fun v S' => v = cI (nI (pz S p1.toNatClampNeg (p2.toNatClampNeg % 10080) (p3.toNatClampNeg - p2.toNatClampNeg))) ∧ S' = S)) hL hk hn hu hs y1 y2 y3 hQ (hh_23 hL ?_) (fun w v S' h1 hR m => ?_)
  · refine c_41 x1 x2 x4.op x4.hr (fun e h' c => CO.bad1 e c) (fun e h' c => CO.bad2 e c) (fun Z X n e1 e2 e3 b1 b2 b3 e h' c => CO.good e ?_ c)
    subst e1 e2 e3; rw [nI_clamp (by omega), nI_clamp (by omega), nI_clamp (by omega), Nat.add_sub_cancel_left]; exact ⟨rfl, rfl⟩
  · refine c_135 m x4.op (fun e h' mp => PM.bad hR x4 e mp) (fun Z X n e1 e2 e3 b1 b2 b3 e h' mp => PM.good hR e (fun t => ?_))
    subst e1 e2 e3; rw [nI_clamp (by omega), nI_clamp (by omega), nI_clamp (by omega), Nat.add_sub_cancel_left] at t
    obtain ⟨rfl, rfl⟩ := t
    exact ⟨_, mp, rfl, off.refl _, x4.next⟩
theorem op_24 {uc us : Nat} (hL : LI G b n k S h) (hk : 5 * k + 5 ≤ n) (hn : n ≤ 2560) (hu : uc ≤ 100 + 10 * k) (hs : us ≤ 400000 + 100 * k) (hQ : ∀ S' h' uc' us' (u v : Option vg_V), LI G b n (k + 1) S' h' → uc' ≤ 100 + 10 * (k + 1) → us' ≤ 400000 + 100 * (k + 1) → vg_A G (MT 169) uc' us' 1964 [some (.inr (.inr (some (G.2.2.2.2 4)))), some (.inr (.inr (some b))), some (.inr (.inr (some (b + 37)))), some (.inr (.inr (some (b + 80)))), some (.inl (nI (5 * k))), u, v] [] h' Q) : vg_A G (MT 169) uc us 1736 [some (.inr (.inr (some (G.2.2.2.2 4)))), some (.inr (.inr (some b))), some (.inr (.inr (some (b + 37)))), some (.inr (.inr (some (b + 80)))), some (.inl (nI (5 * k))), none, none] [] h Q := by
  obtain ⟨⟨A, x1, x2⟩, x3, x4, _⟩ := id hL
  have k5 : k < 512 := by omega
  have k6 : k ≤ 512 := by omega
  have ic := x4.2.2.2.2.2.1
  obtain ⟨p1, y1⟩ : ∃ p, h.2.2.1 (G.2.2.2.2 4) (5 * k + 1) = p := ⟨_, rfl⟩
  obtain ⟨p2, y2⟩ : ∃ p, h.2.2.1 (G.2.2.2.2 4) (5 * k + 2) = p := ⟨_, rfl⟩
  obtain ⟨p3, y3⟩ : ∃ p, h.2.2.1 (G.2.2.2.2 4) (5 * k + 3) = p := ⟨_, rfl⟩
  obtain ⟨p4, y4⟩ : ∃ p, h.2.2.1 (G.2.2.2.2 4) (5 * k + 4) = p := ⟨_, rfl⟩
  refine wk_24 (R := RR (kLeast S p1 p2 p3) S (fun v S' => v = cI (if p4 < 0 then -1 else bst S p1.toNatClampNeg (p2.toNatClampNeg % 10080) (p3.toNatClampNeg - p2.toNatClampNeg) p4.toNatClampNeg) ∧ S' = S)) hL hk hn hu hs y1 y2 y3 y4 hQ (hh_24 hL ?_) (fun w v S' h1 hR m => ?_)
  · refine c_8 x1 x2 x4.op x4.hr (fun e h' c => CO.bad1 e c) (fun e h' c => CO.bad2 e c) (fun Z X n e1 e2 e3 b1 b2 b3 e h' c => CO.good e ?_ c)
    subst e1 e2 e3; rw [nI_clamp (by omega), nI_clamp (by omega), nI_clamp (by omega), Nat.add_sub_cancel_left]; exact ⟨rfl, rfl⟩
  · refine c_97 m x4.op (fun e h' mp => PM.bad hR x4 e mp) (fun Z X n e1 e2 e3 b1 b2 b3 e h' mp => PM.good hR e (fun t => ?_))
    subst e1 e2 e3; rw [nI_clamp (by omega), nI_clamp (by omega), nI_clamp (by omega), Nat.add_sub_cancel_left] at t
    obtain ⟨rfl, rfl⟩ := t
    exact ⟨_, mp, rfl, off.refl _, x4.next⟩
theorem op_25 {uc us : Nat} (hL : LI G b n k S h) (hk : 5 * k + 5 ≤ n) (hn : n ≤ 2560) (hu : uc ≤ 100 + 10 * k) (hs : us ≤ 400000 + 100 * k) (hQ : ∀ S' h' uc' us' (u v : Option vg_V), LI G b n (k + 1) S' h' → uc' ≤ 100 + 10 * (k + 1) → us' ≤ 400000 + 100 * (k + 1) → vg_A G (MT 169) uc' us' 1964 [some (.inr (.inr (some (G.2.2.2.2 4)))), some (.inr (.inr (some b))), some (.inr (.inr (some (b + 37)))), some (.inr (.inr (some (b + 80)))), some (.inl (nI (5 * k))), u, v] [] h' Q) : vg_A G (MT 169) uc us 1828 [some (.inr (.inr (some (G.2.2.2.2 4)))), some (.inr (.inr (some b))), some (.inr (.inr (some (b + 37)))), some (.inr (.inr (some (b + 80)))), some (.inl (nI (5 * k))), none, none] [] h Q := by
  obtain ⟨⟨A, x1, x2⟩, x3, x4, _⟩ := id hL
  have k5 : k < 512 := by omega
  have k6 : k ≤ 512 := by omega
  have ic := x4.2.2.2.2.2.1
  obtain ⟨p1, y1⟩ : ∃ p, h.2.2.1 (G.2.2.2.2 4) (5 * k + 1) = p := ⟨_, rfl⟩
  obtain ⟨p2, y2⟩ : ∃ p, h.2.2.1 (G.2.2.2.2 4) (5 * k + 2) = p := ⟨_, rfl⟩
  refine wk_25 (R := RR (kJ p2) S (fun v S' => v = cI (vJ S p1 p2) ∧ S' = S)) hL hk hn hu hs y1 y2 hQ (hh_25 hL ?_) (fun w v S' h1 hR m => ?_)
  · exact c_39 x1 x2 (x4.okp k6) (x4.np k6) (fun e h' c => CO1.bad (kJ_1 e) c) (fun e => CO1.good e ⟨rfl, rfl⟩ (CE.refl x1 x2))
  · exact c_133 m (x4.okp k6) (fun e h' mp => PM.bad hR x4 e (by rw [kJ_1 e]; exact mp)) (fun e h' mp => PM.go hR e mp x4.next)
theorem op_26 {uc us : Nat} (hL : LI G b n k S h) (hk : 5 * k + 5 ≤ n) (hn : n ≤ 2560) (hu : uc ≤ 100 + 10 * k) (hs : us ≤ 400000 + 100 * k) (hQ : ∀ S' h' uc' us' (u v : Option vg_V), LI G b n (k + 1) S' h' → uc' ≤ 100 + 10 * (k + 1) → us' ≤ 400000 + 100 * (k + 1) → vg_A G (MT 169) uc' us' 1964 [some (.inr (.inr (some (G.2.2.2.2 4)))), some (.inr (.inr (some b))), some (.inr (.inr (some (b + 37)))), some (.inr (.inr (some (b + 80)))), some (.inl (nI (5 * k))), u, v] [] h' Q) : vg_A G (MT 169) uc us 1896 [some (.inr (.inr (some (G.2.2.2.2 4)))), some (.inr (.inr (some b))), some (.inr (.inr (some (b + 37)))), some (.inr (.inr (some (b + 80)))), some (.inl (nI (5 * k))), none, none] [] h Q := by
  obtain ⟨⟨A, x1, x2⟩, x3, x4, _⟩ := id hL
  have k5 : k < 512 := by omega
  have k6 : k ≤ 512 := by omega
  have ic := x4.2.2.2.2.2.1
  obtain ⟨p1, y1⟩ : ∃ p, h.2.2.1 (G.2.2.2.2 4) (5 * k + 1) = p := ⟨_, rfl⟩
  obtain ⟨p2, y2⟩ : ∃ p, h.2.2.1 (G.2.2.2.2 4) (5 * k + 2) = p := ⟨_, rfl⟩
  refine wk_26 (R := RR (kT p1 p2) S (fun v S' => v = cI (vT S p1 p2) ∧ S' = S)) hL hk hn hu hs y1 y2 hQ (hh_26 hL ?_) (fun w v S' h1 hR m => ?_)
  · exact c_59 x1 x2 (x4.okp k6) (x4.np k6) (fun e h' c => CO1.bad (kT_1 e) c) (fun e => CO1.good e ⟨rfl, rfl⟩ (CE.refl x1 x2))
  · exact c_153 m (x4.okp k6) (fun e h' mp => PM.bad hR x4 e (by rw [kT_1 e]; exact mp)) (fun e h' mp => PM.go hR e mp x4.next)
end LP
