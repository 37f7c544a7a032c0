/-! ===== change: the fewest coins ===== -/
theorem sub40 {a b c d t : Nat} (h : 40 * t ≤ 20 * a + 4 * b + 2 * c + d) (ht : 1 ≤ t) : ∃ a' b' c' d', a' ≤ a ∧ b' ≤ b ∧ c' ≤ c ∧ d' ≤ d ∧ 20 * a' + 4 * b' + 2 * c' + d' = 40 * t ∧ t < a' + b' + c' + d' := by
  by_cases h1 : 2 * t ≤ a
  · exact ⟨2 * t, 0, 0, 0, by omega, by omega, by omega, by omega, by omega, by omega⟩
  by_cases h2 : 40 * t ≤ 20 * a + 4 * b
  · exact ⟨a, (40 * t - 20 * a) / 4, 0, 0, by omega, by omega, by omega, by omega, by omega, by omega⟩
  by_cases h3 : 40 * t ≤ 20 * a + 4 * b + 2 * c
  · exact ⟨a, b, (40 * t - 20 * a - 4 * b) / 2, 0, by omega, by omega, by omega, by omega, by omega, by omega⟩
  · exact ⟨a, b, c, 40 * t - 20 * a - 4 * b - 2 * c, by omega, by omega, by omega, by omega, by omega, by omega⟩
theorem sub20 {b c d t : Nat} (h : 20 * t ≤ 4 * b + 2 * c + d) (ht : 1 ≤ t) : ∃ b' c' d', b' ≤ b ∧ c' ≤ c ∧ d' ≤ d ∧ 4 * b' + 2 * c' + d' = 20 * t ∧ t < b' + c' + d' := by
  by_cases h2 : 20 * t ≤ 4 * b
  · exact ⟨5 * t, 0, 0, by omega, by omega, by omega, by omega, by omega⟩
  by_cases h3 : 20 * t ≤ 4 * b + 2 * c
  · exact ⟨b, (20 * t - 4 * b) / 2, 0, by omega, by omega, by omega, by omega, by omega⟩
  · exact ⟨b, c, 20 * t - 4 * b - 2 * c, by omega, by omega, by omega, by omega, by omega⟩
theorem sub4 {c d t : Nat} (h : 4 * t ≤ 2 * c + d) (ht : 1 ≤ t) : ∃ c' d', c' ≤ c ∧ d' ≤ d ∧ 2 * c' + d' = 4 * t ∧ t < c' + d' := by
  by_cases h3 : 4 * t ≤ 2 * c
  · exact ⟨2 * t, 0, by omega, by omega, by omega, by omega⟩
  · exact ⟨c, 4 * t - 2 * c, by omega, by omega, by omega, by omega⟩
/-- the greedy choice for R fives without fifties -/
def gr5 (s : Nat → Nat) (R : Nat) : Nat := min (s 5) (R / 40)
def gr4 (s : Nat → Nat) (R : Nat) : Nat := min (s 4) ((R - 40 * gr5 s R) / 20)
def gr2 (s : Nat → Nat) (R : Nat) : Nat := min (s 2) ((R - 40 * gr5 s R - 20 * gr4 s R) / 4)
def gr1 (s : Nat → Nat) (R : Nat) : Nat := min (s 1) ((R - 40 * gr5 s R - 20 * gr4 s R - 4 * gr2 s R) / 2)
def gr0 (s : Nat → Nat) (R : Nat) : Nat := min (s 0) (R - 40 * gr5 s R - 20 * gr4 s R - 4 * gr2 s R - 2 * gr1 s R)
def grR (s : Nat → Nat) (R : Nat) : Nat := R - 40 * gr5 s R - 20 * gr4 s R - 4 * gr2 s R - 2 * gr1 s R - gr0 s R
def grC (s : Nat → Nat) (R : Nat) : Nat := gr5 s R + gr4 s R + gr2 s R + gr1 s R + gr0 s R
theorem gre_ok {s : Nat → Nat} {R a b c d e : Nat} (ha : a ≤ s 5) (hb : b ≤ s 4) (hc : c ≤ s 2) (hd : d ≤ s 1) (he : e ≤ s 0) (h : 40 * a + 20 * b + 4 * c + 2 * d + e = R) :
    grR s R = 0 ∧ (grC s R < a + b + c + d + e ∨ (a = gr5 s R ∧ b = gr4 s R ∧ c = gr2 s R ∧ d = gr1 s R ∧ e = gr0 s R)) := by
  -- by levels
  have L5 : ∃ b' c' d' e', b' ≤ s 4 ∧ c' ≤ s 2 ∧ d' ≤ s 1 ∧ e' ≤ s 0 ∧ 40 * gr5 s R + 20 * b' + 4 * c' + 2 * d' + e' = R ∧ (gr5 s R + b' + c' + d' + e' < a + b + c + d + e ∨ (a = gr5 s R ∧ b' = b ∧ c' = c ∧ d' = d ∧ e' = e)) := by
    by_cases q : a = gr5 s R
    · exact ⟨b, c, d, e, hb, hc, hd, he, by omega, Or.inr ⟨q, rfl, rfl, rfl, rfl⟩⟩
    · have q1 : a < gr5 s R ∧ gr5 s R ≤ s 5 ∧ 40 * gr5 s R ≤ R := by unfold gr5 at *; omega
      obtain ⟨b', c', d', e', p1, p2, p3, p4, p5, p6⟩ := sub40 (a := b) (b := c) (c := d) (d := e) (t := gr5 s R - a) (by omega) (by omega)
      exact ⟨b - b', c - c', d - d', e - e', by omega, by omega, by omega, by omega, by omega, Or.inl (by omega)⟩
  obtain ⟨b1, c1, d1, e1, hb1, hc1, hd1, he1, h1, m1⟩ := L5
  have L4 : ∃ c' d' e', c' ≤ s 2 ∧ d' ≤ s 1 ∧ e' ≤ s 0 ∧ 40 * gr5 s R + 20 * gr4 s R + 4 * c' + 2 * d' + e' = R ∧ (gr4 s R + c' + d' + e' < b1 + c1 + d1 + e1 ∨ (b1 = gr4 s R ∧ c' = c1 ∧ d' = d1 ∧ e' = e1)) := by
    by_cases q : b1 = gr4 s R
    · exact ⟨c1, d1, e1, hc1, hd1, he1, by omega, Or.inr ⟨q, rfl, rfl, rfl⟩⟩
    · have q1 : b1 < gr4 s R ∧ gr4 s R ≤ s 4 ∧ 40 * gr5 s R + 20 * gr4 s R ≤ R := by unfold gr4 at *; omega
      obtain ⟨c', d', e', p2, p3, p4, p5, p6⟩ := sub20 (b := c1) (c := d1) (d := e1) (t := gr4 s R - b1) (by omega) (by omega)
      exact ⟨c1 - c', d1 - d', e1 - e', by omega, by omega, by omega, by omega, Or.inl (by omega)⟩
  obtain ⟨c2, d2, e2, hc2, hd2, he2, h2, m2⟩ := L4
  have L2 : ∃ d' e', d' ≤ s 1 ∧ e' ≤ s 0 ∧ 40 * gr5 s R + 20 * gr4 s R + 4 * gr2 s R + 2 * d' + e' = R ∧ (gr2 s R + d' + e' < c2 + d2 + e2 ∨ (c2 = gr2 s R ∧ d' = d2 ∧ e' = e2)) := by
    by_cases q : c2 = gr2 s R
    · exact ⟨d2, e2, hd2, he2, by omega, Or.inr ⟨q, rfl, rfl⟩⟩
    · have q1 : c2 < gr2 s R ∧ gr2 s R ≤ s 2 ∧ 40 * gr5 s R + 20 * gr4 s R + 4 * gr2 s R ≤ R := by unfold gr2 at *; omega
      obtain ⟨d', e', p3, p4, p5, p6⟩ := sub4 (c := d2) (d := e2) (t := gr2 s R - c2) (by omega) (by omega)
      exact ⟨d2 - d', e2 - e', by omega, by omega, by omega, Or.inl (by omega)⟩
  obtain ⟨d3, e3, hd3, he3, h3, m3⟩ := L2
  have L1 : ∃ e', e' ≤ s 0 ∧ 40 * gr5 s R + 20 * gr4 s R + 4 * gr2 s R + 2 * gr1 s R + e' = R ∧ (gr1 s R + e' < d3 + e3 ∨ (d3 = gr1 s R ∧ e' = e3)) := by
    by_cases q : d3 = gr1 s R
    · exact ⟨e3, he3, by omega, Or.inr ⟨q, rfl⟩⟩
    · have q1 : d3 < gr1 s R ∧ gr1 s R ≤ s 1 ∧ 40 * gr5 s R + 20 * gr4 s R + 4 * gr2 s R + 2 * gr1 s R ≤ R := by unfold gr1 at *; omega
      exact ⟨e3 - 2 * (gr1 s R - d3), by omega, by omega, Or.inl (by omega)⟩
  obtain ⟨e4, he4, h4, m4⟩ := L1
  clear hb1 hc1 hd1 he1 hc2 hd2 he2 hd3 he3 ha hb hc hd he
  have q0 : e4 = gr0 s R := by unfold gr0; clear m1 m2 m3 m4 h1 h2 h3 h; omega
  have qR : grR s R = 0 := by unfold grR; clear m1 m2 m3 m4 h1 h2 h3 h; omega
  refine ⟨qR, ?_⟩
  unfold grC
  clear h h1 h2 h3 h4 qR he4
  generalize gr5 s R = g5 at *
  generalize gr4 s R = g4 at *
  generalize gr2 s R = g2 at *
  generalize gr1 s R = g1 at *
  generalize gr0 s R = g0 at *
  subst q0
  rcases m4 with m4 | ⟨u1, u2⟩
  · refine Or.inl ?_
    have t3 : g2 + d3 + e3 ≤ c2 + d2 + e2 := by omega
    have t2 : g4 + c2 + d2 + e2 ≤ b1 + c1 + d1 + e1 := by omega
    have t1 : g5 + b1 + c1 + d1 + e1 ≤ a + b + c + d + e := by omega
    omega
  subst u1; subst u2
  rcases m3 with m3 | ⟨u1, u2, u3⟩
  · refine Or.inl ?_
    have t2 : g4 + c2 + d2 + e2 ≤ b1 + c1 + d1 + e1 := by omega
    have t1 : g5 + b1 + c1 + d1 + e1 ≤ a + b + c + d + e := by omega
    omega
  subst u1; subst u2; subst u3
  rcases m2 with m2 | ⟨u1, u2, u3, u4⟩
  · refine Or.inl ?_
    have t1 : g5 + b1 + c1 + d1 + e1 ≤ a + b + c + d + e := by omega
    omega
  rcases m1 with m1 | ⟨v1, v2, v3, v4, v5⟩
  · exact Or.inl (by omega)
  · exact Or.inr (by omega)
def smN (f : Nat → Nat) : Nat → Nat
  | 0 => 0
  | k + 1 => smN f k + f k
theorem smN_congr {f g : Nat → Nat} : ∀ (k : Nat), (∀ i, i < k → f i = g i) → smN f k = smN g k
  | 0, _ => rfl
  | k + 1, h => by show smN f k + f k = smN g k + g k; rw [smN_congr k (fun i hi => h i (by omega)), h k (by omega)]
/-- what a coin is worth, in fives -/
def unN : Nat → Nat
  | 0 => 1 | 1 => 2 | 2 => 4 | 3 => 10 | 4 => 20 | _ => 40
/-- x pays r fives with coins of kinds below k out of the stock s -/
def Fe (s : Nat → Nat) (k : Nat) (x : Nat → Nat) (r : Nat) : Prop := (∀ i, i < k → x i ≤ s i) ∧ smN (fun i => unN i * x i) k = r
def lexge (k : Nat) (x y : Nat → Nat) : Prop := (∀ i, i < k → x i = y i) ∨ ∃ i, i < k ∧ y i < x i ∧ ∀ j, i < j → j < k → x j = y j
/-- the fewest coins, of these the most dear ones -/
def Opt (s : Nat → Nat) (k r : Nat) (x : Nat → Nat) : Prop := Fe s k x r ∧ ∀ y, Fe s k y r → smN x k < smN y k ∨ (smN x k = smN y k ∧ lexge k x y)
theorem lexge_anti {k : Nat} {x y : Nat → Nat} (h1 : lexge k x y) (h2 : lexge k y x) : ∀ i, i < k → x i = y i := by
  rcases h1 with h1 | ⟨i, i1, i2, i3⟩
  · exact h1
  · rcases h2 with h2 | ⟨j, j1, j2, j3⟩
    · exact fun a ha => (h2 a ha).symm
    · exfalso
      rcases Nat.lt_trichotomy i j with q | q | q
      · have := i3 j q j1; omega
      · subst q; omega
      · have := j3 i q i1; omega
theorem Opt.uniq {s : Nat → Nat} {k r : Nat} {x y : Nat → Nat} (h1 : Opt s k r x) (h2 : Opt s k r y) : ∀ i, i < k → x i = y i := by
  rcases h1.2 y h2.1 with q | ⟨q1, q2⟩
  · rcases h2.2 x h1.1 with p | ⟨p1, p2⟩ <;> omega
  · rcases h2.2 x h1.1 with p | ⟨p1, p2⟩
    · omega
    · exact lexge_anti q2 p2
theorem Fe.congr {s : Nat → Nat} {k r : Nat} {x y : Nat → Nat} (h : ∀ i, i < k → x i = y i) (p : Fe s k x r) : Fe s k y r :=
  ⟨fun i hi => by rw [← h i hi]; exact p.1 i hi, by rw [← p.2]; exact smN_congr k (fun i hi => by rw [h i hi])⟩
/-- v is the model's entry for kinds below k and r fives: none, or the least number of coins -/
def FWn (s : Nat → Nat) (k r : Nat) (v : Option Nat) : Prop := (v = none ∧ ∀ x, ¬ Fe s k x r) ∨ ∃ x, Fe s k x r ∧ v = some (smN x k) ∧ ∀ y, Fe s k y r → smN x k ≤ smN y k
/-- .. of those with fewer than j of kind k -/
def FWj (s : Nat → Nat) (k r j : Nat) (v : Option Nat) : Prop := (v = none ∧ ∀ x, Fe s (k + 1) x r → ¬ x k < j) ∨ ∃ x, Fe s (k + 1) x r ∧ x k < j ∧ v = some (smN x (k + 1)) ∧ ∀ y, Fe s (k + 1) y r → y k < j → smN x (k + 1) ≤ smN y (k + 1)
def setN (x : Nat → Nat) (k v : Nat) : Nat → Nat := fun i => if i = k then v else x i
theorem setN_e {x : Nat → Nat} {k v : Nat} : setN x k v k = v := if_pos rfl
theorem setN_n {x : Nat → Nat} {k v i : Nat} (h : ¬ i = k) : setN x k v i = x i := if_neg h
theorem setN_sm {x : Nat → Nat} {k v : Nat} : smN (setN x k v) (k + 1) = smN x k + v := by
  show smN (setN x k v) k + setN x k v k = _
  rw [setN_e, smN_congr k (fun i hi => setN_n (by omega))]
theorem Fe.up {s : Nat → Nat} {k r v : Nat} {x : Nat → Nat} (h : Fe s k x r) (hv : v ≤ s k) : Fe s (k + 1) (setN x k v) (r + unN k * v) := by
  refine ⟨fun i hi => ?_, ?_⟩
  · by_cases e : i = k
    · subst e; rw [setN_e]; exact hv
    · rw [setN_n e]; exact h.1 i (by omega)
  · show smN (fun i => unN i * setN x k v i) k + unN k * setN x k v k = _
    rw [setN_e, smN_congr k (g := fun i => unN i * x i) (fun i hi => by show unN i * setN x k v i = _; rw [setN_n (by omega)]), h.2]
theorem Fe.dn {s : Nat → Nat} {k r : Nat} {x : Nat → Nat} (h : Fe s (k + 1) x r) : x k ≤ s k ∧ unN k * x k ≤ r ∧ Fe s k x (r - unN k * x k) := by
  have e : smN (fun i => unN i * x i) k + unN k * x k = r := h.2
  exact ⟨h.1 k (by omega), by omega, fun i hi => h.1 i (by omega), by omega⟩
theorem FWj_0 (s : Nat → Nat) (k r : Nat) : FWj s k r 0 none := Or.inl ⟨rfl, fun _ _ => by omega⟩
/-- one more turn of the model's inner loop -/
theorem FWj_s {s : Nat → Nat} {k r j : Nat} {v w : Option Nat} (h : FWj s k r j v) (hj : j ≤ s k) (hr : j * unN k ≤ r) (hw : FWn s k (r - j * unN k) w) :
    FWj s k r (j + 1) (match w with | none => v | some b => match v with | none => some (b + j) | some a => if b + j < a then some (b + j) else some a) := by
  have hm : unN k * j = j * unN k := Nat.mul_comm _ _
  rcases hw with ⟨rfl, hw⟩ | ⟨x, x1, rfl, x2⟩
  · have key : ∀ y, Fe s (k + 1) y r → y k < j + 1 → y k < j := fun y y1 y2 => by
      by_cases e : y k = j
      · have := y1.dn.2.2; rw [e, hm] at this; exact absurd this (hw y)
      · omega
    show FWj s k r (j + 1) v
    rcases h with ⟨rfl, h⟩ | ⟨x, x1, x2, rfl, x3⟩
    · exact Or.inl ⟨rfl, fun y y1 y2 => h y y1 (key y y1 y2)⟩
    · exact Or.inr ⟨x, x1, by omega, rfl, fun y y1 y2 => x3 y y1 (key y y1 y2)⟩
  · have u1 : Fe s (k + 1) (setN x k j) r := by have := x1.up hj; rwa [hm, Nat.sub_add_cancel hr] at this
    have u2 : smN (setN x k j) (k + 1) = smN x k + j := setN_sm
    have u3 : ∀ y, Fe s (k + 1) y r → y k = j → smN x k + j ≤ smN y (k + 1) := fun y y1 y2 => by
      have := y1.dn.2.2; rw [y2, hm] at this
      have := x2 y this
      show _ ≤ smN y k + y k
      omega
    have u4 : setN x k j k = j := setN_e
    rcases h with ⟨rfl, h⟩ | ⟨z, z1, z2, rfl, z3⟩
    · refine Or.inr ⟨setN x k j, u1, by omega, by show some _ = _; rw [u2], fun y y1 y2 => ?_⟩
      rw [u2]
      exact u3 y y1 (by have := h y y1; omega)
    · show FWj s k r (j + 1) (if smN x k + j < smN z (k + 1) then some (smN x k + j) else some (smN z (k + 1)))
      by_cases q : smN x k + j < smN z (k + 1)
      · rw [if_pos q]
        refine Or.inr ⟨setN x k j, u1, by omega, by rw [u2], fun y y1 y2 => ?_⟩
        rw [u2]
        by_cases e : y k = j
        · exact u3 y y1 e
        · have := z3 y y1 (by omega); omega
      · rw [if_neg q]
        refine Or.inr ⟨z, z1, by omega, rfl, fun y y1 y2 => ?_⟩
        by_cases e : y k = j
        · have := u3 y y1 e; omega
        · exact z3 y y1 (by omega)
theorem FWj_end {s : Nat → Nat} {k r j : Nat} {v : Option Nat} (h : FWj s k r j v) (hj : s k < j ∨ r < j * unN k) : FWn s (k + 1) r v := by
  have key : ∀ y, Fe s (k + 1) y r → y k < j := fun y y1 => by
    have := y1.dn
    rcases hj with q | q
    · omega
    · rcases Nat.lt_or_ge (y k) j with p | p
      · exact p
      · have : unN k * j ≤ unN k * y k := Nat.mul_le_mul_left _ p
        have : unN k * j = j * unN k := Nat.mul_comm _ _
        omega
  rcases h with ⟨rfl, h⟩ | ⟨x, x1, x2, rfl, x3⟩
  · exact Or.inl ⟨rfl, fun y y1 => h y y1 (key y y1)⟩
  · exact Or.inr ⟨x, x1, rfl, fun y y1 => x3 y y1 (key y y1)⟩
theorem FWn_uniq {s : Nat → Nat} {k r : Nat} {v w : Option Nat} (h1 : FWn s k r v) (h2 : FWn s k r w) : v = w := by
  rcases h1 with ⟨rfl, h1⟩ | ⟨x, x1, rfl, x2⟩ <;> rcases h2 with ⟨rfl, h2⟩ | ⟨y, y1, rfl, y2⟩
  · rfl
  · exact absurd y1 (h1 y)
  · exact absurd x1 (h2 x)
  · have := x2 y y1; have := y2 x x1; congr 1; omega
/-- the model's choice: j is the most of kind k with which the fewest coins do -/
theorem Opt.up {s : Nat → Nat} {k r j d : Nat} {x : Nat → Nat} (hd : FWn s (k + 1) r (some d)) (hj : j ≤ s k) (hr : j * unN k ≤ r) (hw : ∃ b, FWn s k (r - j * unN k) (some b) ∧ b + j = d) (hm : ∀ i, j < i → i ≤ s k → i * unN k ≤ r → ∀ b, FWn s k (r - i * unN k) (some b) → ¬ b + i = d) (hx : Opt s k (r - j * unN k) x) : Opt s (k + 1) r (setN x k j) := by
  have mc : unN k * j = j * unN k := Nat.mul_comm _ _
  obtain ⟨b, b1, b2⟩ := hw
  have hxb : smN x k = b := by
    rcases b1 with ⟨q, _⟩ | ⟨z, z1, z2, z3⟩
    · cases q
    · have e : b = smN z k := by injection z2
      have p1 := z3 x hx.1
      rcases hx.2 z z1 with q | ⟨q, _⟩ <;> omega
  have u1 : Fe s (k + 1) (setN x k j) r := by have := hx.1.up hj; rwa [mc, Nat.sub_add_cancel hr] at this
  have u2 : smN (setN x k j) (k + 1) = d := by rw [setN_sm]; omega
  refine ⟨u1, fun y y1 => ?_⟩
  have hy : d ≤ smN y (k + 1) := by
    rcases hd with ⟨q, _⟩ | ⟨z, z1, z2, z3⟩
    · cases q
    · have e : d = smN z (k + 1) := by injection z2
      rw [e]; exact z3 y y1
  rw [u2]
  rcases Nat.lt_or_ge d (smN y (k + 1)) with q | q
  · exact Or.inl q
  · have e : smN y (k + 1) = d := by omega
    have e2 : smN y k + y k = d := e
    refine Or.inr ⟨e.symm, ?_⟩
    obtain ⟨d1, d2, d3⟩ := y1.dn
    -- y k is one of those
    have yk : y k ≤ j := by
      rcases Nat.lt_or_ge j (y k) with p | p
      · exfalso
        have nb : FWn s k (r - y k * unN k) (some (smN y k)) := by
          refine Or.inr ⟨y, by rw [Nat.mul_comm]; exact d3, rfl, fun z z1 => ?_⟩
          have z2 := z1.up d1
          rw [show r - y k * unN k + unN k * y k = r by rw [Nat.mul_comm (y k)]; exact Nat.sub_add_cancel d2] at z2
          have z3 : d ≤ smN (setN z k (y k)) (k + 1) := by
            rcases hd with ⟨q, _⟩ | ⟨w, w1, w2, w3⟩
            · cases q
            · have e : d = smN w (k + 1) := by injection w2
              rw [e]; exact w3 _ z2
          rw [setN_sm] at z3
          omega
        exact hm (y k) p d1 (by rw [Nat.mul_comm]; exact d2) _ nb e2
      · exact p
    rcases Nat.lt_or_ge (y k) j with p | p
    · exact Or.inr ⟨k, by omega, by rw [setN_e]; exact p, fun i h1 h2 => by omega⟩
    · have ek : y k = j := by omega
      have d3' : Fe s k y (r - j * unN k) := by rw [← mc, ← ek]; exact d3
      rcases hx.2 y d3' with q2 | ⟨q2, q3⟩
      · omega
      · rcases q3 with q3 | ⟨i, i1, i2, i3⟩
        · refine Or.inl (fun i hi => ?_)
          by_cases e : i = k
          · subst e; rw [setN_e]; exact ek.symm
          · rw [setN_n e]; exact q3 i (by omega)
        · refine Or.inr ⟨i, by omega, by rw [setN_n (by omega)]; exact i2, fun a h1 h2 => ?_⟩
          by_cases e : a = k
          · subst e; rw [setN_e]; exact ek.symm
          · rw [setN_n e]; exact i3 a h1 (by omega)
/-! the class: for each number f of fifties the greedy choice -/
def grX (s : Nat → Nat) (r f : Nat) : Nat → Nat
  | 0 => gr0 s (r - 10 * f) | 1 => gr1 s (r - 10 * f) | 2 => gr2 s (r - 10 * f) | 3 => f | 4 => gr4 s (r - 10 * f) | _ => gr5 s (r - 10 * f)
theorem sm6 (f : Nat → Nat) : smN f 6 = f 0 + f 1 + f 2 + f 3 + f 4 + f 5 := by show 0 + f 0 + f 1 + f 2 + f 3 + f 4 + f 5 = _; omega
theorem sm6u (x : Nat → Nat) : smN (fun i => unN i * x i) 6 = x 0 + 2 * x 1 + 4 * x 2 + 10 * x 3 + 20 * x 4 + 40 * x 5 := by
  rw [sm6]; show 1 * x 0 + 2 * x 1 + 4 * x 2 + 10 * x 3 + 20 * x 4 + 40 * x 5 = _; omega
theorem lt6 {P : Nat → Prop} (h0 : P 0) (h1 : P 1) (h2 : P 2) (h3 : P 3) (h4 : P 4) (h5 : P 5) : ∀ i, i < 6 → P i := by
  intro i hi
  match i, hi with
  | 0, _ => exact h0
  | 1, _ => exact h1
  | 2, _ => exact h2
  | 3, _ => exact h3
  | 4, _ => exact h4
  | 5, _ => exact h5
theorem grX_Fe {s : Nat → Nat} {r f : Nat} (hf : f ≤ s 3) (hr : 10 * f ≤ r) (h : grR s (r - 10 * f) = 0) : Fe s 6 (grX s r f) r := by
  refine ⟨lt6 (P := fun i => grX s r f i ≤ s i) ?_ ?_ ?_ ?_ ?_ ?_, ?_⟩
  · exact Nat.min_le_left _ _
  · exact Nat.min_le_left _ _
  · exact Nat.min_le_left _ _
  · exact hf
  · exact Nat.min_le_left _ _
  · exact Nat.min_le_left _ _
  · rw [sm6u]
    show gr0 s (r - 10 * f) + 2 * gr1 s (r - 10 * f) + 4 * gr2 s (r - 10 * f) + 10 * f + 20 * gr4 s (r - 10 * f) + 40 * gr5 s (r - 10 * f) = r
    have b5 : 40 * gr5 s (r - 10 * f) ≤ r - 10 * f := by unfold gr5; omega
    have b4 : 20 * gr4 s (r - 10 * f) ≤ r - 10 * f - 40 * gr5 s (r - 10 * f) := by unfold gr4; omega
    have b2 : 4 * gr2 s (r - 10 * f) ≤ r - 10 * f - 40 * gr5 s (r - 10 * f) - 20 * gr4 s (r - 10 * f) := by unfold gr2; omega
    have b1 : 2 * gr1 s (r - 10 * f) ≤ r - 10 * f - 40 * gr5 s (r - 10 * f) - 20 * gr4 s (r - 10 * f) - 4 * gr2 s (r - 10 * f) := by unfold gr1; omega
    have b0 : gr0 s (r - 10 * f) ≤ r - 10 * f - 40 * gr5 s (r - 10 * f) - 20 * gr4 s (r - 10 * f) - 4 * gr2 s (r - 10 * f) - 2 * gr1 s (r - 10 * f) := by unfold gr0; omega
    unfold grR at h
    omega
theorem grX_best {s : Nat → Nat} {r : Nat} {y : Nat → Nat} (h : Fe s 6 y r) : 10 * y 3 ≤ r ∧ y 3 ≤ s 3 ∧ grR s (r - 10 * y 3) = 0 ∧ (smN (grX s r (y 3)) 6 < smN y 6 ∨ ∀ i, i < 6 → y i = grX s r (y 3) i) := by
  have h2 := h.2
  rw [sm6u] at h2
  obtain ⟨q1, q2⟩ := gre_ok (s := s) (R := r - 10 * y 3) (h.1 5 (by omega)) (h.1 4 (by omega)) (h.1 2 (by omega)) (h.1 1 (by omega)) (h.1 0 (by omega)) (by omega)
  refine ⟨by omega, h.1 3 (by omega), q1, ?_⟩
  rcases q2 with q2 | ⟨a, b, c, d, e⟩
  · refine Or.inl ?_
    rw [sm6, sm6]
    show gr0 s (r - 10 * y 3) + gr1 s (r - 10 * y 3) + gr2 s (r - 10 * y 3) + y 3 + gr4 s (r - 10 * y 3) + gr5 s (r - 10 * y 3) < _
    unfold grC at q2
    omega
  · exact Or.inr (lt6 (P := fun i => y i = grX s r (y 3) i) e d c rfl b a)
/-- what the class has found among fewer than f fifties -/
def Chs (s : Nat → Nat) (r f : Nat) (v : Option (Nat → Nat)) : Prop := (v = none ∧ ∀ g, g < f → ¬ grR s (r - 10 * g) = 0) ∨ ∃ g, g < f ∧ v = some (grX s r g) ∧ grR s (r - 10 * g) = 0 ∧ ∀ e, e < f → grR s (r - 10 * e) = 0 → smN (grX s r g) 6 < smN (grX s r e) 6 ∨ (smN (grX s r g) 6 = smN (grX s r e) 6 ∧ lexge 6 (grX s r g) (grX s r e))
theorem lexge_total (k : Nat) (x y : Nat → Nat) : lexge k x y ∨ lexge k y x := by
  induction k with
  | zero => exact Or.inl (Or.inl (fun i hi => by omega))
  | succ k ih =>
    rcases Nat.lt_trichotomy (x k) (y k) with q | q | q
    · exact Or.inr (Or.inr ⟨k, by omega, q, fun j h1 h2 => by omega⟩)
    · have ext : ∀ {x y : Nat → Nat}, x k = y k → lexge k x y → lexge (k + 1) x y := by
        intro x y q h
        rcases h with h | ⟨i, i1, i2, i3⟩
        · exact Or.inl (fun i hi => if e : i = k then by subst e; exact q else h i (by omega))
        · exact Or.inr ⟨i, by omega, i2, fun j h1 h2 => if e : j = k then by subst e; exact q else i3 j h1 (by omega)⟩
      exact ih.elim (fun h => Or.inl (ext q h)) (fun h => Or.inr (ext q.symm h))
    · exact Or.inl (Or.inr ⟨k, by omega, q, fun j h1 h2 => by omega⟩)
theorem lexge_trans {k : Nat} {x y z : Nat → Nat} (h1 : lexge k x y) (h2 : lexge k y z) : lexge k x z := by
  rcases h1 with h1 | ⟨i, i1, i2, i3⟩
  · rcases h2 with h2 | ⟨j, j1, j2, j3⟩
    · exact Or.inl (fun a ha => (h1 a ha).trans (h2 a ha))
    · exact Or.inr ⟨j, j1, by rw [h1 j j1]; exact j2, fun a h3 h4 => (h1 a h4).trans (j3 a h3 h4)⟩
  · rcases h2 with h2 | ⟨j, j1, j2, j3⟩
    · exact Or.inr ⟨i, i1, by rw [← h2 i i1]; exact i2, fun a h3 h4 => (i3 a h3 h4).trans (h2 a h4)⟩
    · rcases Nat.lt_trichotomy i j with q | q | q
      · exact Or.inr ⟨j, j1, by rw [i3 j q j1]; exact j2, fun a h3 h4 => (i3 a (by omega) h4).trans (j3 a h3 h4)⟩
      · subst q; exact Or.inr ⟨i, i1, by omega, fun a h3 h4 => (i3 a h3 h4).trans (j3 a h3 h4)⟩
      · exact Or.inr ⟨i, i1, by rw [← j3 i q i1]; exact i2, fun a h3 h4 => (i3 a h3 h4).trans (j3 a (by omega) h4)⟩
theorem Chs_0 (s : Nat → Nat) (r : Nat) : Chs s r 0 none := Or.inl ⟨rfl, fun g hg => by omega⟩
theorem Chs_skip {s : Nat → Nat} {r f : Nat} {v : Option (Nat → Nat)} (h : Chs s r f v) (hf : ¬ grR s (r - 10 * f) = 0) : Chs s r (f + 1) v := by
  rcases h with ⟨h1, h2⟩ | ⟨g, g1, g2, g3, g4⟩
  · exact Or.inl ⟨h1, fun g hg => if e : g = f then by subst e; exact hf else h2 g (by omega)⟩
  · exact Or.inr ⟨g, by omega, g2, g3, fun e he => if q : e = f then by subst q; exact fun z => absurd z hf else g4 e (by omega)⟩
theorem Chs_first {s : Nat → Nat} {r f : Nat} (h : Chs s r f none) (hf : grR s (r - 10 * f) = 0) : Chs s r (f + 1) (some (grX s r f)) := by
  rcases h with ⟨h1, h2⟩ | ⟨g, g1, g2, g3, g4⟩
  · exact Or.inr ⟨f, by omega, rfl, hf, fun e he => if q : e = f then by subst q; exact fun _ => Or.inr ⟨rfl, Or.inl (fun _ _ => rfl)⟩ else fun z => absurd z (h2 e (by omega))⟩
  · cases g2
/-- the new one is better -/
def betN (x y : Nat → Nat) : Prop := smN x 6 < smN y 6 ∨ (smN x 6 = smN y 6 ∧ ∃ i, i < 6 ∧ y i < x i ∧ ∀ j, i < j → j < 6 → x j = y j)
theorem Chs_better {s : Nat → Nat} {r f : Nat} {x : Nat → Nat} (h : Chs s r f (some x)) (hf : grR s (r - 10 * f) = 0) (hb : betN (grX s r f) x) : Chs s r (f + 1) (some (grX s r f)) := by
  rcases h with ⟨h1, h2⟩ | ⟨g, g1, g2, g3, g4⟩
  · cases h1
  · have e : x = grX s r g := by injection g2
    subst e
    refine Or.inr ⟨f, by omega, rfl, hf, fun e he hz => ?_⟩
    by_cases q : e = f
    · subst q; exact Or.inr ⟨rfl, Or.inl (fun _ _ => rfl)⟩
    · have p := g4 e (by omega) hz
      rcases hb with hb | ⟨hb, hl⟩
      · exact Or.inl (by omega)
      · rcases p with p | ⟨p, pl⟩
        · exact Or.inl (by omega)
        · exact Or.inr ⟨by omega, lexge_trans (Or.inr hl) pl⟩
theorem Chs_worse {s : Nat → Nat} {r f : Nat} {x : Nat → Nat} (h : Chs s r f (some x)) (hb : ¬ betN (grX s r f) x) : Chs s r (f + 1) (some x) := by
  rcases h with ⟨h1, h2⟩ | ⟨g, g1, g2, g3, g4⟩
  · cases h1
  · have e : x = grX s r g := by injection g2
    subst e
    refine Or.inr ⟨g, by omega, rfl, g3, fun e he hz => ?_⟩
    by_cases q : e = f
    · subst q
      rcases Nat.lt_trichotomy (smN (grX s r g) 6) (smN (grX s r e) 6) with p | p | p
      · exact Or.inl p
      · refine Or.inr ⟨p, ?_⟩
        rcases lexge_total 6 (grX s r g) (grX s r e) with l | l
        · exact l
        · rcases l with l | l
          · exact Or.inl (fun i hi => (l i hi).symm)
          · exact absurd (Or.inr ⟨p.symm, l⟩) hb
      · exact absurd (Or.inl p) hb
    · exact g4 e (by omega) hz
theorem Chs_none {s : Nat → Nat} {r f : Nat} (h : Chs s r f none) (hf : f = min (s 3) (r / 10) + 1) : ∀ y, ¬ Fe s 6 y r := by
  intro y hy
  obtain ⟨q1, q2, q3, q4⟩ := grX_best hy
  rcases h with ⟨_, h⟩ | ⟨g, g1, g2, g3, g4⟩
  · exact h (y 3) (by omega) q3
  · cases g2
theorem Chs_some {s : Nat → Nat} {r f : Nat} {x : Nat → Nat} (h : Chs s r f (some x)) (hf : f = min (s 3) (r / 10) + 1) : Opt s 6 r x := by
  rcases h with ⟨h, _⟩ | ⟨g, g1, g2, g3, g4⟩
  · cases h
  · have e : x = grX s r g := by injection g2
    subst e
    refine ⟨grX_Fe (by omega) (by omega) g3, fun y hy => ?_⟩
    obtain ⟨q1, q2, q3, q4⟩ := grX_best hy
    have p := g4 (y 3) (by omega) q3
    rcases q4 with q4 | q4
    · exact Or.inl (by omega)
    · have e2 : smN y 6 = smN (grX s r (y 3)) 6 := smN_congr 6 q4
      rw [e2]
      rcases p with p | ⟨p, l⟩
      · exact Or.inl p
      · exact Or.inr ⟨p, lexge_trans l (Or.inl (fun i hi => (q4 i hi).symm))⟩
