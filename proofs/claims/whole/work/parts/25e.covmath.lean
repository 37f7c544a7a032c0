/-! ===== covers: a right table is one alone, its bounds ===== -/
theorem LB.uniq {S : SS} {p fr e y y' : Nat} (h : LB S p fr e y) (h' : LB S p fr e y') : y = y' := by
  rcases Nat.lt_trichotomy y y' with q | q | q
  · exact absurd h'.2.1 (h.2.2 y' q h'.1)
  · exact q
  · exact absurd h.2.1 (h'.2.2 y q h.1)
theorem inZ.lt {S : SS} {z p : Nat} (h : inZ S z p) : p < 24 := h.1
theorem Cand.uniq {S : SS} {z fr e p d d' : Nat} (h : Cand S z fr e p d) (h' : Cand S z fr e p d') : d = d' := by
  rcases h with ⟨h1, y, h2, h3, h4⟩ | ⟨h1, h2, h3, h4⟩
  · rcases h' with ⟨k1, y', k2, k3, k4⟩ | ⟨k1, k2, k3, k4⟩
    · have := LB.uniq h2 k2; subst this; omega
    · have := h1.lt; omega
  · rcases h' with ⟨k1, y', k2, k3, k4⟩ | ⟨k1, k2, k3, k4⟩
    · have := k1.lt; omega
    · omega
theorem Cand.gt {S : SS} {z fr e p d : Nat} (h : Cand S z fr e p d) : e < d := by
  rcases h with ⟨h1, y, h2, h3, h4⟩ | ⟨h1, h2, h3, h4⟩ <;> omega
theorem Cand.le24 {S : SS} {z fr e p d : Nat} (h : Cand S z fr e p d) : p ≤ 24 := by
  rcases h with ⟨h1, y, h2, h3, h4⟩ | ⟨h1, h2, h3, h4⟩
  · have := h1.lt; omega
  · omega
theorem lexL_total {a b : Nat × Nat × Nat × Nat} (h1 : ¬ lexL a b) (h2 : ¬ lexL b a) : a.1 = b.1 ∧ a.2.1 = b.2.1 ∧ a.2.2.1 = b.2.2.1 := by
  unfold lexL at *; omega
theorem lexL_trans {a b c : Nat × Nat × Nat × Nat} (h1 : lexL a b) (h2 : lexL b c) : lexL a c := by
  unfold lexL at *; omega
theorem Right.uniq {S : SS} {z fr m : Nat} {W V : WT} (h : Right S z fr m W) (h' : Right S z fr m V) : ∀ e, W e = V e := by
  have key : ∀ n e, m ≤ e + n → W e = V e := by
    intro n
    induction n with
    | zero => intro e he; rw [h.1 e (by omega), h'.1 e (by omega)]
    | succ n ih =>
      intro e he
      rcases Nat.lt_or_ge e m with q | q
      · obtain ⟨⟨p, d, c1, e1⟩, l1⟩ := h.2 e q
        obtain ⟨⟨p', d', c2, e2⟩, l2⟩ := h'.2 e q
        have w1 : valC S V p d = valC S W p d := by unfold valC; rw [ih d (by have := c1.gt; omega)]
        have w2 : valC S W p' d' = valC S V p' d' := by unfold valC; rw [ih d' (by have := c2.gt; omega)]
        have n1 := l1 p' d' c2
        have n2 := l2 p d c1
        rw [w2, ← e2] at n1
        rw [w1, ← e1] at n2
        have t := lexL_total n1 n2
        have hp : p' = p := by have := t.2.2; rw [e1, e2] at this; exact this
        subst hp
        have hd := Cand.uniq c1 c2
        subst hd
        rw [e1, e2, w1]
      · rw [h.1 e q, h'.1 e q]
  exact fun e => key m e (by omega)
/-- in each hour some product of the zone may begin -/
def opP (S : SS) : Prop := ∀ z, z < 4 → ∀ a, a < 168 → ∃ p, inZ S z p ∧ mayB (S 9 p) (S 10 p) (nI a)
def okPr (S : SS) : Prop := ∀ p, p < 24 → ¬ S 5 p = 0 → prcP S p ≤ 20000 ∧ prcP S p % 5 = 0 ∧ 15 ≤ lenP S p ∧ lenP S p ≤ 4320
theorem opP.cand {S : SS} {z fr e : Nat} (h : opP S) (hp : okPr S) (hz : z < 4) : ∃ p d, Cand S z fr e p d ∧ p < 24 ∧ ¬ S 5 p = 0 ∧ e + 15 ≤ d := by
  obtain ⟨p, h1, h2⟩ := h z hz ((fr + e) % 10080 / 60) (by omega)
  have h3 := hp p h1.1 h1.2.1
  exact ⟨p, e + lenP S p, Or.inl ⟨h1, e, ⟨Nat.le_refl _, h2, fun j h4 h5 => by omega⟩, rfl, by omega⟩, h1.1, h1.2.1, by omega⟩
theorem Right.price {S : SS} {z fr m : Nat} {W : WT} (h : Right S z fr m W) (ho : opP S) (hp : okPr S) (hz : z < 4) : ∀ e, (W e).1 * 15 ≤ 20000 * (m - e + 14) := by
  have key : ∀ n e, m ≤ e + n → (W e).1 * 15 ≤ 20000 * (m - e + 14) := by
    intro n
    induction n with
    | zero => intro e he; rw [h.1 e (by omega)]; show 0 * 15 ≤ _; omega
    | succ n ih =>
      intro e he
      rcases Nat.lt_or_ge e m with q | q
      · obtain ⟨p, d, c, p1, p2, p3⟩ := ho.cand (fr := fr) (e := e) hp hz
        have l := (h.2 e q).2 p d c
        have l2 : (W e).1 ≤ prcP S p + (W d).1 := by unfold lexL valC at l; simp only at l; omega
        have b := (hp p p1 p2).1
        rcases Nat.lt_or_ge d m with q2 | q2
        · have := ih d (by omega); omega
        · rw [h.1 d q2] at l2
          have l2 : (W e).1 ≤ prcP S p + 0 := l2
          omega
      · rw [h.1 e q]; show 0 * 15 ≤ _; omega
  exact fun e => key m e (by omega)
theorem Right.many {S : SS} {z fr m : Nat} {W : WT} (h : Right S z fr m W) : ∀ e, (W e).2.1 ≤ m - e := by
  have key : ∀ n e, m ≤ e + n → (W e).2.1 ≤ m - e := by
    intro n
    induction n with
    | zero => intro e he; rw [h.1 e (by omega)]; exact Nat.zero_le _
    | succ n ih =>
      intro e he
      rcases Nat.lt_or_ge e m with q | q
      · obtain ⟨⟨p, d, c1, e1⟩, l1⟩ := h.2 e q
        rw [e1]
        show 1 + (W d).2.1 ≤ m - e
        have := c1.gt
        have := ih d (by omega)
        rcases Nat.lt_or_ge d m with q2 | q2
        · omega
        · rw [h.1 d q2]; show 1 + 0 ≤ m - e; omega
      · rw [h.1 e q]; exact Nat.zero_le _
  exact fun e => key m e (by omega)
theorem Right.five {S : SS} {z fr m : Nat} {W : WT} (h : Right S z fr m W) (hp : okPr S) : ∀ e, (W e).1 % 5 = 0 := by
  have key : ∀ n e, m ≤ e + n → (W e).1 % 5 = 0 := by
    intro n
    induction n with
    | zero => intro e he; rw [h.1 e (by omega)]; rfl
    | succ n ih =>
      intro e he
      rcases Nat.lt_or_ge e m with q | q
      · obtain ⟨⟨p, d, c1, e1⟩, l1⟩ := h.2 e q
        rw [e1]
        show (prcP S p + (W d).1) % 5 = 0
        have := c1.gt
        have := ih d (by omega)
        have : prcP S p % 5 = 0 := by
          rcases c1 with ⟨k1, y', k2, k3, k4⟩ | ⟨k1, k2, k3, k4⟩
          · exact (hp p k1.1 k1.2.1).2.1
          · unfold prcP; rw [if_pos k1]
        omega
      · rw [h.1 e q]; rfl
  exact fun e => key m e (by omega)
theorem Right.first {S : SS} {z fr m : Nat} {W : WT} (h : Right S z fr m W) (e : Nat) : (W e).2.2.1 ≤ 24 := by
  rcases Nat.lt_or_ge e m with q | q
  · obtain ⟨⟨p, d, c1, e1⟩, l1⟩ := h.2 e q
    rw [e1]; exact c1.le24
  · rw [h.1 e q]; exact Nat.zero_le _
/-- the lesser rank is the better row -/
theorem rkN_lt {a b : Nat × Nat × Nat × Nat} (ha : a.2.1 < 8192 ∧ a.2.2.1 < 32) (hb : b.2.1 < 8192 ∧ b.2.2.1 < 32) : rkN a < rkN b ↔ lexL a b := by
  unfold rkN lexL; omega
/-- the price of a stay -/
noncomputable def pz (S : SS) (z fr m : Nat) : Nat := @dite _ (∃ W, Right S z fr m W) (Classical.propDecidable _) (fun h => (h.choose 0).1) (fun _ => 0)
theorem Right.pzE {S : SS} {z fr m : Nat} {W : WT} (h : Right S z fr m W) : (W 0).1 = pz S z fr m := by
  have he : ∃ W, Right S z fr m W := ⟨W, h⟩
  unfold pz
  rw [dif_pos he, Right.uniq he.choose_spec h 0]
theorem pz_le {S : SS} {z fr m : Nat} (ho : opP S) (hp : okPr S) (hz : z < 4) (hm : m ≤ 4320) : pz S z fr m ≤ 5780000 ∧ pz S z fr m % 5 = 0 := by
  unfold pz
  by_cases he : ∃ W, Right S z fr m W
  · rw [dif_pos he]
    have := he.choose_spec.price ho hp hz 0
    exact ⟨by omega, he.choose_spec.five hp 0⟩
  · rw [dif_neg he]; exact ⟨by omega, rfl⟩
theorem pz_0 (S : SS) (z fr : Nat) : pz S z fr 0 = 0 := by
  unfold pz
  by_cases he : ∃ W, Right S z fr 0 W
  · rw [dif_pos he, he.choose_spec.1 0 (Nat.le_refl _)]
  · rw [dif_neg he]
/-- what a stay of n minutes from minute a on costs, in pieces of 4320 -/
noncomputable def chgN (S : SS) (z : Nat) : Nat → Nat → Nat → Nat
  | 0, a, n => pz S z (a % 10080) n
  | q + 1, a, n => pz S z (a % 10080) 4320 + chgN S z q (a + 4320) (n - 4320)
noncomputable def chg (S : SS) (z a n : Nat) : Nat := chgN S z (n / 4320) a n
theorem chgN_le {S : SS} {z : Nat} (ho : opP S) (hp : okPr S) (hz : z < 4) : ∀ (q a n : Nat), n < 4320 * (q + 1) → chgN S z q a n ≤ 5780000 * (q + 1) ∧ chgN S z q a n % 5 = 0
  | 0, a, n, h => by
    have := pz_le (fr := a % 10080) (m := n) ho hp hz (by omega)
    unfold chgN; omega
  | q + 1, a, n, h => by
    have := pz_le (fr := a % 10080) (m := 4320) ho hp hz (by omega)
    have := chgN_le ho hp hz q (a + 4320) (n - 4320) (by omega)
    unfold chgN; omega
theorem chg_le {S : SS} {z a n : Nat} (ho : opP S) (hp : okPr S) (hz : z < 4) (hn : n ≤ 200000) : chg S z a n ≤ 271660000 ∧ chg S z a n % 5 = 0 := by
  have := chgN_le (q := n / 4320) (a := a) (n := n) ho hp hz (by omega)
  unfold chg
  omega
theorem chg_s {S : SS} {z a n : Nat} (h : 4320 ≤ n) : chg S z a n = pz S z (a % 10080) 4320 + chg S z (a + 4320) (n - 4320) := by
  unfold chg
  rw [show n / 4320 = (n - 4320) / 4320 + 1 by omega, chgN]
theorem chg_0 {S : SS} {z a n : Nat} (h : n < 4320) : chg S z a n = pz S z (a % 10080) n := by
  unfold chg
  rw [show n / 4320 = 0 by omega, chgN]
/-- the hours' last minute: where p may not begin, its latest minute is the same all over the hour -/
theorem mayE_hour {S : SS} {p fr e e' : Nat} (h : (fr + e) / 60 = (fr + e') / 60) : mayE S p fr e ↔ mayE S p fr e' := by
  unfold mayE
  rw [show (fr + e) % 10080 / 60 = (fr + e') % 10080 / 60 by omega]
theorem LB_hour {S : SS} {p fr e e' y : Nat} (h : (fr + e) / 60 = (fr + e') / 60) (hn : ¬ mayE S p fr e) (hl : LB S p fr e y) : LB S p fr e' y := by
  have ne : ∀ j, (fr + j) / 60 = (fr + e) / 60 → ¬ mayE S p fr j := fun j hj hm => hn ((mayE_hour hj).mp hm)
  obtain ⟨h1, h2, h3⟩ := hl
  have hy : (fr + y) / 60 < (fr + e) / 60 := by
    rcases Nat.lt_or_ge ((fr + y) / 60) ((fr + e) / 60) with q | q
    · exact q
    · exact absurd h2 (ne y (by omega))
  refine ⟨by omega, h2, fun j j1 j2 => ?_⟩
  rcases Nat.lt_or_ge e j with q | q
  · exact ne j (by omega)
  · exact h3 j j1 q
/-! a right table exists -/
theorem lexL_wf : WellFounded lexL := by
  have h : WellFounded (Prod.Lex (· < ·) (Prod.Lex (· < ·) (· < ·)) : Nat × Nat × Nat → Nat × Nat × Nat → Prop) := (Prod.lex Nat.lt_wfRel (Prod.lex Nat.lt_wfRel Nat.lt_wfRel)).wf
  refine Subrelation.wf (r := InvImage _ (fun a : Nat × Nat × Nat × Nat => (a.1, a.2.1, a.2.2.1))) ?_ (InvImage.wf _ h)
  intro a b hab
  show Prod.Lex _ _ (a.1, a.2.1, a.2.2.1) (b.1, b.2.1, b.2.2.1)
  rcases hab with q | ⟨q, q2 | ⟨q2, q3⟩⟩
  · exact Prod.Lex.left _ _ q
  · rw [q]; exact Prod.Lex.right _ (Prod.Lex.left _ _ q2)
  · rw [q, q2]; exact Prod.Lex.right _ (Prod.Lex.right _ q3)
theorem lexL_min {P : Nat × Nat × Nat × Nat → Prop} (a : Nat × Nat × Nat × Nat) (h : P a) : ∃ b, P b ∧ ∀ c, P c → ¬ lexL c b := by
  revert h
  induction a using lexL_wf.induction with
  | _ a ih =>
    intro h
    by_cases q : ∃ c, P c ∧ lexL c a
    · obtain ⟨c, c1, c2⟩ := q; exact ih c c2 c1
    · exact ⟨a, h, fun c c1 c2 => q ⟨c, c1, c2⟩⟩
theorem Right.ex {S : SS} {z : Nat} (fr m : Nat) (ho : opP S) (hp : okPr S) (hz : z < 4) : ∃ W, Right S z fr m W := by
  have key : ∀ n, ∃ W : WT, (∀ e, m ≤ e → W e = (0, 0, 0, 0)) ∧ ∀ e, m ≤ e + n → e < m → (∃ p d, Cand S z fr e p d ∧ W e = valC S W p d) ∧ ∀ p d, Cand S z fr e p d → ¬ lexL (valC S W p d) (W e) := by
    intro n
    induction n with
    | zero => exact ⟨fun _ => (0, 0, 0, 0), fun _ _ => rfl, fun e h1 h2 => by omega⟩
    | succ n ih =>
      obtain ⟨W, w1, w2⟩ := ih
      obtain ⟨p, d, c, _⟩ := ho.cand (fr := fr) (e := m - (n + 1)) hp hz
      obtain ⟨v, ⟨p', d', c', rfl⟩, hv⟩ := lexL_min (P := fun v => ∃ p d, Cand S z fr (m - (n + 1)) p d ∧ v = valC S W p d) (valC S W p d) ⟨p, d, c, rfl⟩
      let V : WT := fun e => if e = m - (n + 1) ∧ n < m then valC S W p' d' else W e
      have hV : ∀ e, ¬ (e = m - (n + 1) ∧ n < m) → V e = W e := fun e he => if_neg he
      have hC : ∀ e p d, m - (n + 1) ≤ e → Cand S z fr e p d → valC S V p d = valC S W p d := fun e p d he hc => by
        unfold valC; rw [hV d (by have := hc.gt; omega)]
      refine ⟨V, fun e he => ?_, fun e h1 h2 => ?_⟩
      · show (if e = m - (n + 1) ∧ n < m then _ else _) = _
        rw [if_neg (fun q => by omega)]; exact w1 e he
      · by_cases q : e = m - (n + 1) ∧ n < m
        · have hVe : V e = valC S W p' d' := if_pos q
          refine ⟨⟨p', d', by rw [q.1]; exact c', by rw [hVe, hC (m - (n + 1)) p' d' (Nat.le_refl _) c']⟩, fun p d hc => ?_⟩
          rw [hVe, hC e p d (by omega) hc]
          exact hv _ ⟨p, d, by rw [← q.1]; exact hc, rfl⟩
        · obtain ⟨⟨p1, d1, c1, e1⟩, l1⟩ := w2 e (by omega) h2
          refine ⟨⟨p1, d1, c1, by rw [hV e q, hC e p1 d1 (by omega) c1]; exact e1⟩, fun p d hc => ?_⟩
          rw [hV e q, hC e p d (by omega) hc]
          exact l1 p d hc
  obtain ⟨W, w1, w2⟩ := key m
  exact ⟨W, w1, fun e he => w2 e (by omega) he⟩
/-- the best of the candidates below i -/
def BO (S : SS) (W : WT) (z fr e i : Nat) (o : Option (Nat × Nat × Nat × Nat)) : Prop := (o = none ∧ ∀ p, p < i → ∀ d, ¬ Cand S z fr e p d) ∨ ∃ p d, p < i ∧ Cand S z fr e p d ∧ o = some (valC S W p d) ∧ ∀ p' d', p' < i → Cand S z fr e p' d' → ¬ lexL (valC S W p' d') (valC S W p d)
noncomputable def bestO (o : Option (Nat × Nat × Nat × Nat)) (v : Nat × Nat × Nat × Nat) : Option (Nat × Nat × Nat × Nat) := match o with
  | none => some v
  | some a => @ite _ (lexL v a) (Classical.propDecidable _) (some v) (some a)
theorem BO_0 (S : SS) (W : WT) (z fr e : Nat) : BO S W z fr e 0 none := Or.inl ⟨rfl, fun p hp => by omega⟩
theorem BO_no {S : SS} {W : WT} {z fr e i : Nat} {o : Option (Nat × Nat × Nat × Nat)} (h : BO S W z fr e i o) (hn : ∀ d, ¬ Cand S z fr e i d) : BO S W z fr e (i + 1) o := by
  rcases h with ⟨h1, h2⟩ | ⟨p, d, h1, h2, h3, h4⟩
  · exact Or.inl ⟨h1, fun p hp => if q : p = i then by subst q; exact hn else h2 p (by omega)⟩
  · exact Or.inr ⟨p, d, by omega, h2, h3, fun p' d' hp => if q : p' = i then by subst q; exact fun hc => absurd hc (hn d') else h4 p' d' (by omega)⟩
theorem BO_yes {S : SS} {W : WT} {z fr e i d : Nat} {o : Option (Nat × Nat × Nat × Nat)} (h : BO S W z fr e i o) (hc : Cand S z fr e i d) : BO S W z fr e (i + 1) (bestO o (valC S W i d)) := by
  have irr : ∀ a, ¬ lexL a a := fun a q => by unfold lexL at q; omega
  rcases h with ⟨rfl, h2⟩ | ⟨p, d1, h1, h2, rfl, h4⟩
  · refine Or.inr ⟨i, d, by omega, hc, rfl, fun p' d' hp hc' => ?_⟩
    by_cases q : p' = i
    · subst q; rw [Cand.uniq hc' hc]; exact irr _
    · exact absurd hc' (h2 p' (by omega) d')
  · show BO S W z fr e (i + 1) (@ite _ (lexL _ _) (Classical.propDecidable _) _ _)
    by_cases l : lexL (valC S W i d) (valC S W p d1)
    · rw [if_pos l]
      refine Or.inr ⟨i, d, by omega, hc, rfl, fun p' d' hp hc' => ?_⟩
      by_cases q : p' = i
      · subst q; rw [Cand.uniq hc' hc]; exact irr _
      · exact fun l2 => h4 p' d' (by omega) hc' (lexL_trans l2 l)
    · rw [if_neg l]
      refine Or.inr ⟨p, d1, by omega, h2, rfl, fun p' d' hp hc' => ?_⟩
      by_cases q : p' = i
      · subst q; rw [Cand.uniq hc' hc]; exact l
      · exact h4 p' d' (by omega) hc'
theorem BO_end {S : SS} {W : WT} {z fr e m : Nat} {o : Option (Nat × Nat × Nat × Nat)} (hR : Right S z fr m W) (he : e < m) (h : BO S W z fr e 25 o) : o = some (W e) := by
  obtain ⟨⟨p, d, c, e1⟩, l⟩ := hR.2 e he
  rcases h with ⟨h1, h2⟩ | ⟨p', d', h1, h2, h3, h4⟩
  · exact absurd c (h2 p (by have := c.le24; omega) d)
  · rw [h3]
    have n1 := h4 p d (by have := c.le24; omega) c
    have n2 := l p' d' h2
    rw [e1] at n2
    have t := (lexL_total n1 n2).2.2
    have hp : p = p' := t
    subst hp
    rw [e1, Cand.uniq c h2]
/-- what the model's table of latest beginnings says, when open -/
def bkOK (S : SS) : Prop := ∀ p, p < 24 → ¬ S 5 p = 0 → ∀ a, a < 10080 → (S 11 (10080 * p + a) = -1 ∧ ∀ j, j ≤ 10080 + a → ¬ mayB (S 9 p) (S 10 p) (nI ((10080 + a - j) % 10080 / 60))) ∨ ∃ j, j ≤ 10080 + a ∧ S 11 (10080 * p + a) = nI j ∧ mayB (S 9 p) (S 10 p) (nI ((10080 + a - j) % 10080 / 60)) ∧ ∀ i, i < j → ¬ mayB (S 9 p) (S 10 p) (nI ((10080 + a - i) % 10080 / 60))
theorem bk_use {S : SS} (h : bkOK S) {p a e : Nat} (hp : p < 24) (h5 : ¬ S 5 p = 0) (he : e ≤ 4320) : (S 11 (10080 * p + (a + e) % 10080) = -1 ∧ ∀ y, ¬ LB S p (a % 10080) e y) ∨ ∃ j, j ≤ 20160 ∧ S 11 (10080 * p + (a + e) % 10080) = nI j ∧ ∀ y, LB S p (a % 10080) e y ↔ (j ≤ e ∧ y = e - j) := by
  have sh : ∀ i, i ≤ e → (10080 + (a + e) % 10080 - i) % 10080 = (a % 10080 + (e - i)) % 10080 := fun i hi => by omega
  have hm : ∀ y, y ≤ e → (mayE S p (a % 10080) y ↔ mayB (S 9 p) (S 10 p) (nI ((10080 + (a + e) % 10080 - (e - y)) % 10080 / 60))) := fun y hy => by
    unfold mayE
    rw [sh (e - y) (by omega), show e - (e - y) = y by omega]
  rcases h p hp h5 ((a + e) % 10080) (by omega) with ⟨h1, h2⟩ | ⟨j, h1, h2, h3, h4⟩
  · exact Or.inl ⟨h1, fun y hy => h2 (e - y) (by omega) ((hm y hy.1).mp hy.2.1)⟩
  · refine Or.inr ⟨j, by omega, h2, fun y => ⟨fun hy => ?_, fun hy => ?_⟩⟩
    · have q1 := (hm y hy.1).mp hy.2.1
      have q2 : j ≤ e - y := by
        rcases Nat.lt_or_ge (e - y) j with q | q
        · exact absurd q1 (h4 (e - y) q)
        · exact q
      have hy1 := hy.1
      refine ⟨by omega, ?_⟩
      rcases Nat.lt_or_ge y (e - j) with q | q
      · exact absurd ((hm (e - j) (by omega)).mpr (by rw [show e - (e - j) = j by omega]; exact h3)) (hy.2.2 (e - j) q (by omega))
      · omega
    · obtain ⟨hj, rfl⟩ := hy
      refine ⟨by omega, (hm (e - j) (by omega)).mpr (by rw [show e - (e - j) = j by omega]; exact h3), fun i i1 i2 hi => ?_⟩
      exact h4 (e - i) (by omega) ((hm i i2).mp hi)
/-- the tariff, when open -/
def Tar (S : SS) : Prop := okPr S ∧ opP S ∧ bkOK S ∧ (∀ p, p < 24 → ¬ S 5 p = 0 → S 6 p = nI (prcP S p) ∧ S 7 p = nI (lenP S p)) ∧ ∀ z, z < 4 → S 4 z = nI (S 4 z).toNatClampNeg ∧ (S 4 z).toNatClampNeg ≤ 120
