/-! ===== counting ===== -/
noncomputable def cntN (P : Nat → Prop) : Nat → Nat → Nat
  | _, 0 => 0
  | i, m + 1 => (@ite _ (P i) (Classical.propDecidable _) 1 0) + cntN P (i + 1) m
theorem cntN_s (P : Nat → Prop) (i m : Nat) : cntN P i (m + 1) = (@ite _ (P i) (Classical.propDecidable _) 1 0) + cntN P (i + 1) m := rfl
theorem cntN_le {P : Nat → Prop} : ∀ (m i : Nat), cntN P i m ≤ m
  | 0, _ => Nat.le_refl _
  | m + 1, i => by
    have := cntN_le (P := P) m (i + 1)
    rw [cntN_s]
    split <;> omega
theorem cntN_mono {P R : Nat → Prop} : ∀ (m i : Nat), (∀ j, i ≤ j → j < i + m → P j → R j) → cntN P i m ≤ cntN R i m
  | 0, _, _ => Nat.le_refl _
  | m + 1, i, h => by
    have h1 := cntN_mono m (i + 1) (fun j h1 h2 => h j (by omega) (by omega))
    rw [cntN_s, cntN_s]
    by_cases p : P i
    · rw [if_pos p, if_pos (h i (by omega) (by omega) p)]; omega
    · rw [if_neg p]; split <;> omega
theorem cntN_pos {P : Nat → Prop} : ∀ (m i : Nat), 0 < cntN P i m → ∃ j, i ≤ j ∧ j < i + m ∧ P j
  | 0, _, h => absurd h (Nat.lt_irrefl 0)
  | m + 1, i, h => by
    by_cases p : P i
    · exact ⟨i, by omega, by omega, p⟩
    · rw [cntN_s] at h
      rw [if_neg p] at h
      obtain ⟨j, h1, h2, h3⟩ := cntN_pos (P := P) m (i + 1) (by omega)
      exact ⟨j, by omega, by omega, h3⟩
theorem sumI_cnt {P : Nat → Prop} [hd : ∀ j, Decidable (P j)] : ∀ (m i : Nat), sumI (fun j => bI (P j)) i m = nI (cntN P i m)
  | 0, _ => rfl
  | m + 1, i => by
    rw [sumI_s, sumI_cnt m (i + 1), cntN_s]
    by_cases p : P i
    · rw [if_pos p, bI_t p, Nat.add_comm 1, Int32.add_comm, nI_1]
    · rw [if_neg p, bI_f p, Nat.zero_add, Int32.zero_add]
/-- one more at place k -/
theorem cntN_one {P R : Nat → Prop} {k : Nat} (hk : ¬ P k) (hR : ∀ j, ¬ j = k → (R j ↔ P j)) : ∀ (m i : Nat), i ≤ k → k < i + m → cntN R i m = cntN P i m + (@ite _ (R k) (Classical.propDecidable _) 1 0)
  | 0, i, h1, h2 => by omega
  | m + 1, i, h1, h2 => by
    rw [cntN_s, cntN_s]
    by_cases e : i = k
    · subst e
      have : cntN R (i + 1) m = cntN P (i + 1) m := Nat.le_antisymm (cntN_mono m (i + 1) (fun j h3 h4 => (hR j (by omega)).mp)) (cntN_mono m (i + 1) (fun j h3 h4 => (hR j (by omega)).mpr))
      rw [this, if_neg hk]; omega
    · rw [cntN_one hk hR m (i + 1) (by omega) (by omega)]
      by_cases p : P i
      · rw [if_pos p, if_pos ((hR i e).mpr p)]; omega
      · rw [if_neg p, if_neg (fun z => p ((hR i e).mp z))]; omega
def runP (S : SS) (z m : Int32) (r : Nat) : Prop := ¬ S 28 r = 0 ∧ S 29 r = z ∧ S 30 r ≤ m ∧ m < S 31 r
theorem runS_n (S : SS) (z m : Int32) : runS S z m = nI (cntN (runP S z m) 0 30) := by
  unfold runS
  exact sumI_cnt (P := fun r => ¬ S 28 r = 0 ∧ S 29 r = z ∧ S 30 r ≤ m ∧ m < S 31 r) 30 0
theorem undS_n (S : SS) (c : Int32) : ∃ n, n ≤ nT S ∧ undS S c = nI n := by
  unfold undS
  exact ⟨_, cntN_le _ _, sumI_cnt (P := fun t => S 14 t = 0 ∧ S 18 t = c) (nT S) 1⟩
/-- the latest beginning among those that run at m: there no fewer run -/
theorem run_max {S : SS} {z m : Int32} (h : 0 < cntN (runP S z m) 0 30) : ∃ k, k < 30 ∧ runP S z m k ∧ (∀ j, j < 30 → runP S z m j → S 30 j ≤ S 30 k) ∧ cntN (runP S z m) 0 30 ≤ cntN (runP S z (S 30 k)) 0 30 := by
  have ex : ∀ n, n ≤ 30 → (∃ j, j < n ∧ runP S z m j) → ∃ k, k < n ∧ runP S z m k ∧ ∀ j, j < n → runP S z m j → S 30 j ≤ S 30 k := by
    intro n
    induction n with
    | zero => intro _ ⟨j, hj, _⟩; omega
    | succ n ih =>
      intro hn he
      by_cases q : ∃ j, j < n ∧ runP S z m j
      · obtain ⟨k, k1, k2, k3⟩ := ih (by omega) q
        by_cases p : runP S z m n
        · by_cases l : S 30 k ≤ S 30 n
          · exact ⟨n, by omega, p, fun j hj hp => if e : j = n then by subst e; exact Int32.le_refl _ else Int32.le_trans (k3 j (by omega) hp) l⟩
          · exact ⟨k, by omega, k2, fun j hj hp => if e : j = n then by subst e; exact Int32.le_of_lt (Int32.not_le.mp l) else k3 j (by omega) hp⟩
        · exact ⟨k, by omega, k2, fun j hj hp => if e : j = n then by subst e; exact absurd hp p else k3 j (by omega) hp⟩
      · obtain ⟨j, j1, j2⟩ := he
        have : j = n := by
          rcases Nat.lt_or_ge j n with z | z
          · exact absurd ⟨j, z, j2⟩ q
          · omega
        subst this
        exact ⟨j, by omega, j2, fun i hi hp => if e : i = j then by subst e; exact Int32.le_refl _ else absurd ⟨i, by omega, hp⟩ q⟩
  obtain ⟨j, _, j2, j3⟩ := cntN_pos 30 0 h
  obtain ⟨k, k1, k2, k3⟩ := ex 30 (by omega) ⟨j, by omega, j3⟩
  refine ⟨k, k1, k2, k3, cntN_mono 30 0 (fun i _ hi hp => ?_)⟩
  exact ⟨hp.1, hp.2.1, k3 i (by omega) hp, Int32.lt_of_le_of_lt k2.2.2.1 hp.2.2.2⟩
/-- never more run than there are places -/
def runOK (S : SS) : Prop := ∀ z, z < 4 → ∃ n, 1 ≤ n ∧ n ≤ 40 ∧ S 3 z = nI n ∧ ∀ m, cntN (runP S (nI z) m) 0 30 ≤ n
theorem much_iff {S : SS} {z : Nat} (hz : z < 4) {n : Nat} (hn : S 3 z = nI n) (hn2 : n ≤ 40) : tooMuch S (nI z) ↔ ∃ m, n < cntN (runP S (nI z) m) 0 30 := by
  have cz := nI_clamp (show z < 2 ^ 31 by omega)
  have cb : ∀ m, cntN (runP S (nI z) m) 0 30 ≤ 30 := fun m => cntN_le 30 0
  constructor
  · rintro ⟨k, k1, k2, k3⟩
    rw [cz, hn, runS_n] at k3
    exact ⟨S 30 k, (nI_ltI (by omega) (by have := cb (S 30 k); omega)).mp k3⟩
  · rintro ⟨m, hm⟩
    obtain ⟨k, k1, k2, k3, k4⟩ := run_max (S := S) (z := nI z) (m := m) (by omega)
    refine ⟨k, k1, k2.1, ?_⟩
    rw [cz, hn, runS_n]
    exact (nI_ltI (by omega) (by have := cb (S 30 k); omega)).mpr (by omega)
theorem runP_res {S : SS} {i : Nat} {z x y : Int32} (m w : Int32) : ∀ j, runP (sRes S i z x y) w m j ↔ (if j = i then (z = w ∧ x ≤ m ∧ m < y) else runP S w m j) := by
  intro j
  unfold runP sRes
  have e28 : up (up (up (up S 28 i 1) 29 i z) 30 i x) 31 i y 28 j = if j = i then 1 else S 28 j := by rw [upf (by decide), upf (by decide), upf (by decide), up_e]; simp
  have e29 : up (up (up (up S 28 i 1) 29 i z) 30 i x) 31 i y 29 j = if j = i then z else S 29 j := by rw [upf (by decide), upf (by decide), up_e, upf (by decide)]; simp
  have e30 : up (up (up (up S 28 i 1) 29 i z) 30 i x) 31 i y 30 j = if j = i then x else S 30 j := by rw [upf (by decide), up_e, upf (by decide), upf (by decide)]; simp
  have e31 : up (up (up (up S 28 i 1) 29 i z) 30 i x) 31 i y 31 j = if j = i then y else S 31 j := by rw [up_e, upf (by decide), upf (by decide), upf (by decide)]; simp
  rw [e28, e29, e30, e31]
  by_cases e : j = i
  · simp only [e, if_true]
    exact ⟨fun h => h.2, fun h => ⟨by decide, h⟩⟩
  · simp only [e, if_false]
theorem cnt_res {S : SS} {i : Nat} {z x y : Int32} (hi : i < 30) (h28 : S 28 i = 0) (m w : Int32) : cntN (runP (sRes S i z x y) w m) 0 30 = cntN (runP S w m) 0 30 + (@ite _ (z = w ∧ x ≤ m ∧ m < y) (Classical.propDecidable _) 1 0) := by
  have h1 := cntN_one (P := runP S w m) (R := runP (sRes S i z x y) w m) (k := i) (fun q => q.1 h28) (fun j hj => by rw [runP_res m w j, if_neg hj]) 30 0 (by omega) (by omega)
  rw [h1]
  by_cases q : z = w ∧ x ≤ m ∧ m < y
  · have r : runP (sRes S i z x y) w m i := by rw [runP_res m w i, if_pos rfl]; exact q
    rw [if_pos q, if_pos r]
  · have r : ¬ runP (sRes S i z x y) w m i := fun p => q (by rw [runP_res m w i, if_pos rfl] at p; exact p)
    rw [if_neg q, if_neg r]
/-- the model's question is the class's -/
theorem much_res {S : SS} {i z n : Nat} {x y v : Int32} (hi : i < 30) (hz : z < 4) (h28 : S 28 i = 0) (hxy : x < y) (hn : S 3 z = nI n) (hn1 : 1 ≤ n) (hn2 : n ≤ 40) (hr : ∀ m, cntN (runP S (nI z) m) 0 30 ≤ n) (v1 : v = runS S (nI z) x ∨ ∃ k, k < 30 ∧ (¬ S 28 k = 0 ∧ S 29 k = nI z ∧ x < S 30 k ∧ S 30 k < y) ∧ v = runS S (nI z) (S 30 k)) (v2 : runS S (nI z) x ≤ v) (v3 : ∀ k, k < 30 → (¬ S 28 k = 0 ∧ S 29 k = nI z ∧ x < S 30 k ∧ S 30 k < y) → runS S (nI z) (S 30 k) ≤ v) : tooMuch (sRes S i (nI z) x y) (nI z) ↔ S 3 z ≤ v := by
  have cb : ∀ m, cntN (runP S (nI z) m) 0 30 ≤ 30 := fun m => cntN_le 30 0
  have s3 : sRes S i (nI z) x y 3 z = nI n := by unfold sRes; rw [upf (by decide), upf (by decide), upf (by decide), upf (by decide)]; exact hn
  rw [much_iff hz s3 hn2]
  constructor
  · rintro ⟨m, hm⟩
    rw [cnt_res hi h28] at hm
    have h1 := hr m
    have q : nI z = nI z ∧ x ≤ m ∧ m < y := Classical.byContradiction (fun q => by rw [if_neg q] at hm; omega)
    rw [if_pos q] at hm
    have ge : n ≤ cntN (runP S (nI z) m) 0 30 := by omega
    obtain ⟨k, k1, k2, k3, k4⟩ := run_max (S := S) (z := nI z) (m := m) (by omega)
    rw [hn]
    by_cases l : x < S 30 k
    · refine Int32.le_trans ?_ (v3 k k1 ⟨k2.1, k2.2.1, l, Int32.lt_of_le_of_lt k2.2.2.1 q.2.2⟩)
      rw [runS_n]
      exact nI_le (by omega) (by have := cb (S 30 k); omega)
    · refine Int32.le_trans ?_ v2
      rw [runS_n]
      have : cntN (runP S (nI z) m) 0 30 ≤ cntN (runP S (nI z) x) 0 30 := cntN_mono 30 0 (fun j _ hj hp => ⟨hp.1, hp.2.1, Int32.le_trans (k3 j (by omega) hp) (Int32.not_lt.mp l), Int32.lt_of_le_of_lt q.2.1 hp.2.2.2⟩)
      exact nI_le (by omega) (by have := cb x; omega)
  · intro hv
    rw [hn] at hv
    rcases v1 with rfl | ⟨k, k1, k2, rfl⟩
    · rw [runS_n] at hv
      have := (nI_leI (by omega) (by have := cb x; omega)).mp hv
      exact ⟨x, by rw [cnt_res hi h28, if_pos ⟨rfl, Int32.le_refl _, hxy⟩]; omega⟩
    · rw [runS_n] at hv
      have := (nI_leI (by omega) (by have := cb (S 30 k); omega)).mp hv
      exact ⟨S 30 k, by rw [cnt_res hi h28, if_pos ⟨rfl, Int32.le_of_lt k2.2.2.1, k2.2.2.2⟩]; omega⟩
