/-! ===== the first state ===== -/
def S0 : SS := fun f _ => if f = 3 then 20 else 0
def C81 : Pic := pn Q120 80 101 1
def arO (f : Nat) : Nat := 37 + (if f < 13 then f - 2 else if f < 38 then f - 3 else if f < 46 then f - 4 else 42)
theorem ar_O {b f : Nat} : ar b f = b + arO f := by unfold ar arO; omega
theorem px_m : ∀ f, f < 51 → 0 < lnf f → gx (C81 37).2.2.2 f = some (arO f) ∧ (C81 (arO f)).1 = kdf f ∧ (C81 (arO f)).2.1 = lnf f ∧ arO f < 81 ∧ (¬ f = 3 → (C81 (arO f)).2.2.1 = []) := by decide +kernel
theorem px_3 : ∀ i, i < 4 → gi (C81 (arO 3)).2.2.1 i = 20 := by decide +kernel
theorem px_37 : (C81 37).2.2.1 = [] := by decide +kernel
theorem px_z : ∀ z, z < 4 → gx (C81 1).2.2.2 z = some (17 + 2 * z) ∧ (C81 (17 + 2 * z)).1 = 9 ∧ gx (C81 (17 + 2 * z)).2.2.2 1 = some (18 + 2 * z) ∧ (C81 (18 + 2 * z)).1 = 106 ∧ (C81 (18 + 2 * z)).2.1 = 24 ∧ gi (C81 (17 + 2 * z)).2.2.1 0 = nI z ∧ gi (C81 (17 + 2 * z)).2.2.1 3 = 20 ∧ gi (C81 (17 + 2 * z)).2.2.1 4 = 0 := by decide +kernel
theorem px_q : ∀ m, m < 3 → gx (C81 12).2.2.2 m = some (25 + 4 * m) ∧ (C81 (25 + 4 * m)).1 = 4 ∧ gx (C81 (25 + 4 * m)).2.2.2 0 = some (26 + 4 * m) ∧ gx (C81 (25 + 4 * m)).2.2.2 1 = some (27 + 4 * m) ∧ gx (C81 (25 + 4 * m)).2.2.2 2 = some (28 + 4 * m) ∧ gx (C81 (25 + 4 * m)).2.2.2 3 = none ∧ (C81 (26 + 4 * m)).1 = 100 ∧ (C81 (27 + 4 * m)).1 = 100 ∧ (C81 (28 + 4 * m)).1 = 100 ∧ (C81 (26 + 4 * m)).2.1 = 6 ∧ (C81 (27 + 4 * m)).2.1 = 6 ∧ (C81 (28 + 4 * m)).2.1 = 6 ∧ (∀ k, k < 4 → gi (C81 (25 + 4 * m)).2.2.1 (4 + k) = 0) ∧ (C81 (26 + 4 * m)).2.2.1 = [] ∧ (C81 (27 + 4 * m)).2.2.1 = [] ∧ (C81 (28 + 4 * m)).2.2.1 = [] := by decide +kernel
section FS
variable {G : vg_G} {b : Nat} {h0 h : vg_H}
theorem fs_K (H : PX b C81 81 h0 h) : cxK b h := ⟨H.k (o := 0) (by decide) (by decide +kernel), H.r (o := 0) (k := 0) (v := some 1) (by decide) (by decide +kernel), H.r (o := 0) (k := 1) (v := some 2) (by decide) (by decide +kernel), H.r (o := 0) (k := 2) (v := some 3) (by decide) (by decide +kernel), H.r (o := 0) (k := 3) (v := some 9) (by decide) (by decide +kernel), H.r (o := 0) (k := 4) (v := some 10) (by decide) (by decide +kernel), H.r (o := 0) (k := 5) (v := some 11) (by decide) (by decide +kernel), H.r (o := 0) (k := 6) (v := some 12) (by decide) (by decide +kernel), H.r (o := 0) (k := 7) (v := some 13) (by decide) (by decide +kernel), H.r (o := 0) (k := 8) (v := some 16) (by decide) (by decide +kernel), H.k (o := 1) (by decide) (by decide +kernel), H.k (o := 2) (by decide) (by decide +kernel), H.k (o := 3) (by decide) (by decide +kernel), H.k (o := 4) (by decide) (by decide +kernel), H.k (o := 5) (by decide) (by decide +kernel), H.k (o := 6) (by decide) (by decide +kernel), H.k (o := 7) (by decide) (by decide +kernel), H.k (o := 8) (by decide) (by decide +kernel), H.k (o := 9) (by decide) (by decide +kernel), H.k (o := 10) (by decide) (by decide +kernel), H.k (o := 11) (by decide) (by decide +kernel), H.k (o := 12) (by decide) (by decide +kernel), H.k (o := 13) (by decide) (by decide +kernel), H.k (o := 14) (by decide) (by decide +kernel), H.k (o := 15) (by decide) (by decide +kernel), H.k (o := 16) (by decide) (by decide +kernel), H.l (o := 1) (by decide) (by decide +kernel), H.l (o := 2) (by decide) (by decide +kernel), H.l (o := 4) (by decide) (by decide +kernel), H.l (o := 5) (by decide) (by decide +kernel), H.l (o := 6) (by decide) (by decide +kernel), H.l (o := 7) (by decide) (by decide +kernel), H.l (o := 8) (by decide) (by decide +kernel), H.l (o := 9) (by decide) (by decide +kernel), H.l (o := 10) (by decide) (by decide +kernel), H.l (o := 11) (by decide) (by decide +kernel), H.l (o := 12) (by decide) (by decide +kernel), H.l (o := 14) (by decide) (by decide +kernel), H.l (o := 15) (by decide) (by decide +kernel), H.l (o := 16) (by decide) (by decide +kernel), H.r (o := 3) (k := 0) (v := some 4) (by decide) (by decide +kernel), H.r (o := 3) (k := 1) (v := some 5) (by decide) (by decide +kernel), H.r (o := 3) (k := 2) (v := some 6) (by decide) (by decide +kernel), H.r (o := 3) (k := 3) (v := some 7) (by decide) (by decide +kernel), H.r (o := 3) (k := 4) (v := some 8) (by decide) (by decide +kernel), H.r (o := 13) (k := 0) (v := some 14) (by decide) (by decide +kernel), H.r (o := 13) (k := 1) (v := some 15) (by decide) (by decide +kernel), (by rw [H.1]; exact Nat.le_refl _)⟩
theorem fs_I (H : PX b C81 81 h0 h) : cxI b S0 h := ⟨H.i (o := 0) (by decide) (by decide +kernel), H.i (o := 0) (by decide) (by decide +kernel), H.i (o := 0) (by decide) (by decide +kernel), H.i (o := 0) (by decide) (by decide +kernel)⟩
theorem fs_Z (H : PX b C81 81 h0 h) : cxZ b S0 h := by
  intro z hz
  obtain ⟨q1, q2, q3, q4, q5, q6, q7, q8⟩ := px_z z hz
  rw [show b + 17 + 2 * z = b + (17 + 2 * z) by omega, show b + 18 + 2 * z = b + (18 + 2 * z) by omega]
  exact ⟨H.r (o := 1) (by decide) q1, H.k (by omega) q2, H.i (by omega) q6, H.r (by omega) q3, H.k (by omega) q4, H.l (by omega) q5, H.i (by omega) q7, H.i (by omega) q8⟩
theorem fs_P {A : AA} (H : PX b C81 81 h0 h) : cxP b A S0 h := fun p _ => ⟨fun _ => H.r (o := 2) (by decide) (show gx (C81 2).2.2.2 p = none by rw [show (C81 2).2.2.2 = [] by decide +kernel]; rfl), fun e => absurd rfl e⟩
theorem nT_0 : nT S0 = 0 := by decide +kernel
theorem nP_0 : nP S0 = 0 := by decide +kernel
theorem fs_T {A : AA} : cxT G b A S0 h := fun t h1 h2 => by rw [nT_0] at h2; omega
theorem fs_C {A : AA} (H : PX b C81 81 h0 h) : cxC b A S0 h := fun p _ => ⟨fun _ => H.r (o := 10) (by decide) (show gx (C81 10).2.2.2 p = none by rw [show (C81 10).2.2.2 = [] by decide +kernel]; rfl), fun e => absurd rfl e⟩
theorem fs_R {A : AA} (H : PX b C81 81 h0 h) : cxR b A S0 h := fun p _ => ⟨fun _ => H.r (o := 11) (by decide) (show gx (C81 11).2.2.2 p = none by rw [show (C81 11).2.2.2 = [] by decide +kernel]; rfl), fun e => absurd rfl e⟩
theorem fs_M {A : AA} (H : PX b C81 81 h0 h) : cxM b A S0 h := by
  intro m hm
  obtain ⟨q1, q2, q3, q4, q5, q6, q7, q8, q9, q10, q11, q12, q13, q14, q15, q16⟩ := px_q m hm
  rw [show b + 25 + 4 * m = b + (25 + 4 * m) by omega, show b + 26 + 4 * m = b + (26 + 4 * m) by omega, show b + 27 + 4 * m = b + (27 + 4 * m) by omega, show b + 28 + 4 * m = b + (28 + 4 * m) by omega]
  refine ⟨H.r (o := 12) (by decide) q1, H.k (by omega) q2, H.r (by omega) q3, H.r (by omega) q4, H.r (by omega) q5, H.k (by omega) q7, H.k (by omega) q8, H.k (by omega) q9, H.l (by omega) q10, H.l (by omega) q11, H.l (by omega) q12, H.r (by omega) q6, H.i (by omega) (q13 0 (by decide)), H.i (by omega) (q13 1 (by decide)), (H.i (by omega) (q13 2 (by decide))).trans ?_, (H.i (by omega) (q13 3 (by decide))).trans ?_, fun k _ => ⟨H.i (by omega) (by rw [q14]; rfl), H.i (by omega) (by rw [q15]; rfl), H.i (by omega) (by rw [q16]; rfl)⟩⟩
  · show (0 : Int32) = sumI (fun _ => 0) 0 6
    decide +kernel
  · show (0 : Int32) = sumI (fun k => coM k * 0) 0 6
    decide +kernel
theorem fs_Y {A : AA} : cxY b A S0 h := fun t h1 => by rw [nP_0] at h1; omega
theorem fs_CV {A : AA} (H : PX b C81 81 h0 h) : CV b A S0 h := by
  refine ⟨fun _ => ⟨fun k _ => ⟨H.i (o := 7) (by decide) (by rw [show (C81 7).2.2.1 = [] by decide +kernel]; rfl), H.i (o := 8) (by decide) (by rw [show (C81 8).2.2.1 = [] by decide +kernel]; rfl)⟩, H.i (o := 3) (by decide) (by decide +kernel)⟩, fun e => absurd rfl e⟩
theorem fs_MX (H : PX b C81 81 h0 h) : MX b S0 h := by
  have dm : ∀ f, 0 < lnf f → f < 51 := fun f hf => by have := lnf_dom hf; omega
  refine ⟨H.k (o := 37) (by decide) (by decide +kernel), fun f hf => ?_, fun f i hi hs => ?_, fun f hf => ?_⟩
  · obtain ⟨q1, q2, q3, q4, q5⟩ := px_m f (dm f hf) hf
    rw [ar_O]
    exact ⟨H.r (o := 37) (by decide) q1, H.k q4 q2, H.l q4 q3⟩
  · have hf := sem_ln hs
    obtain ⟨q1, q2, q3, q4, q5⟩ := px_m f (dm f hf) hf
    rw [ar_O]
    by_cases e : f = 3
    · subst e
      exact H.i q4 (px_3 i hi)
    · refine H.i q4 ?_
      rw [q5 e]
      show (0 : Int32) = if f = 3 then 20 else 0
      rw [if_neg e]
  · refine H.i (o := 37) (by decide) ?_
    rw [px_37]
    show (0 : Int32) = if f = 3 then 20 else 0
    rw [if_neg (fun e => by subst e; exact absurd hf (by decide))]
theorem fs_Inv : Inv S0 0 := by
  have z : ∀ f i, ¬ f = 3 → S0 f i = 0 := fun f i e => if_neg e
  refine ⟨⟨0, by decide, rfl⟩, fun p _ e => absurd rfl e, fun z _ => ⟨0, by decide, rfl⟩, fun e => absurd rfl e, ⟨⟨by decide +kernel, by rw [nT_0]; decide⟩, ?_, fun t h1 h2 => by rw [nT_0] at h2; omega⟩, ?_, ?_, fun q _ => ?_, by decide +kernel, ?_⟩
  · intro p t u _ i1 _
    have := i1.1; have := i1.2.1
    rw [nT_0] at this; omega
  · refine ⟨?_, ?_, ?_, ?_, fun c _ => Or.inl rfl⟩
    · exact fun c _ => ⟨rfl, by show (0 : Int32).toNatClampNeg ≤ 12; decide⟩
    · exact fun c _ _ => rfl
    · intro p d e _ _ i1 _
      obtain ⟨k, k1, _⟩ := i1
      exact absurd k1 (by show ¬ k < (0 : Int32).toNatClampNeg; exact Nat.not_lt_zero k)
    · intro c _ i j i1
      exact absurd i1 (by show ¬ i < (0 : Int32).toNatClampNeg; exact Nat.not_lt_zero i)
  · refine ⟨fun z hz => ⟨20, by decide, by decide, rfl, fun m => ?_⟩, fun r _ => Or.inl rfl, fun _ r _ => rfl⟩
    rcases Nat.eq_zero_or_pos (cntN (runP S0 (nI z) m) 0 30) with q | q
    · rw [q]; exact Nat.zero_le _
    · obtain ⟨j, _, _, j3⟩ := cntN_pos 30 0 q
      exact absurd rfl j3.1
  · refine ⟨0, 0, 0, fun _ => 0, fun _ => 0, rfl, Nat.zero_le _, rfl, by decide, rfl, by decide, fun k _ => rfl, by decide, fun k _ => ⟨rfl, Nat.zero_le _⟩, fun e => absurd rfl e⟩
  · rw [nP_0]; decide
end FS
