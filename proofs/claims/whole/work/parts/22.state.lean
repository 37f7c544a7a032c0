/-! ===== the state that both keep ===== -/
abbrev SS : Type := Nat → Nat → Int32
def up (S : SS) (f i : Nat) (v : Int32) : SS := fun g j => if g = f ∧ j = i then v else S g j
theorem up_e (S : SS) (f i : Nat) (v : Int32) (g j : Nat) : up S f i v g j = if g = f ∧ j = i then v else S g j := rfl
theorem up_same (S : SS) (f i : Nat) (v : Int32) : up S f i v f i = v := by simp [up_e]
theorem up_ne (S : SS) {f i g j : Nat} (v : Int32) (h : g ≠ f ∨ j ≠ i) : up S f i v g j = S g j := by
  rw [up_e, if_neg (fun z => h.elim (fun q => q z.1) (fun q => q z.2))]
/-- where the model's array of field f lies, its length, its kind -/
def ar (b f : Nat) : Nat := b + 37 + (if f < 13 then f - 2 else if f < 38 then f - 3 else if f < 46 then f - 4 else 42)
def lnf (f : Nat) : Nat := match f with
  | 3 => 4 | 4 => 4 | 5 => 24 | 6 => 24 | 7 => 24 | 8 => 24 | 9 => 24 | 10 => 24 | 11 => 241920 | 12 => 40320
  | 14 => 301 | 15 => 301 | 16 => 301 | 17 => 301 | 18 => 301 | 19 => 301 | 20 => 301 | 21 => 301 | 22 => 301
  | 23 => 20 | 24 => 20 | 25 => 20 | 26 => 20 | 27 => 240 | 28 => 30 | 29 => 30 | 30 => 30 | 31 => 30
  | 32 => 3 | 33 => 3 | 34 => 3 | 35 => 18 | 36 => 18 | 37 => 18 | 39 => 600 | 40 => 600 | 41 => 600
  | 42 => 4321 | 43 => 4321 | 44 => 4321 | 45 => 4321 | 50 => 56007 | _ => 0
def kdf (f : Nat) : Nat := match f with
  | 5 => 102 | 19 => 102 | 23 => 102 | 28 => 102 | _ => 100
/-- arrays that the state speaks of; plain fields that it speaks of -/
def sem (f : Nat) : Bool := decide (0 < lnf f) && !(f == 42 || f == 43 || f == 44 || f == 45 || f == 50)
def scl (f : Nat) : Bool := f == 1 || f == 2 || f == 13 || f == 38
def MX (b : Nat) (S : SS) (h : vg_H) : Prop :=
  h.1 (b + 37) = 11 ∧ (∀ f, 0 < lnf f → h.2.2.2.2.1 (b + 37) f = some (ar b f) ∧ h.1 (ar b f) = kdf f ∧ h.2.1 (ar b f) = lnf f) ∧
  (∀ f i, i < lnf f → sem f = true → h.2.2.1 (ar b f) i = S f i) ∧ (∀ f, scl f = true → h.2.2.1 (b + 37) f = S f 0)
theorem lnf_dom {f : Nat} (h : 0 < lnf f) : 3 ≤ f ∧ f ≤ 50 ∧ f ≠ 13 ∧ f ≠ 38 ∧ f ≠ 46 ∧ f ≠ 47 ∧ f ≠ 48 ∧ f ≠ 49 := by
  unfold lnf at h
  split at h <;> first | omega | (exfalso; exact absurd h (by decide))
theorem ar_inj {b f g : Nat} (hf : 0 < lnf f) (hg : 0 < lnf g) (h : ar b f = ar b g) : f = g := by
  have h1 := lnf_dom hf
  have h2 := lnf_dom hg
  unfold ar at h
  split at h <;> split at h <;> (try split at h) <;> (try split at h) <;> (try split at h) <;> (try split at h) <;> omega
theorem ar_rng {b f : Nat} (hf : 0 < lnf f) : b + 38 ≤ ar b f ∧ ar b f ≤ b + 79 := by
  have h1 := lnf_dom hf
  unfold ar
  split <;> (try split) <;> (try split) <;> omega
theorem sem_ln {f : Nat} (h : sem f = true) : 0 < lnf f := by
  simp only [sem, Bool.and_eq_true, decide_eq_true_eq] at h
  exact h.1
/-- nothing but cells of the model changed -/
def fm (b : Nat) (h h' : vg_H) : Prop := vg_z h' = vg_z h ∧ h'.1 = h.1 ∧ h'.2.1 = h.2.1 ∧ h'.2.2.2.2.1 = h.2.2.2.2.1 ∧ h'.2.2.2.1 = h.2.2.2.1 ∧ ∀ a, a < b + 37 ∨ b + 79 < a → h'.2.2.1 a = h.2.2.1 a
theorem fm.refl (b : Nat) (h : vg_H) : fm b h h := ⟨rfl, rfl, rfl, rfl, rfl, fun _ _ => rfl⟩
theorem fm.trans {b : Nat} {h h' h'' : vg_H} (p : fm b h h') (q : fm b h' h'') : fm b h h'' :=
  ⟨q.1.trans p.1, q.2.1.trans p.2.1, q.2.2.1.trans p.2.2.1, q.2.2.2.1.trans p.2.2.2.1, q.2.2.2.2.1.trans p.2.2.2.2.1, fun a ha => (q.2.2.2.2.2 a ha).trans (p.2.2.2.2.2 a ha)⟩
theorem fm.wi {b : Nat} {h h' : vg_H} (p : fm b h h') {a : Nat} (ha : b + 37 ≤ a ∧ a ≤ b + 79) (k : Nat) (v : Int32) : fm b h (vg_wi h' a k v) :=
  p.trans ⟨rfl, rfl, rfl, rfl, rfl, fun c hc => by funext j; rw [wi_i, if_neg (fun z => by omega)]⟩
/-- the model holds S, and nothing else changed since h0 -/
def MZ (b : Nat) (S : SS) (h0 h : vg_H) : Prop := MX b S h ∧ fm b h0 h
theorem MZ.refl {b : Nat} {S : SS} {h : vg_H} (hM : MX b S h) : MZ b S h h := ⟨hM, fm.refl b h⟩
/-- a write to an array of the state -/
theorem MZ.set {b : Nat} {S : SS} {h0 h : vg_H} (p : MZ b S h0 h) (f : Nat) (hf : sem f = true) (i : Nat) (v : Int32) : MZ b (up S f i v) h0 (vg_wi h (ar b f) i v) := by
  obtain ⟨⟨m1, m2, m3, m4⟩, p2⟩ := p
  have hl := sem_ln hf
  have hr := ar_rng (b := b) hl
  refine ⟨⟨m1, m2, fun g j hj hg => ?_, fun g hg => ?_⟩, p2.wi (by omega) _ _⟩
  · rw [wi_i, up_e]
    by_cases e : g = f
    · subst e
      by_cases e2 : j = i
      · simp [e2]
      · rw [if_neg (fun z => e2 z.2), if_neg (fun z => e2 z.2)]; exact m3 g j hj hg
    · rw [if_neg (fun z => e (ar_inj (sem_ln hg) hl z.1)), if_neg (fun z => e z.1)]; exact m3 g j hj hg
  · rw [wi_i, if_neg (fun z => by omega), up_e, if_neg (fun z => by have := lnf_dom hl; simp [scl] at hg; omega)]; exact m4 g hg
/-- .. to a field of the state -/
theorem MZ.put {b : Nat} {S : SS} {h0 h : vg_H} (p : MZ b S h0 h) (f : Nat) (hf : scl f = true) (v : Int32) : MZ b (up S f 0 v) h0 (vg_wi h (b + 37) f v) := by
  obtain ⟨⟨m1, m2, m3, m4⟩, p2⟩ := p
  refine ⟨⟨m1, m2, fun g j hj hg => ?_, fun g hg => ?_⟩, p2.wi (by omega) _ _⟩
  · have hl := sem_ln hg
    have hr := ar_rng (b := b) hl
    have hd := lnf_dom hl
    rw [wi_i, if_neg (fun z => by omega), up_e, if_neg (fun z => by simp [scl] at hf; omega)]; exact m3 g j hj hg
  · rw [wi_i, up_e]
    by_cases e : g = f
    · simp [e]
    · rw [if_neg (fun z => e z.2), if_neg (fun z => e z.1)]; exact m4 g hg
/-- .. to what the state doesn't speak of -/
theorem MZ.scr {b : Nat} {S : SS} {h0 h : vg_H} (p : MZ b S h0 h) (f : Nat) (hl : 0 < lnf f) (hf : sem f = false) (i : Nat) (v : Int32) : MZ b S h0 (vg_wi h (ar b f) i v) := by
  obtain ⟨⟨m1, m2, m3, m4⟩, p2⟩ := p
  have hr := ar_rng (b := b) hl
  refine ⟨⟨m1, m2, fun g j hj hg => ?_, fun g hg => ?_⟩, p2.wi (by omega) _ _⟩
  · rw [wi_i, if_neg (fun z => by have := ar_inj (sem_ln hg) hl z.1; subst this; rw [hf] at hg; cases hg)]; exact m3 g j hj hg
  · rw [wi_i, if_neg (fun z => by omega)]; exact m4 g hg
theorem MZ.fld {b : Nat} {S : SS} {h0 h : vg_H} (p : MZ b S h0 h) (f : Nat) (hf : scl f = false) (v : Int32) : MZ b S h0 (vg_wi h (b + 37) f v) := by
  obtain ⟨⟨m1, m2, m3, m4⟩, p2⟩ := p
  refine ⟨⟨m1, m2, fun g j hj hg => ?_, fun g hg => ?_⟩, p2.wi (by omega) _ _⟩
  · have hr := ar_rng (b := b) (sem_ln hg)
    rw [wi_i, if_neg (fun z => by omega)]; exact m3 g j hj hg
  · rw [wi_i, if_neg (fun z => by rw [z.2, hf] at hg; cases hg)]; exact m4 g hg
/-- the model's fault is w -/
def MP (b : Nat) (S : SS) (w : Int32) (h0 h : vg_H) : Prop := MZ b S h0 h ∧ h.2.2.1 (b + 37) 0 = w
theorem MP.go {b : Nat} {S : SS} {h : vg_H} (hM : MX b S h) (w : Int32) : MP b S w h (vg_wi h (b + 37) 0 w) := ⟨(MZ.refl hM).fld 0 rfl w, by rw [wi_i, if_pos ⟨rfl, rfl⟩]⟩
theorem MP.set {b : Nat} {S : SS} {w : Int32} {h0 h : vg_H} (p : MP b S w h0 h) (f : Nat) (hf : sem f = true) (i : Nat) (v : Int32) : MP b (up S f i v) w h0 (vg_wi h (ar b f) i v) :=
  ⟨p.1.set f hf i v, by have := ar_rng (b := b) (sem_ln hf); rw [wi_i, if_neg (fun z => by omega)]; exact p.2⟩
theorem MP.put {b : Nat} {S : SS} {w : Int32} {h0 h : vg_H} (p : MP b S w h0 h) (f : Nat) (hf : scl f = true) (v : Int32) : MP b (up S f 0 v) w h0 (vg_wi h (b + 37) f v) :=
  ⟨p.1.put f hf v, by rw [wi_i, if_neg (fun z => by rw [← z.2] at hf; cases hf)]; exact p.2⟩
theorem MP.scr {b : Nat} {S : SS} {w : Int32} {h0 h : vg_H} (p : MP b S w h0 h) (f : Nat) (hl : 0 < lnf f) (hf : sem f = false) (i : Nat) (v : Int32) : MP b S w h0 (vg_wi h (ar b f) i v) :=
  ⟨p.1.scr f hl hf i v, by have := ar_rng (b := b) hl; rw [wi_i, if_neg (fun z => by omega)]; exact p.2⟩
theorem MP.fld {b : Nat} {S : SS} {w : Int32} {h0 h : vg_H} (p : MP b S w h0 h) (f : Nat) (h1 : f ≠ 0) (hf : scl f = false) (v : Int32) : MP b S w h0 (vg_wi h (b + 37) f v) :=
  ⟨p.1.fld f hf v, by rw [wi_i, if_neg (fun z => h1 z.2.symm)]; exact p.2⟩
theorem MP.mx {b : Nat} {S : SS} {w : Int32} {h0 h : vg_H} (p : MP b S w h0 h) : MX b S h := p.1.1
/-- an index of an int that lies within -/
theorem nI_cl {x : Int32} {n : Nat} (hn : n < 2 ^ 31) (h0 : 0 ≤ x) (h1 : x ≤ nI n) : x.toNatClampNeg ≤ n ∧ x = nI x.toNatClampNeg := by
  obtain ⟨j, hj, rfl⟩ := nI_ex n hn h0 h1
  rw [nI_clamp (by omega)]
  exact ⟨hj, rfl⟩
theorem vp_cl {x : Int32} {n : Nat} (hn : n < 2 ^ 31) (h0 : 0 ≤ x) (h1 : x ≤ nI n) : vp_in x (n + 1) := by
  have := nI_cl hn h0 h1
  exact fun z => z.elim (fun q => Int32.not_lt.mpr h0 q) (fun q => by omega)
