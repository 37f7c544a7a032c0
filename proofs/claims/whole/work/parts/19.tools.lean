/-! ===== tools ===== -/
/-- a boolean's int -/
def bI (p : Prop) [Decidable p] : Int32 := if p then 1 else 0
theorem bI_t {p : Prop} [Decidable p] (h : p) : bI p = 1 := if_pos h
theorem bI_f {p : Prop} [Decidable p] (h : ¬ p) : bI p = 0 := if_neg h
theorem bI_01 (p : Prop) [Decidable p] : bI p = 0 ∨ bI p = 1 := by
  by_cases h : p
  · exact Or.inr (bI_t h)
  · exact Or.inl (bI_f h)
theorem bI_ne {p : Prop} [Decidable p] : ¬ bI p = 0 ↔ p := by
  by_cases h : p
  · rw [bI_t h]; exact ⟨fun _ => h, fun _ => by decide⟩
  · rw [bI_f h]; exact ⟨fun z => absurd rfl z, fun z => absurd z h⟩
theorem bI_eq {p : Prop} [Decidable p] : bI p = 0 ↔ ¬ p := by
  by_cases h : p
  · rw [bI_t h]; exact ⟨fun z => absurd z (by decide), fun z => absurd h z⟩
  · rw [bI_f h]; exact ⟨fun _ => h, fun _ => rfl⟩
theorem bI_0 {p : Prop} [Decidable p] {Q : vg_O → vg_H → Prop} {h : vg_H} (hQ : Q (.inl (some (.inl (bI p)))) h) (hp : ¬ p) : Q (.inl (some (.inl 0))) h := by rw [bI_f hp] at hQ; exact hQ
theorem bI_1 {p : Prop} [Decidable p] {Q : vg_O → vg_H → Prop} {h : vg_H} (hQ : Q (.inl (some (.inl (bI p)))) h) (hp : p) : Q (.inl (some (.inl 1))) h := by rw [bI_t hp] at hQ; exact hQ
theorem oI_1 : Int32.ofInt 1 = 1 := rfl
theorem oI_m : Int32.ofInt (-1) = -1 := rfl
theorem oI_5 : Int32.ofInt 5 = 5 := rfl
theorem oI_L : Int32.ofInt 4320 = 4320 := rfl
theorem vi_ws_nil : vi_ws [] = 0 := rfl
theorem vi_ws_I (x : Int32) (r : List vg_V) : vi_ws (.inl x :: r) = 1 + vi_ws r := by simp [vi_ws, vg_v, Value.category]
theorem vi_ws_J (x : Int64) (r : List vg_V) : vi_ws (.inr (.inl x) :: r) = 2 + vi_ws r := by simp [vi_ws, vg_v, Value.category]
theorem vi_ws_R (x : Option Nat) (r : List vg_V) : vi_ws (.inr (.inr x) :: r) = 1 + vi_ws r := by cases x <;> simp [vi_ws, vg_v, va_rf, Value.category]
theorem bI_congr {p q : Prop} [Decidable p] [Decidable q] (h : p ↔ q) : bI p = bI q := by
  by_cases hp : p
  · rw [bI_t hp, bI_t (h.mp hp)]
  · rw [bI_f hp, bI_f (fun z => hp (h.mpr z))]

section HW
variable (h : vg_H) (a k a' k' : Nat)
theorem wi_k (x : Int32) : (vg_wi h a k x).1 = h.1 := rfl
theorem wi_n (x : Int32) : (vg_wi h a k x).2.1 = h.2.1 := rfl
theorem wi_i (x : Int32) : (vg_wi h a k x).2.2.1 a' k' = if a' = a ∧ k' = k then x else h.2.2.1 a' k' := by
  show va_up h.2.2.1 a (va_up (h.2.2.1 a) k x) a' k' = _
  unfold va_up
  by_cases h1 : a' = a
  · subst h1; by_cases h2 : k' = k <;> simp [h2]
  · simp [h1]
theorem wi_l (x : Int32) : (vg_wi h a k x).2.2.2.1 = h.2.2.2.1 := rfl
theorem wi_r (x : Int32) : (vg_wi h a k x).2.2.2.2.1 = h.2.2.2.2.1 := rfl
theorem wi_z (x : Int32) : (vg_wi h a k x).2.2.2.2.2 = h.2.2.2.2.2 := rfl
theorem wl_k (x : Int64) : (vg_wl h a k x).1 = h.1 := rfl
theorem wl_n (x : Int64) : (vg_wl h a k x).2.1 = h.2.1 := rfl
theorem wl_i (x : Int64) : (vg_wl h a k x).2.2.1 = h.2.2.1 := rfl
theorem wl_l (x : Int64) : (vg_wl h a k x).2.2.2.1 a' k' = if a' = a ∧ k' = k then x else h.2.2.2.1 a' k' := by
  show va_up h.2.2.2.1 a (va_up (h.2.2.2.1 a) k x) a' k' = _
  unfold va_up
  by_cases h1 : a' = a
  · subst h1; by_cases h2 : k' = k <;> simp [h2]
  · simp [h1]
theorem wl_r (x : Int64) : (vg_wl h a k x).2.2.2.2.1 = h.2.2.2.2.1 := rfl
theorem wl_z (x : Int64) : (vg_wl h a k x).2.2.2.2.2 = h.2.2.2.2.2 := rfl
theorem wr_k (x : Option Nat) : (vg_wr h a k x).1 = h.1 := rfl
theorem wr_n (x : Option Nat) : (vg_wr h a k x).2.1 = h.2.1 := rfl
theorem wr_i (x : Option Nat) : (vg_wr h a k x).2.2.1 = h.2.2.1 := rfl
theorem wr_l (x : Option Nat) : (vg_wr h a k x).2.2.2.1 = h.2.2.2.1 := rfl
theorem wr_r (x : Option Nat) : (vg_wr h a k x).2.2.2.2.1 a' k' = if a' = a ∧ k' = k then x else h.2.2.2.2.1 a' k' := by
  show va_up h.2.2.2.2.1 a (va_up (h.2.2.2.2.1 a) k x) a' k' = _
  unfold va_up
  by_cases h1 : a' = a
  · subst h1; by_cases h2 : k' = k <;> simp [h2]
  · simp [h1]
theorem wr_z (x : Option Nat) : (vg_wr h a k x).2.2.2.2.2 = h.2.2.2.2.2 := rfl
theorem nw_k (c n : Nat) : (vg_new h c n).1 a' = if a' = vg_z h then c else h.1 a' := by
  show va_up h.1 h.2.2.2.2.2 c a' = _; unfold va_up; rfl
theorem nw_n (c n : Nat) : (vg_new h c n).2.1 a' = if a' = vg_z h then n else h.2.1 a' := by
  show va_up h.2.1 h.2.2.2.2.2 n a' = _; unfold va_up; rfl
theorem nw_i (c n : Nat) : (vg_new h c n).2.2.1 a' k' = if a' = vg_z h then 0 else h.2.2.1 a' k' := by
  show va_up h.2.2.1 h.2.2.2.2.2 (fun _ => 0) a' k' = _; unfold va_up; by_cases h1 : a' = vg_z h <;> simp [h1]
theorem nw_l (c n : Nat) : (vg_new h c n).2.2.2.1 a' k' = if a' = vg_z h then 0 else h.2.2.2.1 a' k' := by
  show va_up h.2.2.2.1 h.2.2.2.2.2 (fun _ => 0) a' k' = _; unfold va_up; by_cases h1 : a' = vg_z h <;> simp [h1]
theorem nw_r (c n : Nat) : (vg_new h c n).2.2.2.2.1 a' k' = if a' = vg_z h then none else h.2.2.2.2.1 a' k' := by
  show va_up h.2.2.2.2.1 h.2.2.2.2.2 (fun _ => none) a' k' = _; unfold va_up; by_cases h1 : a' = vg_z h <;> simp [h1]
theorem nw_z (c n : Nat) : (vg_new h c n).2.2.2.2.2 = h.2.2.2.2.2 + 1 := rfl
theorem sk_k (n : Nat) : (vg_skip h n).1 = h.1 := rfl
theorem sk_n (n : Nat) : (vg_skip h n).2.1 = h.2.1 := rfl
theorem sk_i (n : Nat) : (vg_skip h n).2.2.1 = h.2.2.1 := rfl
theorem sk_l (n : Nat) : (vg_skip h n).2.2.2.1 = h.2.2.2.1 := rfl
theorem sk_r (n : Nat) : (vg_skip h n).2.2.2.2.1 = h.2.2.2.2.1 := rfl
theorem sk_z (n : Nat) : (vg_skip h n).2.2.2.2.2 = n := rfl
end HW
theorem vp_nI {i n : Nat} (h : i < n) (hn : n < 2 ^ 31) : vp_in (nI i) n := nI_in h hn
/-- an int between bounds is a natural number's -/
theorem nI_ex {x : Int32} (n : Nat) (hn : n < 2 ^ 31) (h0 : 0 ≤ x) (h1 : x ≤ nI n) : ∃ j : Nat, j ≤ n ∧ x = nI j := nI_of2 (M := nI n) (nI_toInt hn) (Int32.not_lt.mpr h0) h1
/-- f i + .. over m terms -/
def sumI (f : Nat → Int32) : Nat → Nat → Int32
  | _, 0 => 0
  | i, m + 1 => f i + sumI f (i + 1) m
theorem sumI_0 (f : Nat → Int32) (i : Nat) : sumI f i 0 = 0 := rfl
theorem sumI_s (f : Nat → Int32) (i m : Nat) : sumI f i (m + 1) = f i + sumI f (i + 1) m := rfl
theorem sumI_congr {f g : Nat → Int32} : ∀ (m i : Nat), (∀ j, i ≤ j → j < i + m → f j = g j) → sumI f i m = sumI g i m
  | 0, _, _ => rfl
  | m + 1, i, h => by rw [sumI_s, sumI_s, h i (by omega) (by omega), sumI_congr m (i + 1) (fun j h1 h2 => h j (by omega) (by omega))]
theorem sum_t {P : Prop} [Decidable P] {c s : Int32} {Q : vg_O → vg_H → Prop} {h : vg_H} (hQ : Q (.inl (some (.inl (c + (bI P + s))))) h) (hp : P) : Q (.inl (some (.inl (c + 1 + s)))) h := by
  rw [bI_t hp, ← Int32.add_assoc] at hQ; exact hQ
theorem sum_f {P : Prop} [Decidable P] {c s : Int32} {Q : vg_O → vg_H → Prop} {h : vg_H} (hQ : Q (.inl (some (.inl (c + (bI P + s))))) h) (hp : ¬ P) : Q (.inl (some (.inl (c + s)))) h := by
  rw [bI_f hp, Int32.zero_add] at hQ; exact hQ
