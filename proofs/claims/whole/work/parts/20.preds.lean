/-! ===== the class's small questions ===== -/
/-- a boolean's int -/
def bI (p : Prop) [Decidable p] : Int32 := if p then 1 else 0
theorem bI_t {p : Prop} [Decidable p] (h : p) : bI p = 1 := if_pos h
theorem bI_f {p : Prop} [Decidable p] (h : ¬ p) : bI p = 0 := if_neg h
theorem bI_01 (p : Prop) [Decidable p] : bI p = 0 ∨ bI p = 1 := by
  by_cases h : p
  · exact Or.inr (bI_t h)
  · exact Or.inl (bI_f h)
theorem bI_ne {p : Prop} [Decidable p] : ¬ bI p = 0 ↔ p := by
  by_cases h : p
  · rw [bI_t h]; exact ⟨fun _ => h, fun _ => by decide⟩
  · rw [bI_f h]; exact ⟨fun z => absurd rfl z, fun z => absurd z h⟩
theorem bI_eq {p : Prop} [Decidable p] : bI p = 0 ↔ ¬ p := by
  by_cases h : p
  · rw [bI_t h]; exact ⟨fun z => absurd z (by decide), fun z => absurd h z⟩
  · rw [bI_f h]; exact ⟨fun _ => h, fun _ => rfl⟩
section CP
variable {G : vg_G} {h : vg_H} {Q : vg_O → vg_H → Prop}
theorem c_61 {a b c : Int32} (hQ : Q (.inl (some (.inl (bI (b ≤ a ∧ a ≤ c))))) h) : vg_C G (MT 61) [.inl a, .inl b, .inl c] h Q := by
  refine vg_C_of rfl (by decide +kernel) (Nat.le_of_ble_eq_true rfl) ?_
  refine vi_run ok_61 [] 40 ?_
  rw [at_61_0]
  simp only [vg_ent, vg_en, List.length_cons, List.length_nil, Nat.reduceAdd, Nat.reduceSub, List.replicate, List.append_nil, List.nil_append, List.cons_append, mn_61]
  simp only [vi_go, vi_1, vi_lk, vi_li, vi_ll, vi_lr, vi_ii, vi_i, vi_jj, vi_j, vi_ij, vi_r, vi_rr, vi_o, vi_ir, vi_iir, vi_jir, vi_rir, vi_pop, vi_sw, vi_sv, vg_set1, vg_set2, vg_lo, List.headD, List.contains_nil, List.contains_cons, Bool.or_false, Bool.false_eq_true, if_false, if_true, Nat.reduceAdd, Nat.reduceBEq, List.nil_append, List.cons_append, List.append_nil, Option.toList, cd_61_0, cd_61_14, cd_61_15, at_61_14, at_61_15, mc_61, ms_61, mr_61, mh_61, ml_61]
  trace_state
  sorry
end CP
