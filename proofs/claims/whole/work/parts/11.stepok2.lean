/-! ===== that a step's demand is enough: statics, new cells, calls, switches ===== -/
section VS2
variable {G : vg_G} {MT : Nat → vg_M} {M : vg_M} {uc us pc len : Nat} {ax : List Nat} {L : List (Option vg_V)} {st : List vg_V} {h : vg_H} {Q : vg_O → vg_H → Prop}

theorem vi_sw_mono {x : Int32} {K K' : Nat → Prop} (hk : ∀ t, K t → K' t) : ∀ (i : Nat) (ts : List Nat), vi_sw x K i ts → vi_sw x K' i ts
  | _, [], _ => trivial
  | i, t :: r, h => ⟨fun e => hk t (h.1 e), vi_sw_mono hk (i + 1) r h.2⟩
/-- a switch from 0 on -/
theorem vr_tsw {x : Int32} {d lo hi : Int} {offs : Array Int} {ts : List Nat} {t : Nat} (hd : decode M.2.1 pc = .ok (.tableswitch d lo hi offs, len)) (h0 : lo = 0) (h1 : hi = (ts.length : Int) - 1) (h2 : (pc : Int) + d = (t : Int)) (h3 : offs.toList.map (fun o => (pc : Int) + o) = ts.map (fun x : Nat => (x : Int))) (hl : ts.length < 1000)
    (k : vi_sw x (fun t => vg_A G M uc us t L st h Q) 0 ts ∧ ((x.toInt < 0 ∨ (ts.length : Int) - 1 < x.toInt) → vg_A G M uc us t L st h Q)) : vg_A G M uc us pc L (.inl x :: st) h Q := by
  subst h0; subst h1
  intro p l e R s m args below meth c F H locs ls hR hlo hl'
  by_cases hx : x.toInt < 0 ∨ (ts.length : Int) - 1 < x.toInt
  · exact lv_tableOut F.1 F.2.1 hd hx h2 (k.2 hx p l e R s m args below meth c F H locs ls hR hlo hl')
  · have hx1 : ¬ x.toInt < 0 := fun z => hx (Or.inl z)
    have hx2 : ¬ (ts.length : Int) - 1 < x.toInt := fun z => hx (Or.inr z)
    have key : ∀ (ts : List Nat) (i j : Nat), vi_sw x (fun t => vg_A G M uc us t L st h Q) i ts → ∀ tg, ts[j]? = some tg → x = Int32.ofNat (i + j) → vg_A G M uc us tg L st h Q := by
      intro ts
      induction ts with
      | nil => intro i j _ tg hj; simp at hj
      | cons t0 r ih =>
        intro i j hs tg hj hxj
        cases j with
        | zero => simp at hj; subst hj; exact hs.1 hxj
        | succ j => exact ih (i + 1) j hs.2 tg (by simpa using hj) (by rw [hxj]; congr 1; omega)
    have hlt : x.toInt.toNat < ts.length := by omega
    obtain ⟨tg, htg⟩ : ∃ tg, ts[x.toInt.toNat]? = some tg := ⟨_, List.getElem?_eq_getElem hlt⟩
    have hlo2 : offs.toList.length = ts.length := by simpa using congrArg List.length h3
    obtain ⟨off, hoff⟩ : ∃ off, offs.toList[x.toInt.toNat]? = some off := ⟨_, List.getElem?_eq_getElem (by omega)⟩
    have ht : (pc : Int) + off = (tg : Int) := by
      have e1 : (offs.toList.map (fun o => (pc : Int) + o))[x.toInt.toNat]? = some ((pc : Int) + off) := by rw [List.getElem?_map, hoff]; rfl
      rw [h3, List.getElem?_map, htg] at e1
      exact (Option.some.inj e1).symm
    have hxe : x = Int32.ofNat (0 + x.toInt.toNat) := by
      apply Int32.toInt_inj.mp
      rw [Nat.zero_add, show Int32.ofNat x.toInt.toNat = nI x.toInt.toNat from rfl, nI_toInt (by omega)]
      omega
    exact lv_tableIn F.1 F.2.1 hd hx1 hx2 (by
      rw [show (x.toInt - 0).toNat = x.toInt.toNat by omega, ← Array.getElem?_toList]; exact hoff) ht (key ts 0 x.toInt.toNat k.1 tg htg hxe p l e R s m args below meth c F H locs ls hR hlo hl')
theorem vs_tableswitch {d lo hi : Int} {offs : Array Int} (hl : ax.length < 1000) (hd : decode M.2.1 pc = .ok ((.tableswitch d lo hi offs), len)) (hk : vi_ok1 MT M (pc, len, (.tableswitch d lo hi offs), ax) = true) {K : vi_K} {J : Nat → vi_K} (hK : ∀ uc us L st h, K uc us L st h → vg_A G M uc us (pc + len) L st h Q) (hJ : ∀ t uc us L st h, J t uc us L st h → vg_A G M uc us t L st h Q) (hv : vi_1 G MT M (pc, len, (.tableswitch d lo hi offs), ax) uc us L st h Q K J) : vg_A G M uc us pc L st h Q := by
  match ax, hk, hv, hl with
  | t :: ts, hk, hv, hl =>
    simp only [vi_ok1, Bool.and_eq_true, decide_eq_true_eq] at hk
    obtain ⟨⟨⟨h0, h1⟩, h2⟩, h3⟩ := hk
    simp only [vi_1, vi_i] at hv
    split at hv
    · exact vr_tsw hd h0 h1 h2 h3 (by simp at hl; omega) ⟨vi_sw_mono (fun t ht => hJ _ _ _ _ _ _ ht) _ _ hv.1, fun z => hJ _ _ _ _ _ _ (hv.2 z)⟩
    · exact hv.elim
  | [], hk, hv, hl => simp [vi_ok1] at hk
theorem vs_getstatic {idx : Nat} (hd : decode M.2.1 pc = .ok ((.getstatic idx), len)) (hk : vi_ok1 MT M (pc, len, (.getstatic idx), ax) = true) {K : vi_K} {J : Nat → vi_K} (hK : ∀ uc us L st h, K uc us L st h → vg_A G M uc us (pc + len) L st h Q) (hJ : ∀ t uc us L st h, J t uc us L st h → vg_A G M uc us t L st h Q) (hv : vi_1 G MT M (pc, len, (.getstatic idx), ax) uc us L st h Q K J) : vg_A G M uc us pc L st h Q := by
  match ax, hk, hv with
  | [i, a, 0], hk, hv =>
    simp only [vi_ok1, Bool.and_eq_true, decide_eq_true_eq] at hk
    obtain ⟨⟨rfl, h1⟩, h2⟩ := hk
    simp only [vi_1, List.headD] at hv
    exact vr_gets (fun U hU => vi_sz G h1 U hU) (vi_w_ok h2) hd (hK _ _ _ _ _ hv)
  | [i, a, 1], hk, hv =>
    simp only [vi_ok1, Bool.and_eq_true, decide_eq_true_eq] at hk
    obtain ⟨⟨rfl, h1⟩, h2⟩ := hk
    simp only [vi_1, List.headD] at hv
    exact vr_getsN (fun U hU => vi_sz G h1 U hU) (vi_x_ok h2) hd (hK _ _ _ _ _ hv)
  | [_, _, _ + 2], hk, hv => simp [vi_ok1] at hk
  | [], hk, hv => simp [vi_ok1] at hk
  | [_], hk, hv => simp [vi_ok1] at hk
  | [_, _], hk, hv => simp [vi_ok1] at hk
  | _ :: _ :: _ :: _ :: _, hk, hv => simp [vi_ok1] at hk
theorem vs_new {idx : Nat} (hd : decode M.2.1 pc = .ok ((.new idx), len)) (hk : vi_ok1 MT M (pc, len, (.new idx), ax) = true) {K : vi_K} {J : Nat → vi_K} (hK : ∀ uc us L st h, K uc us L st h → vg_A G M uc us (pc + len) L st h Q) (hJ : ∀ t uc us L st h, J t uc us L st h → vg_A G M uc us t L st h Q) (hv : vi_1 G MT M (pc, len, (.new idx), ax) uc us L st h Q K J) : vg_A G M uc us pc L st h Q := by
  match ax, hk, hv with
  | [ci, N, a, b, c], hk, hv =>
    simp only [vi_ok1, Bool.and_eq_true, decide_eq_true_eq] at hk
    obtain ⟨rfl, h2⟩ := hk
    split at h2
    · rename_i r heq
      simp only [Bool.and_eq_true, decide_eq_true_eq] at h2
      obtain ⟨⟨⟨rfl, h3⟩, h4⟩, h5⟩ := h2
      simp only [vi_1] at hv
      exact vr_new heq (vi_w_ok h3) (vi_w_ok h4) (vi_w_ok h5) hd hv.1 (hK _ _ _ _ _ hv.2)
    · cases h2
  | [], hk, hv => simp [vi_ok1] at hk
  | [_], hk, hv => simp [vi_ok1] at hk
  | [_, _], hk, hv => simp [vi_ok1] at hk
  | [_, _, _], hk, hv => simp [vi_ok1] at hk
  | [_, _, _, _], hk, hv => simp [vi_ok1] at hk
  | _ :: _ :: _ :: _ :: _ :: _ :: _, hk, hv => simp [vi_ok1] at hk
theorem vs_newarray {aty : ArrayType} (hd : decode M.2.1 pc = .ok ((.newarray aty), len)) (hk : vi_ok1 MT M (pc, len, (.newarray aty), ax) = true) {K : vi_K} {J : Nat → vi_K} (hK : ∀ uc us L st h, K uc us L st h → vg_A G M uc us (pc + len) L st h Q) (hJ : ∀ t uc us L st h, J t uc us L st h → vg_A G M uc us t L st h Q) (hv : vi_1 G MT M (pc, len, (.newarray aty), ax) uc us L st h Q K J) : vg_A G M uc us pc L st h Q := by
  match ax, hk, hv with
  | [t, a], hk, hv =>
    simp only [vi_ok1, Bool.and_eq_true, decide_eq_true_eq] at hk
    obtain ⟨⟨⟨rfl, h2⟩, h3⟩, h4⟩ := hk
    simp only [vi_1, vi_i, List.headD] at hv
    split at hv
    · exact vr_newa h3 (vi_w_ok h4) h2 hd hv.1.1 hv.1.2 hv.2.1 (hK _ _ _ _ _ hv.2.2)
    · exact hv.elim
  | [], hk, hv => simp [vi_ok1] at hk
  | [_], hk, hv => simp [vi_ok1] at hk
  | _ :: _ :: _ :: _, hk, hv => simp [vi_ok1] at hk
theorem vs_anewarray {idx : Nat} (hd : decode M.2.1 pc = .ok ((.anewarray idx), len)) (hk : vi_ok1 MT M (pc, len, (.anewarray idx), ax) = true) {K : vi_K} {J : Nat → vi_K} (hK : ∀ uc us L st h, K uc us L st h → vg_A G M uc us (pc + len) L st h Q) (hJ : ∀ t uc us L st h, J t uc us L st h → vg_A G M uc us t L st h Q) (hv : vi_1 G MT M (pc, len, (.anewarray idx), ax) uc us L st h Q K J) : vg_A G M uc us pc L st h Q := by
  match ax, hk, hv with
  | [t, a, b], hk, hv =>
    simp only [vi_ok1, Bool.and_eq_true, decide_eq_true_eq] at hk
    obtain ⟨rfl, h2⟩ := hk
    split at h2
    · rename_i C heq
      simp only [Bool.and_eq_true] at h2
      simp only [vi_1, vi_i, List.headD] at hv
      split at hv
      · exact vr_newq heq (vi_w_ok h2.1) (vi_x_ok h2.2) hd hv.1.1 hv.1.2 hv.2.1 (hK _ _ _ _ _ hv.2.2)
      · exact hv.elim
    · cases h2
  | [], hk, hv => simp [vi_ok1] at hk
  | [_], hk, hv => simp [vi_ok1] at hk
  | [_, _], hk, hv => simp [vi_ok1] at hk
  | _ :: _ :: _ :: _ :: _, hk, hv => simp [vi_ok1] at hk
theorem vs_invokestatic {idx : Nat} (hd : decode M.2.1 pc = .ok ((.invokestatic idx), len)) (hk : vi_ok1 MT M (pc, len, (.invokestatic idx), ax) = true) {K : vi_K} {J : Nat → vi_K} (hK : ∀ uc us L st h, K uc us L st h → vg_A G M uc us (pc + len) L st h Q) (hJ : ∀ t uc us L st h, J t uc us L st h → vg_A G M uc us t L st h Q) (hv : vi_1 G MT M (pc, len, (.invokestatic idx), ax) uc us L st h Q K J) : vg_A G M uc us pc L st h Q := by
  match ax, hk, hv with
  | [mi, n, a, b, c, d], hk, hv =>
    simp only [vi_ok1, Bool.and_eq_true, decide_eq_true_eq] at hk
    obtain ⟨⟨rfl, h2⟩, h3⟩ := hk
    simp only [vi_1] at hv
    obtain ⟨as, r, rfl, h4, h5, h6, h7⟩ := vi_pop_ok _ _ _ _ hv
    rw [List.append_nil] at h7
    exact vr_callS (vi_cs_ok h2) (vi_w_ok h3) h4 hd h5 h6 h7 (fun v h' q => hK _ _ _ _ _ q) (fun k h' q => vx_up q.1 h6 q.2)
  | [0, a, b, c, d], hk, hv =>
    simp only [vi_ok1, Bool.and_eq_true, decide_eq_true_eq] at hk
    obtain ⟨⟨⟨⟨⟨⟨rfl, w1⟩, w2⟩, w3⟩, w4⟩, w5⟩, w6⟩ := hk
    simp only [vi_1, vi_ii] at hv
    split at hv
    · exact vr_mmax (vi_w_ok w1) (vi_w_ok w2) (vi_w_ok w3) (vi_w_ok w4) hd hv.1 ⟨w5, w6⟩ hv.2.1 (hK _ _ _ _ _ (hv.2.2 _ rfl))
    · exact hv.elim
  | [1, a, b, c, d], hk, hv =>
    simp only [vi_ok1, Bool.and_eq_true, decide_eq_true_eq] at hk
    obtain ⟨⟨⟨⟨⟨⟨rfl, w1⟩, w2⟩, w3⟩, w4⟩, w5⟩, w6⟩ := hk
    simp only [vi_1, vi_ii] at hv
    split at hv
    · exact vr_mmin (vi_w_ok w1) (vi_w_ok w2) (vi_w_ok w3) (vi_w_ok w4) hd hv.1 ⟨w5, w6⟩ hv.2.1 (hK _ _ _ _ _ (hv.2.2 _ rfl))
    · exact hv.elim
  | [_ + 2, _, _, _, _], hk, hv => simp [vi_ok1] at hk
  | [a, b, c, d], hk, hv =>
    simp only [vi_ok1, Bool.and_eq_true, decide_eq_true_eq] at hk
    obtain ⟨⟨⟨⟨⟨⟨rfl, w1⟩, w2⟩, w3⟩, w4⟩, w5⟩, w6⟩ := hk
    simp only [vi_1] at hv
    split at hv
    · obtain ⟨a0, rfl, hv2⟩ := vi_o_ok hv
      obtain ⟨a1, rfl, hv3⟩ := vi_o_ok hv2
      obtain ⟨e1, e2, e3, e4, e5, e6, e7, e8, e9⟩ := hv3
      exact vr_copy (vi_w_ok w1) (vi_w_ok w2) (vi_w_ok w3) (vi_w_ok w4) hd e1 ⟨w5, w6⟩ e2 e3 e4 e5 e6 e7 e8 (hK _ _ _ _ _ e9)
    · exact hv.elim
  | [], hk, hv => simp [vi_ok1] at hk
  | [_], hk, hv => simp [vi_ok1] at hk
  | [_, _], hk, hv => simp [vi_ok1] at hk
  | [_, _, _], hk, hv => simp [vi_ok1] at hk
  | _ :: _ :: _ :: _ :: _ :: _ :: _ :: _, hk, hv => simp [vi_ok1] at hk
theorem vs_invokevirtual {idx : Nat} (hd : decode M.2.1 pc = .ok ((.invokevirtual idx), len)) (hk : vi_ok1 MT M (pc, len, (.invokevirtual idx), ax) = true) {K : vi_K} {J : Nat → vi_K} (hK : ∀ uc us L st h, K uc us L st h → vg_A G M uc us (pc + len) L st h Q) (hJ : ∀ t uc us L st h, J t uc us L st h → vg_A G M uc us t L st h Q) (hv : vi_1 G MT M (pc, len, (.invokevirtual idx), ax) uc us L st h Q K J) : vg_A G M uc us pc L st h Q := by
  match ax, hk, hv with
  | [mi, n, ci, a, b, c, d, f], hk, hv =>
    simp only [vi_ok1, Bool.and_eq_true, decide_eq_true_eq] at hk
    obtain ⟨⟨⟨⟨rfl, h2⟩, h3⟩, h4⟩, h5⟩ := hk
    split at h5
    · rename_i r9 heq
      have h5 := of_decide_eq_true h5
      simp only [vi_1] at hv
      obtain ⟨as, r0, rfl, e4, e5⟩ := vi_pop_ok _ _ _ _ hv
      simp only [vi_r] at e5
      split at e5
      · obtain ⟨q, rfl, e6, e7, e8, e9⟩ := vi_o_ok e5
        rw [List.append_nil] at e9
        exact vr_callV (vi_cs_ok h2) heq h5 (vi_w_ok h3) (vi_w_ok h4) e6 e4 hd e7 e8 e9 (fun v h' q => hK _ _ _ _ _ q) (fun k h' q => vx_up q.1 e8 q.2)
      · exact e5.elim
    · cases h5
  | [], hk, hv => simp [vi_ok1] at hk
  | [_], hk, hv => simp [vi_ok1] at hk
  | [_, _], hk, hv => simp [vi_ok1] at hk
  | [_, _, _], hk, hv => simp [vi_ok1] at hk
  | [_, _, _, _], hk, hv => simp [vi_ok1] at hk
  | [_, _, _, _, _], hk, hv => simp [vi_ok1] at hk
  | [_, _, _, _, _, _], hk, hv => simp [vi_ok1] at hk
  | [_, _, _, _, _, _, _], hk, hv => simp [vi_ok1] at hk
  | _ :: _ :: _ :: _ :: _ :: _ :: _ :: _ :: _ :: _, hk, hv => simp [vi_ok1] at hk
theorem vs_invokespecial {idx : Nat} (hd : decode M.2.1 pc = .ok ((.invokespecial idx), len)) (hk : vi_ok1 MT M (pc, len, (.invokespecial idx), ax) = true) {K : vi_K} {J : Nat → vi_K} (hK : ∀ uc us L st h, K uc us L st h → vg_A G M uc us (pc + len) L st h Q) (hJ : ∀ t uc us L st h, J t uc us L st h → vg_A G M uc us t L st h Q) (hv : vi_1 G MT M (pc, len, (.invokespecial idx), ax) uc us L st h Q K J) : vg_A G M uc us pc L st h Q := by
  match ax, hk, hv with
  | [a, b, c], hk, hv =>
    simp only [vi_ok1, Bool.and_eq_true, decide_eq_true_eq] at hk
    obtain ⟨⟨⟨⟨rfl, h2⟩, h3⟩, h4⟩, h5⟩ := hk
    simp only [vi_1, vi_r] at hv
    split at hv
    · obtain ⟨q, rfl, e6, e7⟩ := vi_o_ok hv
      exact vr_obj (vi_w_ok h2) (vi_w_ok h3) (vi_w_ok h4) hd h5 e6 (hK _ _ _ _ _ e7)
    · exact hv.elim
  | [mi, n, a, b, c, d], hk, hv =>
    simp only [vi_ok1, Bool.and_eq_true, decide_eq_true_eq] at hk
    obtain ⟨⟨⟨⟨rfl, h2⟩, h3⟩, h4⟩, h5⟩ := hk
    simp only [vi_1] at hv
    obtain ⟨as, r0, rfl, e4, e5⟩ := vi_pop_ok _ _ _ _ hv
    simp only [vi_r] at e5
    split at e5
    · obtain ⟨q, rfl, e7, e8, e9⟩ := vi_o_ok e5
      rw [List.append_nil] at e9
      exact vr_callI (vi_cs_ok h2) (vi_w_ok h3) h4 h5 e4 hd e7 e8 e9 (fun k h' q => q) (fun v h' q => hK _ _ _ _ _ q)
    · exact e5.elim
  | [mi, n, a, b, c, d, 1], hk, hv =>
    simp only [vi_ok1, Bool.and_eq_true, decide_eq_true_eq] at hk
    obtain ⟨⟨⟨⟨⟨⟨⟨⟨⟨⟨⟨⟨rfl, w1⟩, w2⟩, w3⟩, w4⟩, w5⟩, w6⟩, w7⟩, w8⟩, w9⟩, h3⟩, h4⟩, h5⟩ := hk
    simp only [vi_1] at hv
    obtain ⟨as, r0, rfl, e4, e5⟩ := vi_pop_ok _ _ _ _ hv
    simp only [vi_r] at e5
    split at e5
    · obtain ⟨q, rfl, e7, e8, e9⟩ := vi_o_ok e5
      rw [List.append_nil] at e9
      exact vr_callIN (vi_x_ok w1) (vi_w_ok w2) (vi_w_ok w3) w4 ⟨w5, w6, w7⟩ ⟨w8, w9⟩ (vi_w_ok h3) h4 h5 e4 hd e7 e8 e9 (fun k h' q => q) (fun v h' q => hK _ _ _ _ _ q)
    · exact e5.elim
  | [_, _, _, _, _, _, 0], hk, hv => simp [vi_ok1] at hk
  | [_, _, _, _, _, _, _ + 2], hk, hv => simp [vi_ok1] at hk
  | [], hk, hv => simp [vi_ok1] at hk
  | [_], hk, hv => simp [vi_ok1] at hk
  | [_, _], hk, hv => simp [vi_ok1] at hk
  | [_, _, _, _], hk, hv => simp [vi_ok1] at hk
  | [_, _, _, _, _], hk, hv => simp [vi_ok1] at hk
  | _ :: _ :: _ :: _ :: _ :: _ :: _ :: _ :: _, hk, hv => simp [vi_ok1] at hk
end VS2
