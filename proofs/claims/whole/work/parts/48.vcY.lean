/-! ===== lists by getD ===== -/
theorem gd_take {T : List Nat} {n j : Nat} (h : j < n) : (T.take n).getD j 0 = T.getD j 0 := by
  rw [List.getD_eq_getElem?_getD, List.getD_eq_getElem?_getD, List.getElem?_take_of_lt h]
theorem gd_left {A B : List Nat} {j : Nat} (h : j < A.length) : (A ++ B).getD j 0 = A.getD j 0 := by
  rw [List.getD_eq_getElem?_getD, List.getD_eq_getElem?_getD, List.getElem?_append_left h]
theorem gd_right {A B : List Nat} {j : Nat} (h : A.length ≤ j) : (A ++ B).getD j 0 = B.getD (j - A.length) 0 := by
  rw [List.getD_eq_getElem?_getD, List.getD_eq_getElem?_getD, List.getElem?_append_right h]
theorem gd_drop {T : List Nat} {n j : Nat} : (T.drop n).getD j 0 = T.getD (n + j) 0 := by
  rw [List.getD_eq_getElem?_getD, List.getD_eq_getElem?_getD, List.getElem?_drop]
theorem take_s {T : List Nat} {n : Nat} (h : n < T.length) : T.take n ++ [T.getD n 0] = T.take (n + 1) := by
  rw [List.getD_eq_getElem?_getD, List.getElem?_eq_getElem h, List.take_succ, List.getElem?_eq_getElem h]; rfl
theorem gd_mem {T : List Nat} {j : Nat} (h : j < T.length) : T.getD j 0 ∈ T := by
  rw [List.getD_eq_getElem?_getD, List.getElem?_eq_getElem h]; exact List.getElem_mem h
theorem repL_len (P : List Nat) : ∀ t, (repL P t).length = P.length * t
  | 0 => rfl
  | t + 1 => by
    show (P ++ repL P t).length = _
    rw [List.length_append, repL_len P t, Nat.mul_succ]; omega
theorem repL_gd (P : List Nat) (hp : 0 < P.length) : ∀ t q, q < P.length * t → (repL P t).getD q 0 = P.getD (q % P.length) 0
  | 0, q, h => by rw [Nat.mul_zero] at h; exact absurd h (Nat.not_lt_zero _)
  | t + 1, q, h => by
    show (P ++ repL P t).getD q 0 = _
    by_cases c : q < P.length
    · rw [gd_left c, Nat.mod_eq_of_lt c]
    · rw [gd_right (by omega), repL_gd P hp t _ (by rw [Nat.mul_succ] at h; omega), ← Nat.mod_eq_sub_mod (by omega)]
theorem lrel_fin {I' : wI} {T : List Nat} {n : Nat} (h : lrel I' (T.take n)) (hn : n ≤ T.length) (he : n = T.length ∨ 500 ≤ n) {I2 : wI} (q : I2 = wU I' 24 3 (nI T.length)) : lrel I2 T ∧ wfr I' I2 := by
  refine ⟨⟨by rw [q, wU_at], fun i hi h5 => ?_⟩, fun c c1 _ => by rw [q, wU_ne c1], fun j hj => by rw [q, wU_off (Or.inr hj)]⟩
  rw [q, wU_ne (by decide), h.2 i (by rw [List.length_take]; omega) h5, gd_take (by omega)]
/-! ===== again and again ===== -/
theorem vl_X4_repeat {I : wI} {W : List Nat} {b t : Nat} (hb : b ≤ W.length) (h1 : 1 ≤ t) (h9 : t ≤ 9) (hl : W.length < 500000) (x1 x2 : Int32) (Q : wI → Prop) (hQ : ∀ I', lrel I' (W ++ repL (W.drop b) (t - 1)) → wfr I I' → Q I') :
    ∀ (m i : Nat) (I' : wI), i + m = b + (W.length - b) * t → W.length ≤ i → lrel I' ((W ++ repL (W.drop b) (t - 1)).take i) → wfr I I' → v_X4_repeat_20 24 x1 x2 Q (m + 1) (nI (W.length - b)) (nI (b + (W.length - b) * t)) (nI i) I'
  | m, i, I', e, hi, h, hf => by
    have hdl : (W.drop b).length = W.length - b := List.length_drop
    have hmul : (W.length - b) * t ≤ (W.length - b) * 9 := Nat.mul_le_mul_left _ h9
    have hlen : (W ++ repL (W.drop b) (t - 1)).length = b + (W.length - b) * t := by
      rw [List.length_append, repL_len, hdl]
      obtain ⟨u, rfl⟩ : ∃ u, t = u + 1 := ⟨t - 1, by omega⟩
      rw [Nat.add_sub_cancel, Nat.mul_succ]; omega
    have hi2 : i ≤ b + (W.length - b) * t := by omega
    have fin : (i = b + (W.length - b) * t ∨ 500 ≤ i) → v_X4_repeat_53 24 x1 x2 Q (nI (b + (W.length - b) * t)) I' := by
      intro hc I1 q1
      rw [← hlen] at q1 hc hi2
      obtain ⟨g1, g2⟩ := lrel_fin h hi2 hc q1
      exact hQ _ g1 (wfr_trans hf g2)
    show g_X4_repeat_20 ..
    unfold g_X4_repeat_20
    rw [i_le (by omega) (by omega), l_500, i_le (by decide) (by omega)]
    refine ⟨fun c => fin (Or.inl (by omega)), fun c => ⟨fun c5 => fin (Or.inr c5), fun c5 => ?_⟩⟩
    rw [i_sub (by omega)]
    have hp : 0 < W.length - b := by
      apply Decidable.byContradiction; intro q
      rw [show W.length - b = 0 by omega, Nat.zero_mul] at c; omega
    refine ⟨⟨i - (W.length - b), by omega, rfl⟩, fun r1 q1 => ?_⟩
    unfold post_X4_moveAt at q1
    rw [i_nt (by omega), show (24 + 2 : Nat) = 26 from rfl] at q1
    have htl : ((W ++ repL (W.drop b) (t - 1)).take i).length = i := by rw [List.length_take, hlen]; omega
    have hr : r1 = nI ((W ++ repL (W.drop b) (t - 1)).getD i 0) := by
      rw [q1, h.2 _ (by rw [htl]; omega) (by omega), gd_take (by omega)]
      -- it is the same one, a part before
      have hW : W ++ repL (W.drop b) (t - 1) = W.take b ++ repL (W.drop b) t := by
        obtain ⟨u, rfl⟩ : ∃ u, t = u + 1 := ⟨t - 1, by omega⟩
        rw [Nat.add_sub_cancel]
        show _ = W.take b ++ (W.drop b ++ repL (W.drop b) u)
        rw [← List.append_assoc, List.take_append_drop]
      have hbl : (W.take b).length = b := by rw [List.length_take]; omega
      rw [hW, gd_right (by omega), gd_right (by omega), hbl, repL_gd _ (by omega) _ _ (by rw [hdl]; omega), repL_gd _ (by omega) _ _ (by rw [hdl]; omega), hdl, show i - b = (i - (W.length - b) - b) + (W.length - b) by omega, Nat.add_mod_right]
    refine ⟨⟨i, by omega, by rw [h.1, htl]⟩, fun I2 q2 => ?_⟩
    rw [hr] at q2
    obtain ⟨g1, g2⟩ := lrel_add h (by rw [htl]; omega) q2
    rw [take_s (by rw [hlen]; omega)] at g1
    obtain ⟨m, rfl⟩ : ∃ k, m = k + 1 := ⟨m - 1, by omega⟩
    rw [i_s]
    exact vl_X4_repeat hb h1 h9 hl x1 x2 Q hQ m (i + 1) I2 (by omega) (by omega) g1 (wfr_trans hf g2)
theorem lrel_inj {I : wI} {W V : List Nat} (h : lrel I W) (h2 : lrel I V) (hl : W.length < 500000) (hl2 : V.length < 500000) : W.length = V.length := nI_inj (by omega) (by omega) (h.1.symm.trans h2.1)
/-- two words that are shown alike -/
theorem lrel_agree {I : wI} {W V : List Nat} (h : lrel I W) (h2 : lrel I V) (hl : W.length < 500000) (hl2 : V.length < 500000) (hw : ∀ v, v ∈ W → v < 10) (hv : ∀ v, v ∈ V → v < 10) : W.length = V.length ∧ ∀ i, i < W.length → i < 500 → W.getD i 0 = V.getD i 0 := by
  have e := lrel_inj h h2 hl hl2
  refine ⟨e, fun i hi h5 => ?_⟩
  have a := h.2 i hi h5
  have b := h2.2 i (by omega) h5
  have a1 := hw _ (gd_mem hi)
  have b1 := hv _ (gd_mem (show i < V.length by omega))
  exact nI_inj (by omega) (by omega) (a.symm.trans b)
theorem lrel_as {I : wI} {W V : List Nat} (h : lrel I V) (e : W.length = V.length) (h2 : ∀ i, i < W.length → i < 500 → W.getD i 0 = V.getD i 0) : lrel I W :=
  ⟨by rw [e]; exact h.1, fun i hi h5 => by rw [h2 i hi h5]; exact h.2 i (by omega) h5⟩
theorem rep_gd {W : List Nat} {b t i : Nat} (hb : b ≤ W.length) (h1 : 1 ≤ t) (hi : i < b + (W.length - b) * t) : (W ++ repL (W.drop b) (t - 1)).getD i 0 = W.getD (if i < b then i else b + (i - b) % (W.length - b)) 0 := by
  have hdl : (W.drop b).length = W.length - b := List.length_drop
  have hbl : (W.take b).length = b := by rw [List.length_take]; omega
  have hW : W ++ repL (W.drop b) (t - 1) = W.take b ++ repL (W.drop b) t := by
    obtain ⟨u, rfl⟩ : ∃ u, t = u + 1 := ⟨t - 1, by omega⟩
    rw [Nat.add_sub_cancel]
    show _ = W.take b ++ (W.drop b ++ repL (W.drop b) u)
    rw [← List.append_assoc, List.take_append_drop]
  rw [hW]
  by_cases c : i < b
  · rw [if_pos c, gd_left (by omega), gd_take c]
  · have hp : 0 < W.length - b := by
      apply Decidable.byContradiction; intro q
      rw [show W.length - b = 0 by omega, Nat.zero_mul] at hi; omega
    rw [if_neg c, gd_right (by omega), hbl, repL_gd _ (by omega) _ _ (by rw [hdl]; omega), hdl, gd_drop]
theorem rep_len {W : List Nat} {b t : Nat} (hb : b ≤ W.length) (h1 : 1 ≤ t) : (W ++ repL (W.drop b) (t - 1)).length = b + (W.length - b) * t := by
  rw [List.length_append, repL_len, List.length_drop]
  obtain ⟨u, rfl⟩ : ∃ u, t = u + 1 := ⟨t - 1, by omega⟩
  rw [Nat.add_sub_cancel, Nat.mul_succ]; omega
theorem vc_X4_repeat (k : Nat) (x1 x2 : Int32) (I : wI) (hp : pre_X4_repeat k x1 x2 I) : v_X4_repeat k x1 x2 I (post_X4_repeat k x1 x2 I) := by
  obtain ⟨rfl, W0, b, t, h0, rfl, hb0, rfl, h1, h9, hl0, hv0⟩ := hp
  have hmul : (W0.length - b) * t ≤ (W0.length - b) * 9 := Nat.mul_le_mul_left _ h9
  refine ⟨(b + (W0.length - b) * t) - W0.length + 1, ?_⟩
  rw [h0.1, i_sub hb0, i_mul, i_add]
  have hge : W0.length ≤ b + (W0.length - b) * t := by
    have : (W0.length - b) * 1 ≤ (W0.length - b) * t := Nat.mul_le_mul_left _ h1
    omega
  refine vl_X4_repeat hb0 h1 h9 hl0 _ _ _ (fun I' g1 g2 W h hl hv => ⟨?_, g2⟩) _ W0.length I (by omega) (Nat.le_refl _) (by rw [List.take_left]; exact h0) (wfr_refl I)
  rw [i_nt (by omega), i_nt (by omega)]
  obtain ⟨e, ha⟩ := lrel_agree h h0 hl hl0 hv hv0
  refine lrel_as g1 ?_ (fun i hi h5 => ?_)
  · rw [rep_len hb0 h1, rep_len (by omega) h1, e]
  · rw [rep_len (by omega) h1] at hi
    rw [rep_gd (by omega) h1 hi, rep_gd hb0 h1 (by rw [← e]; exact hi), e]
    rw [e] at hi
    by_cases c : i < b
    · rw [if_pos c]; exact ha i (by omega) h5
    · have hp : 0 < W0.length - b := by
        apply Decidable.byContradiction; intro q
        rw [show W0.length - b = 0 by omega, Nat.zero_mul] at hi; omega
      have hm := Nat.mod_lt (i - b) hp
      have hm2 := Nat.mod_le (i - b) (W0.length - b)
      rw [if_neg c]
      exact ha _ (by omega) (by omega)
/-! ===== opposites ===== -/
theorem opp_len (l : List Nat) : (opp l).length = l.length := by unfold opp; rw [List.length_reverse, List.length_map]
theorem opp_gd {l : List Nat} {j : Nat} (h : j < l.length) : (opp l).getD j 0 = oppV (l.getD (l.length - 1 - j) 0) := by
  unfold opp
  rw [List.getD_eq_getElem?_getD, List.getElem?_reverse (by rw [List.length_map]; exact h), List.length_map, List.getElem?_map, List.getElem?_eq_getElem (show l.length - 1 - j < l.length by omega), List.getD_eq_getElem?_getD, List.getElem?_eq_getElem (show l.length - 1 - j < l.length by omega)]
  rfl
/-- both opposites behind a word, by place -/
def oppT (W : List Nat) (b e : Nat) : List Nat := W ++ opp ((W.take e).drop b) ++ opp (W.drop e)
theorem oppT_len {W : List Nat} {b e : Nat} (hb : b ≤ e) (he : e ≤ W.length) : (oppT W b e).length = W.length + W.length - b := by
  unfold oppT
  rw [List.length_append, List.length_append, opp_len, opp_len, List.length_drop, List.length_drop, List.length_take]; omega
theorem oppT_0 {W : List Nat} {b e i : Nat} (hi : i < W.length) : (oppT W b e).getD i 0 = W.getD i 0 := by
  unfold oppT
  rw [gd_left (by rw [List.length_append]; omega), gd_left hi]
theorem oppT_1 {W : List Nat} {b e i : Nat} (he : e ≤ W.length) (hi : i < e) (hb : b ≤ i) : (oppT W b e).getD (W.length + (e - (i + 1))) 0 = oppV (W.getD i 0) := by
  have hl : ((W.take e).drop b).length = e - b := by rw [List.length_drop, List.length_take]; omega
  unfold oppT
  rw [gd_left (by rw [List.length_append, opp_len, hl]; omega), gd_right (by omega), opp_gd (by rw [hl]; omega), hl, gd_drop, gd_take (by omega), show b + (e - b - 1 - (W.length + (e - (i + 1)) - W.length)) = i by omega]
theorem oppT_2 {W : List Nat} {b e i : Nat} (hb : b ≤ e) (he : e ≤ i) (hi : i < W.length) : (oppT W b e).getD (W.length + (e - b) + (W.length - (i + 1))) 0 = oppV (W.getD i 0) := by
  have hl : ((W.take e).drop b).length = e - b := by rw [List.length_drop, List.length_take]; omega
  unfold oppT
  rw [gd_right (by rw [List.length_append, opp_len, hl]; omega), List.length_append, opp_len, hl, opp_gd (by rw [List.length_drop]; omega), List.length_drop, gd_drop, show e + (W.length - e - 1 - (W.length + (e - b) + (W.length - (i + 1)) - (W.length + (e - b)))) = i by omega]
theorem down_lt {i b : Nat} (hi : i < 1000000) (hb : b < 1000000) : (nI i - 1 < nI b) = (i ≤ b) := by
  cases i with
  | zero =>
    refine propext ⟨fun _ => Nat.zero_le _, fun _ => ?_⟩
    refine Int32.lt_of_lt_of_le (b := 0) (by decide) ?_
    exact Int32.not_lt.1 (nI_lt0 (by omega))
  | succ i => rw [l_1, i_sub (by omega), Nat.add_sub_cancel, i_lt (by omega) (by omega)]; rfl
theorem down_s (i : Nat) : nI (i + 1) - 1 + (-1 : Int32) = nI i - 1 := by
  rw [l_1, i_sub (by omega), Nat.add_sub_cancel, Int32.sub_eq_add_neg]
theorem down_p (i : Nat) : nI (i + 1) - 1 = nI i := by rw [l_1, i_sub (by omega), Nat.add_sub_cancel]
