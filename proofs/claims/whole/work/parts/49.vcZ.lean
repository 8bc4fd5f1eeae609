theorem opp_fin {I I' : wI} {W : List Nat} {b e n : Nat} {x1 x2 x3 : Int32} {Q : wI → Prop} (hb : b ≤ e) (he : e ≤ W.length) (hQ : ∀ I', lrel I' (oppT W b e) → wfr I I' → Q I') (hn : n ≤ W.length + W.length - b) (hc : n = W.length + W.length - b ∨ 500 ≤ n) (h : lrel I' ((oppT W b e).take n)) (hf : wfr I I') : v_X4_addOpposite_87 24 x1 x2 x3 Q (nI (W.length + W.length - b)) I' := by
  intro I1 q1
  rw [← oppT_len hb he] at q1 hn hc
  obtain ⟨g1, g2⟩ := lrel_fin h hn hc q1
  exact hQ _ g1 (wfr_trans hf g2)
theorem opp_step {I I' : wI} {W : List Nat} {b e n j : Nat} (hl : W.length < 500000) (hv : ∀ v, v ∈ W → v < 10) (hn : n < (oppT W b e).length) (hn5 : n < 500) (hL : W.length ≤ n) (hj : j < W.length) (hg : (oppT W b e).getD n 0 = oppV (W.getD j 0)) (h : lrel I' ((oppT W b e).take n)) (hf : wfr I I') {P : wI → Prop} (k : ∀ I2, lrel I2 ((oppT W b e).take (n + 1)) → wfr I I2 → P I2) :
    (pre_X4_moveAt 24 (nI j) I') ∧ (∀ r1 : Int32, (post_X4_moveAt 24 (nI j) I' r1) → ((pre_X5_opposite r1 I') ∧ (∀ r2 : Int32, (post_X5_opposite r1 I' r2) → ((pre_X4_addMove 24 r2 I') ∧ (∀ I3 : wI, (post_X4_addMove 24 r2 I' I3) → P I3))))) := by
  have htl : ((oppT W b e).take n).length = n := by rw [List.length_take]; omega
  refine ⟨⟨j, by omega, rfl⟩, fun r1 q1 => ?_⟩
  unfold post_X4_moveAt at q1
  rw [i_nt (by omega), show (24 + 2 : Nat) = 26 from rfl, h.2 j (by rw [htl]; omega) (by omega), gd_take (by omega), oppT_0 hj] at q1
  have hm := hv _ (gd_mem hj)
  refine ⟨⟨_, hm, q1⟩, fun r2 q2 => ⟨⟨n, by omega, by rw [h.1, htl]⟩, fun I3 q3 => ?_⟩⟩
  unfold post_X5_opposite at q2
  rw [q1, i_nt (by omega)] at q2
  rw [q2] at q3
  obtain ⟨g1, g2⟩ := lrel_add h (by rw [htl]; omega) q3
  rw [show (W.getD j 0 + 5) % 10 = (oppT W b e).getD n 0 from hg.symm, take_s hn] at g1
  exact k I3 g1 (wfr_trans hf g2)
theorem vl_X4_opp_52 {I : wI} {W : List Nat} {b e : Nat} {x1 x3 : Int32} {Q : wI → Prop} (hb : b ≤ e) (he : e ≤ W.length) (hl : W.length < 500000) (hv : ∀ v, v ∈ W → v < 10) (hQ : ∀ I', lrel I' (oppT W b e) → wfr I I' → Q I') :
    ∀ (m i : Nat) (I' : wI), i = e + m → i ≤ W.length → lrel I' ((oppT W b e).take (W.length + (e - b) + (W.length - i))) → wfr I I' → v_X4_addOpposite_52 24 x1 (nI e) x3 Q (m + 1) (nI (W.length + W.length - b)) (nI i - 1) I'
  | m, i, I', em, hi, h, hf => by
    have hT := oppT_len hb he
    have htl : ((oppT W b e).take (W.length + (e - b) + (W.length - i))).length = W.length + (e - b) + (W.length - i) := by rw [List.length_take]; omega
    show g_X4_addOpposite_52 ..
    unfold g_X4_addOpposite_52
    rw [down_lt (by omega) (by omega), h.1, htl, l_500, i_le (by decide) (by omega)]
    refine ⟨fun c => opp_fin hb he hQ (by omega) (Or.inl (by omega)) h hf, fun c => ⟨fun c5 => opp_fin hb he hQ (by omega) (Or.inr c5) h hf, fun c5 => ?_⟩⟩
    obtain ⟨j, rfl⟩ : ∃ j, i = j + 1 := ⟨i - 1, by omega⟩
    obtain ⟨m, rfl⟩ : ∃ k, m = k + 1 := ⟨m - 1, by omega⟩
    rw [down_p]
    refine opp_step hl hv (by omega) (by omega) (by omega) (show j < W.length by omega) (oppT_2 hb (by omega) (by omega)) h hf (fun I2 g1 g2 => ?_)
    rw [show nI j + (-1 : Int32) = nI j - 1 from (Int32.sub_eq_add_neg ..).symm]
    refine vl_X4_opp_52 hb he hl hv hQ m j I2 (by omega) (by omega) ?_ g2
    rw [show W.length + (e - b) + (W.length - j) = W.length + (e - b) + (W.length - (j + 1)) + 1 by omega]
    exact g1
theorem vl_X4_opp_47 {I I' : wI} {W : List Nat} {b e n : Nat} {x1 : Int32} {Q : wI → Prop} (hb : b ≤ e) (he : e ≤ W.length) (hl : W.length < 500000) (hv : ∀ v, v ∈ W → v < 10) (hQ : ∀ I', lrel I' (oppT W b e) → wfr I I' → Q I')
    (hn : n ≤ W.length + (e - b)) (hc : n = W.length + (e - b) ∨ 500 ≤ n) (h : lrel I' ((oppT W b e).take n)) (hf : wfr I I') : v_X4_addOpposite_47 24 x1 (nI e) (nI W.length) Q (nI (W.length + W.length - b)) I' := by
  have hT := oppT_len hb he
  by_cases c5 : 500 ≤ n
  · have htl : ((oppT W b e).take n).length = n := by rw [List.length_take]; omega
    refine ⟨1, ?_⟩
    show g_X4_addOpposite_52 ..
    unfold g_X4_addOpposite_52
    rw [h.1, htl, l_500, i_le (by decide) (by omega)]
    exact ⟨fun _ => opp_fin hb he hQ (by omega) (Or.inr c5) h hf, fun _ => ⟨fun _ => opp_fin hb he hQ (by omega) (Or.inr c5) h hf, fun q => absurd c5 q⟩⟩
  · refine ⟨W.length - e + 1, vl_X4_opp_52 hb he hl hv hQ (W.length - e) W.length I' (by omega) (Nat.le_refl _) ?_ hf⟩
    rw [Nat.sub_self, Nat.add_zero, show W.length + (e - b) = n by omega]
    exact h
theorem vl_X4_opp_12 {I : wI} {W : List Nat} {b e : Nat} {Q : wI → Prop} (hb : b ≤ e) (he : e ≤ W.length) (hl : W.length < 500000) (hv : ∀ v, v ∈ W → v < 10) (hQ : ∀ I', lrel I' (oppT W b e) → wfr I I' → Q I') :
    ∀ (m i : Nat) (I' : wI), i = b + m → i ≤ e → lrel I' ((oppT W b e).take (W.length + (e - i))) → wfr I I' → v_X4_addOpposite_12 24 (nI b) (nI e) (nI W.length) Q (m + 1) (nI (W.length + W.length - b)) (nI i - 1) I'
  | m, i, I', em, hi, h, hf => by
    have hT := oppT_len hb he
    have htl : ((oppT W b e).take (W.length + (e - i))).length = W.length + (e - i) := by rw [List.length_take]; omega
    show g_X4_addOpposite_12 ..
    unfold g_X4_addOpposite_12
    rw [down_lt (by omega) (by omega), h.1, htl, l_500, i_le (by decide) (by omega)]
    refine ⟨fun c => vl_X4_opp_47 hb he hl hv hQ (by omega) (Or.inl (by omega)) h hf, fun c => ⟨fun c5 => vl_X4_opp_47 hb he hl hv hQ (by omega) (Or.inr c5) h hf, fun c5 => ?_⟩⟩
    obtain ⟨j, rfl⟩ : ∃ j, i = j + 1 := ⟨i - 1, by omega⟩
    obtain ⟨m, rfl⟩ : ∃ k, m = k + 1 := ⟨m - 1, by omega⟩
    rw [down_p]
    refine opp_step hl hv (by omega) (by omega) (by omega) (show j < W.length by omega) (oppT_1 he (by omega) (by omega)) h hf (fun I2 g1 g2 => ?_)
    rw [show nI j + (-1 : Int32) = nI j - 1 from (Int32.sub_eq_add_neg ..).symm]
    refine vl_X4_opp_12 hb he hl hv hQ m j I2 (by omega) (by omega) ?_ g2
    rw [show W.length + (e - j) = W.length + (e - (j + 1)) + 1 by omega]
    exact g1
theorem opp_agree {W V : List Nat} {b e : Nat} (hb : b ≤ e) (he : e ≤ W.length) (el : W.length = V.length) (ha : ∀ i, i < W.length → i < 500 → W.getD i 0 = V.getD i 0) (i : Nat) (hi : i < (oppT W b e).length) (h5 : i < 500) : (oppT W b e).getD i 0 = (oppT V b e).getD i 0 := by
  rw [oppT_len hb he] at hi
  by_cases c : i < W.length
  · rw [oppT_0 c, oppT_0 (by omega)]; exact ha i c h5
  · by_cases c2 : i < W.length + (e - b)
    · have := oppT_1 (W := W) (b := b) (e := e) (i := e - 1 - (i - W.length)) he (by omega) (by omega)
      rw [show W.length + (e - (e - 1 - (i - W.length) + 1)) = i by omega] at this
      have t2 := oppT_1 (W := V) (b := b) (e := e) (i := e - 1 - (i - W.length)) (by omega) (by omega) (by omega)
      rw [show V.length + (e - (e - 1 - (i - W.length) + 1)) = i by omega] at t2
      rw [this, t2, ha _ (by omega) (by omega)]
    · have := oppT_2 (W := W) (b := b) (e := e) (i := W.length - 1 - (i - W.length - (e - b))) hb (by omega) (by omega)
      rw [show W.length + (e - b) + (W.length - (W.length - 1 - (i - W.length - (e - b)) + 1)) = i by omega] at this
      have t2 := oppT_2 (W := V) (b := b) (e := e) (i := W.length - 1 - (i - W.length - (e - b))) hb (by omega) (by omega)
      rw [show V.length + (e - b) + (V.length - (W.length - 1 - (i - W.length - (e - b)) + 1)) = i by omega] at t2
      rw [this, t2, ha _ (by omega) (by omega)]
theorem vc_X4_addOpposite (k : Nat) (x1 x2 x3 : Int32) (I : wI) (hp : pre_X4_addOpposite k x1 x2 x3 I) : v_X4_addOpposite k x1 x2 x3 I (post_X4_addOpposite k x1 x2 x3 I) := by
  obtain ⟨rfl, W0, b, e, h0, rfl, rfl, rfl, hb, he, hl0, hv0⟩ := hp
  refine ⟨e - b + 1, ?_⟩
  rw [i_add, i_sub (by omega)]
  refine vl_X4_opp_12 hb he hl0 hv0 (fun I' g1 g2 W h hl hv => ⟨?_, g2⟩) (e - b) e I (by omega) (Nat.le_refl _) ?_ (wfr_refl I)
  · rw [Nat.sub_self, Nat.add_zero]
    have : (oppT W0 b e).take W0.length = W0 := by unfold oppT; rw [List.append_assoc, List.take_left]
    rw [this]; exact h0
  · rw [i_nt (by omega), i_nt (by omega)]
    obtain ⟨el, ha⟩ := lrel_agree h h0 hl hl0 hv hv0
    refine lrel_as (W := oppT W b e) g1 (by rw [oppT_len hb he, oppT_len hb (by omega), el]) (fun i hi h5 => opp_agree hb (by omega) el ha i hi h5)
/-! ===== signs ===== -/
theorem tRel_w {I I' : wI} {s : TS} {W : List Nat} (h : tRel I s) (hf : wfr I I') (hW : lrel I' W) : tRel I' (tO s, tK s, tB s, tE s, W, tH s, tF s) :=
  ⟨hW, by rw [hf.2 8 (by decide)]; exact h.2.1, by rw [hf.2 9 (by decide)]; exact h.2.2.1, by rw [hf.2 10 (by decide)]; exact h.2.2.2.1, fun i hi => by rw [hf.1 27 (by decide) (by decide), hf.1 28 (by decide) (by decide), hf.1 29 (by decide) (by decide)]; exact h.2.2.2.2 i hi⟩
theorem tfr_w {I I' : wI} (h : wfr I I') : tfr I I' := ⟨fun c hc => h.1 c (by omega) (by omega), h.2 1 (by decide)⟩
theorem tfr_trans {I I1 I2 : wI} (h : tfr I I1) (h2 : tfr I1 I2) : tfr I I2 := ⟨fun c hc => by rw [h2.1 c hc, h.1 c hc], by rw [h2.2, h.2]⟩
theorem tfr_refl (I : wI) : tfr I I := ⟨fun _ _ => rfl, rfl⟩
theorem vc_X4_takesMove (k : Nat) (x1 : Int32) (I : wI) (hp : pre_X4_takesMove k x1 I) : v_X4_takesMove k x1 I (post_X4_takesMove k x1 I) := by
  obtain ⟨rfl, ⟨v, hv, rfl⟩, s0, n0, hn0, hs0, ho0, hf0⟩ := hp
  have hl0 := tOk_len ho0 (show n0 ≤ 60 by omega)
  refine ⟨⟨_, by omega, hs0.1.1⟩, fun I1 q1 I2 q2 s n hn hs ho hF => ⟨rfl, ?_, ?_⟩⟩
  · rw [i_nt (by omega)]
    have hl := tOk_len ho (show n ≤ 60 by omega)
    obtain ⟨g1, g2⟩ := lrel_add hs.1 (by omega) q1
    have h1 := tRel_w hs g2 g1
    have ec : ∀ c, c ≠ 24 → I2 c = I1 c := fun c a => by rw [q2, wU_ne a]
    have ej : ∀ j, j ≠ 9 → I2 24 j = I1 24 j := fun j a => by rw [q2, wU_off (Or.inr a)]
    refine ⟨⟨by rw [ej 3 (by decide)]; exact h1.1.1, fun i a b => by rw [ec 26 (by decide)]; exact h1.1.2 i a b⟩, by rw [ej 8 (by decide)]; exact h1.2.1, by rw [q2, wU_at]; rfl, ?_, fun i hi => by rw [ec 27 (by decide), ec 28 (by decide), ec 29 (by decide)]; exact h1.2.2.2.2 i hi⟩
    have := h1.2.2.2.1
    rw [ej 10 (by decide), this]
    show (if tF s = true then (1 : Int32) else 0) = if false = true then 1 else 0
    rw [hF]
  · have hl := tOk_len ho (show n ≤ 60 by omega)
    obtain ⟨g1, g2⟩ := lrel_add hs.1 (by omega) q1
    exact tfr_trans (tfr_w g2) ⟨fun c hc => by rw [q2, wU_ne (by omega)], by rw [q2, wU_off (Or.inr (by decide))]⟩
theorem b1_0 (p : Bool) : (((if p then 1 else 0 : Int32) = 0) = (p = false)) := by cases p <;> decide
theorem vc_X4_takesOpening (k : Nat) (x1 : Int32) (I : wI) (hp : pre_X4_takesOpening k x1 I) : v_X4_takesOpening k x1 I (post_X4_takesOpening k x1 I) := by
  obtain ⟨rfl, ⟨q, hq, rfl⟩, s0, n0, hn0, hs0, ho0, hf0⟩ := hp
  have hl0 := tOk_len ho0 (show n0 ≤ 60 by omega)
  have e8 := hs0.2.1
  have h4 := ho0.1
  have hO : ∀ s n, tRel I s → tOk s n → tO s = tO s0 := fun s n h h' => nI_inj (by have := h'.1; omega) (by omega) (h.2.1.symm.trans e8)
  unfold v_X4_takesOpening v_X4_takesOpening_15
  rw [e8, i_cl (by omega), l_4, i_lt (by omega) (by decide)]
  refine ⟨not_lt0 (by omega), fun _ => ⟨fun c => ⟨i_in c (by decide), fun I1 q1 => ?_⟩, fun c s n hn hs ho hF => ?_⟩⟩
  · have a8 : I1 24 8 = nI (tO s0) := by rw [q1, wU_ne (by decide), e8]
    rw [a8, i_cl (by omega)]
    refine ⟨i_in c (by decide), fun I2 q2 => ?_⟩
    have b8 : I2 24 8 = nI (tO s0) := by rw [q2, wU_ne (by decide), a8]
    rw [b8, i_cl (by omega)]
    refine ⟨i_in c (by decide), fun I3 q3 I4 q4 I5 q5 s n hn hs ho hF => ?_⟩
    have eo := hO s n hs ho
    have hl := tOk_len ho (show n ≤ 60 by omega)
    have c8 : I3 24 8 = nI (tO s0) := by rw [q3, wU_ne (by decide), b8]
    rw [c8, i_s] at q4
    have a3 : I1 24 3 = nI (tW s).length := by rw [q1, wU_ne (by decide)]; exact hs.1.1
    have b3 : I2 24 3 = nI (tW s).length := by rw [q2, wU_ne (by decide), a3]
    rw [a3] at q2
    rw [b3] at q3
    rw [i_nt (by omega), if_pos (show tO s < 4 by omega)]
    refine ⟨rfl, ?_, ⟨fun c hc => by rw [q5, wU_ne (by omega), q4, wU_ne (by omega), q3, wU_ne (by omega), q2, wU_ne (by omega), q1, wU_ne (by omega)], by rw [q5, wU_off (Or.inr (by decide)), q4, wU_off (Or.inr (by decide)), q3, wU_ne (by decide), q2, wU_ne (by decide), q1, wU_ne (by decide)]⟩⟩
    have f24 : ∀ j, j ≠ 8 → j ≠ 9 → I5 24 j = I 24 j := fun j x y => by rw [q5, wU_off (Or.inr y), q4, wU_off (Or.inr x), q3, wU_ne (by decide), q2, wU_ne (by decide), q1, wU_ne (by decide)]
    refine ⟨⟨by rw [f24 3 (by decide) (by decide)]; exact hs.1.1, fun i x y => by rw [q5, wU_ne (by decide), q4, wU_ne (by decide), q3, wU_ne (by decide), q2, wU_ne (by decide), q1, wU_ne (by decide)]; exact hs.1.2 i x y⟩, ?_, by rw [q5, wU_at]; rfl, ?_, fun i hi => ?_⟩
    · rw [q5, wU_off (Or.inr (by decide)), q4, wU_at, ← eo]; rfl
    · rw [f24 10 (by decide) (by decide), hs.2.2.2.1, hF]; rfl
    · have hi : i < tO s + 1 := hi
      have e27 : I5 27 = upd (I 27) (tO s0) (nI q) := by rw [q5, wU_ne (by decide), q4, wU_ne (by decide), q3, wU_ne (by decide), q2, wU_ne (by decide), q1, wU_same]
      have e28 : I5 28 = upd (I 28) (tO s0) (nI (tW s).length) := by rw [q5, wU_ne (by decide), q4, wU_ne (by decide), q3, wU_ne (by decide), q2, wU_same, q1, wU_ne (by decide)]
      have e29 : I5 29 = upd (I 29) (tO s0) (nI (tW s).length) := by rw [q5, wU_ne (by decide), q4, wU_ne (by decide), q3, wU_same, q2, wU_ne (by decide), q1, wU_ne (by decide)]
      rw [e27, e28, e29, ← eo]
      show upd (I 27) (tO s) (nI q) i = nI (fu (tK s) (tO s) q i) ∧ upd (I 28) (tO s) _ i = nI (fu (tB s) (tO s) _ i) ∧ upd (I 29) (tO s) _ i = nI (fu (tE s) (tO s) _ i)
      unfold fu upd
      by_cases c : i = tO s
      · simp only [c, if_true, and_self]
      · have := hs.2.2.2.2 i (by omega)
        simp only [if_neg c]
        exact this
  · rw [hO s n hs ho, if_neg c]
    exact ⟨rfl, hs, tfr_refl I⟩
