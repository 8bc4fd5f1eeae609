/-! ===== the model's calls ===== -/
theorem le0_n {k : Nat} (h : 0 < k) (hk : k < 2147483648) : ¬ nI k ≤ 0 := by rw [l_0, i_le hk (by decide)]; omega
theorem fr1_c {I I' : wI} (h : fr1 I I') : ∀ c, c < 111 ∨ 123 < c → I' c = I c := fun c hc => h.1 c (by omega) (by omega)
theorem fr1_o {I I' : wI} (h : fr1 I I') : I' 111 = I 111 := h.1 111 (by decide) (by decide)
theorem rec_0 {I I1 I2 : wI} {k : Int32} (h1 : I1 = wU I 111 0 k) (h2 : post_X6_record I1 I2) : I2 111 0 = k := by rw [h2.2.2.2 0 (by decide), h1, wU_at]
theorem thr_fin {I I1 : wI} {k : Int32} (h1 : I1 = wU I 111 0 k) : mThrow I I1 k := by subst h1; exact ⟨wU_at, thr_S I k⟩
theorem vc_X6_turnNow (x1 x2 : Int32) (I : wI) (hp : pre_X6_turnNow x1 x2 I) : v_X6_turnNow x1 x2 I (post_X6_turnNow x1 x2 I) := by
  obtain ⟨h0, hb⟩ := hp
  refine ⟨trivial, fun r1 h1 => ?_⟩
  have thr : ∀ (k : Nat), 0 < k → k < 3 → post_X6_turnNow x1 x2 I 0 (wU I 111 0 (nI k)) → v_X6_turnNow_25 x1 x2 (post_X6_turnNow x1 x2 I) (nI k) I := by
    intro k hk hk3 hp I1 q1
    have e0 : I1 111 0 = nI k := by rw [q1, wU_at]
    rw [e0]
    exact ⟨fun h => absurd h (le0_n hk (by omega)), fun _ => by rw [q1]; exact hp⟩
  rcases h1 with ⟨hk, rfl⟩ | ⟨hk, rfl⟩
  · refine ⟨fun _ => ⟨⟨h0.1, hk⟩, fun r2 h2 => ?_⟩, fun h => absurd h (by decide)⟩
    unfold post_X6_isStuck at h2
    cases hs : aStk (rowM I) (nt x1)
    · rw [hs] at h2
      refine ⟨fun _ I1 q1 => ?_, fun h => absurd h2 h⟩
      have e0 : I1 111 0 = 0 := by rw [q1, wU_at]
      rw [e0]
      refine ⟨fun _ => ?_, fun h => absurd (Int32.le_refl _) h⟩
      have hS1 : frS I I1 := by rw [q1]; exact thr_S I 0
      refine ⟨okM_S hS1 h0, fun I2 g2 => ?_⟩
      have eR : rowM I2 = rowM I := by rw [rec_row g2, frS_row hS1]
      have hv : isN 10 x2 := by
        obtain ⟨c, hc, rfl⟩ := hk
        rcases hb with e | e
        · exact ⟨c, by omega, e⟩
        · exact ⟨5 + c, by omega, by rw [e, l_5, i_add]⟩
      refine ⟨⟨by rw [eR]; exact h0.1, hv⟩, fun I3 g3 => ?_⟩
      obtain ⟨v, hv10, ev⟩ := hv
      subst ev
      obtain ⟨m1, m2⟩ := g3
      rw [i_nt (by omega), eR] at m1
      have hR3 : okR (rowM I3) := by rw [m1]; exact okR_aMv h0.1 hv10
      refine ⟨hR3, fun r4 h4 => ?_⟩
      unfold post_X6_right at h4
      left
      rw [i_nt (by omega)]
      exact ⟨⟨hk, hs⟩, by rw [fr1_o m2, rec_0 q1 g2], by rw [h4, m1], m_use hS1 g2 (fr1_R m2) (fr1_c m2) hR3 m1⟩
    · rw [hs] at h2
      exact ⟨fun h => by rw [h2] at h; exact absurd h (by decide), fun _ => thr 2 (by decide) (by decide) (Or.inr (Or.inr ⟨hk, fun q => by have := q.2; rw [hs] at this; exact absurd this (by decide), thr_fin rfl⟩))⟩
  · exact ⟨fun h => absurd rfl h, fun _ => thr 1 (by decide) (by decide) (Or.inr (Or.inl ⟨hk, thr_fin rfl⟩))⟩
theorem vc_X6_turn (x1 : Int32) (I : wI) (hp : pre_X6_turn x1 I) : v_X6_turn x1 I (post_X6_turn x1 I) := ⟨⟨hp, Or.inl rfl⟩, fun _ _ h => h⟩
theorem vc_X6_back (x1 : Int32) (I : wI) (hp : pre_X6_back x1 I) : v_X6_back x1 I (post_X6_back x1 I) := by
  refine ⟨⟨hp, Or.inr rfl⟩, fun r1 I2 h => ?_⟩
  rcases h with ⟨h1, h2, h3, h4⟩ | h | h
  · left
    obtain ⟨⟨c, hc, rfl⟩, hk⟩ := h1
    rw [l_5, i_add, i_nt (by omega)] at h3 h4
    rw [i_nt (show c < 2147483648 by omega)]
    exact ⟨⟨⟨c, hc, rfl⟩, hk⟩, h2, h3, h4⟩
  · exact Or.inr (Or.inl h)
  · exact Or.inr (Or.inr h)
theorem vc_X6_home (I : wI) (hp : pre_X6_home I) : v_X6_home I (post_X6_home I) := by
  have h0 : okM I := hp
  intro I1 q1
  have hS1 : frS I I1 := by rw [q1]; exact thr_S I 0
  refine ⟨okM_S hS1 h0, fun I2 g2 => ?_⟩
  have eR : rowM I2 = rowM I := by rw [rec_row g2, frS_row hS1]
  refine ⟨by rw [pre_X6_away, eR]; exact h0.1, fun r3 h3 => ⟨trivial, fun I4 h4 => ⟨by unfold vp_in; decide, fun I5 q5 => ?_⟩⟩⟩
  unfold post_X6_away at h3
  rw [eR] at h3
  obtain ⟨m1, m2⟩ := h4
  rw [eR] at m1
  rw [show (34 : Int32).toNatClampNeg = 34 from rfl] at q5
  have e5 : rowM I5 = aHome (rowM I) := by
    refine mrow_ext (fun j hj => ?_) (fun j hj => by rw [aHome_o (by omega) (by omega), mrow_o hj])
    by_cases c : j = 34
    · subst c; rw [q5, wU_at, aHome_34]
    · rw [q5, wU_off (Or.inr c), mrev I4 _ hj, m1]
      unfold aFst aHome
      split
      · rfl
      · split
        · rfl
        · first | rfl | rw [if_neg c]
  have hR5 : okR (rowM I5) := by rw [e5]; exact okR_home h0.1
  have hF : fr1 I2 I5 := ⟨fun c c1 c2 => by rw [q5, wU_ne c1, m2.1 c c1 c2], fun j hj => by rw [q5, wU_off (Or.inr (by omega)), m2.2 j hj]⟩
  exact ⟨by rw [fr1_o hF, rec_0 q1 g2], h3, m_use hS1 g2 (fr1_R hF) (fr1_c hF) hR5 e5⟩
theorem vc_X6_cut (x1 x2 x3 : Int32) (I : wI) (hp : pre_X6_cut x1 x2 x3 I) : v_X6_cut x1 x2 x3 I (post_X6_cut x1 x2 x3 I) := by
  have h0 : okM I := hp
  have thr : ∀ (k : Nat), 0 < k → k < 3 → post_X6_cut x1 x2 x3 I 0 (wU I 111 0 (nI k)) → v_X6_cut_56 x1 x2 x3 (post_X6_cut x1 x2 x3 I) (nI k) I := by
    intro k hk hk3 hp I1 q1
    have e0 : I1 111 0 = nI k := by rw [q1, wU_at]
    rw [e0]
    exact ⟨fun h => absurd h (le0_n hk (by omega)), fun _ => by rw [q1]; exact hp⟩
  have t1 : ¬ isN 5 x1 → v_X6_cut_56 x1 x2 x3 (post_X6_cut x1 x2 x3 I) (nI 1) I := fun hk => thr 1 (by decide) (by decide) (Or.inr (Or.inl ⟨hk, thr_fin rfl⟩))
  have bad : ¬ okCut x2 x3 → v_X6_cut_32 x1 x2 x3 (post_X6_cut x1 x2 x3 I) 0 I := by
    intro hn
    refine ⟨trivial, fun r1 h1 => ?_⟩
    rcases h1 with ⟨hk, rfl⟩ | ⟨hk, rfl⟩
    · exact ⟨fun _ => ⟨fun _ => thr 2 (by decide) (by decide) (Or.inr (Or.inr ⟨hk, hn, thr_fin rfl⟩)), fun h => absurd rfl h⟩, fun h => absurd h (by decide)⟩
    · exact ⟨fun h => absurd rfl h, fun _ => t1 hk⟩
  refine ⟨trivial, fun r1 h1 => ?_⟩
  have e63 := in_iff (n := 63) (x := x2) (by decide)
  rcases h1 with ⟨hm, rfl⟩ | ⟨hm, rfl⟩
  · have hm64 := e63.1 hm
    refine ⟨fun h => absurd h (by decide), fun _ => ⟨hm64, fun r2 h2 => ?_⟩⟩
    obtain ⟨M, hM, rfl⟩ := hm64
    unfold post_X6_ones at h2
    rw [i_nt (by omega)] at h2
    have h6 := pc6_le M
    rw [h2, l_1, i_le (by omega) (by decide)]
    refine ⟨fun h => bad (fun q => ?_), fun h => ⟨trivial, fun r3 h3 => ?_⟩⟩
    · obtain ⟨⟨M', hM', e, h'⟩, _⟩ := q
      rw [← nI_inj (by omega) (by omega) e] at h'
      omega
    have e4 := in_iff (n := 4) (x := x3) (by decide)
    rcases h3 with ⟨hs, rfl⟩ | ⟨hs, rfl⟩
    · have hs5 := e4.1 hs
      have hcut : okCut (nI M) x3 := ⟨⟨M, hM, rfl, by omega⟩, hs5⟩
      refine ⟨fun h => absurd h (by decide), fun _ => ⟨trivial, fun r4 h4 => ?_⟩⟩
      rcases h4 with ⟨hk, rfl⟩ | ⟨hk, rfl⟩
      · refine ⟨fun _ => ⟨fun h => absurd h (by decide), fun _ I1 q1 => ?_⟩, fun h => absurd h (by decide)⟩
        have e0 : I1 111 0 = 0 := by rw [q1, wU_at]
        rw [e0]
        refine ⟨fun _ => ?_, fun h => absurd (Int32.le_refl _) h⟩
        have hS1 : frS I I1 := by rw [q1]; exact thr_S I 0
        refine ⟨okM_S hS1 h0, fun I2 g2 => ?_⟩
        have eR : rowM I2 = rowM I := by rw [rec_row g2, frS_row hS1]
        have hk' := hk
        obtain ⟨c, hc, rfl⟩ := hk
        rw [show (18 : Int32) + nI c = nI (18 + c) by rw [l_18, i_add], show (23 : Int32) + nI c = nI (23 + c) by rw [l_23, i_add], i_cl (show 18 + c < 2147483648 by omega), i_cl (show 23 + c < 2147483648 by omega)]
        refine ⟨i_in (by omega) (by decide), i_in (by omega) (by decide), fun I3 q3 => ⟨i_in (by omega) (by decide), fun I4 q4 => ?_⟩⟩
        have e5 : rowM I4 = aCut (rowM I) c (nI M) x3 := by
          refine mrow_ext (fun j hj => ?_) (fun j hj => by rw [aCut_o (by omega) (by omega), mrow_o hj])
          by_cases c1 : j = 23 + c
          · subst c1; rw [q4, wU_at, aCut_S hc]
          by_cases c2 : j = 18 + c
          · subst c2; rw [q4, wU_off (Or.inr c1), q3, wU_at, aCut_M]
          · rw [q4, wU_off (Or.inr c1), q3, wU_off (Or.inr c2), aCut_o c2 c1, mrev I2 _ hj, eR]
        have hR5 : okR (rowM I4) := by rw [e5]; exact okR_cut h0.1 hc hcut.1 hs5
        have hF : fr1 I2 I4 := ⟨fun c c1 c2 => by rw [q4, wU_ne c1, q3, wU_ne c1], fun j hj => by rw [q4, wU_off (Or.inr (by omega)), q3, wU_off (Or.inr (by omega))]⟩
        left
        rw [i_nt (by omega)]
        exact ⟨⟨hk', hcut⟩, by rw [fr1_o hF, rec_0 q1 g2], by rw [mrev I2 _ (by omega), eR], m_use hS1 g2 (fr1_R hF) (fr1_c hF) hR5 e5⟩
      · exact ⟨fun h => absurd rfl h, fun _ => t1 hk⟩
    · exact ⟨fun _ => bad (fun q => hs (e4.2 q.2)), fun h => absurd rfl h⟩
  · refine ⟨fun _ => bad (fun q => ?_), fun h => absurd rfl h⟩
    obtain ⟨⟨M, hM, e, _⟩, _⟩ := q
    exact hm (e63.2 ⟨M, hM, e⟩)
theorem vc_X6_stick (x1 : Int32) (I : wI) (hp : pre_X6_stick x1 I) : v_X6_stick x1 I (post_X6_stick x1 I) := by
  have h0 : okM I := hp
  refine ⟨trivial, fun r1 h1 => ?_⟩
  rcases h1 with ⟨hk, rfl⟩ | ⟨hk, rfl⟩
  · refine ⟨fun h => absurd h (by decide), fun _ I1 q1 => ?_⟩
    have e0 : I1 111 0 = 0 := by rw [q1, wU_at]
    rw [e0]
    refine ⟨fun _ => ?_, fun h => absurd (Int32.le_refl _) h⟩
    have hS1 : frS I I1 := by rw [q1]; exact thr_S I 0
    refine ⟨okM_S hS1 h0, fun I2 g2 => ?_⟩
    have eR : rowM I2 = rowM I := by rw [rec_row g2, frS_row hS1]
    have hk' := hk
    obtain ⟨c, hc, rfl⟩ := hk
    rw [show (12 : Int32) + nI c = nI (12 + c) by rw [l_12, i_add], i_cl (show 12 + c < 2147483648 by omega)]
    refine ⟨i_in (by omega) (by decide), i_in (by omega) (by decide), fun I3 q3 => ?_⟩
    have e5 : rowM I3 = aStick (rowM I) c := by
      refine mrow_ext (fun j hj => ?_) (fun j hj => by rw [aStick_o (by omega), mrow_o hj])
      by_cases c1 : j = 12 + c
      · subst c1; rw [q3, wU_at, aStick_p, mrev I2 _ hj, eR]
      · rw [q3, wU_off (Or.inr c1), aStick_o c1, mrev I2 _ hj, eR]
    have hR5 : okR (rowM I3) := by rw [e5]; exact okR_stick h0.1 hc
    have hF : fr1 I2 I3 := ⟨fun c c1 c2 => by rw [q3, wU_ne c1], fun j hj => by rw [q3, wU_off (Or.inr (by omega))]⟩
    refine ⟨hR5, fun r4 h4 => ?_⟩
    left
    rw [i_nt (by omega)]
    unfold post_X6_stuckKeys at h4
    exact ⟨hk', by rw [fr1_o hF, rec_0 q1 g2], by rw [h4, e5], m_use hS1 g2 (fr1_R hF) (fr1_c hF) hR5 e5⟩
  · refine ⟨fun _ I1 q1 => ?_, fun h => absurd rfl h⟩
    have e0 : I1 111 0 = 1 := by rw [q1, wU_at]
    rw [e0]
    exact ⟨fun h => absurd h (by decide), fun _ => Or.inr ⟨hk, thr_fin q1⟩⟩
theorem vl_X6_learn {I I0 : wI} (hM : okM I0) (Q : Int32 → wI → Prop) (eR : rowM I = rowM I0) (hQ : ∀ I', rowM I' = aLearn (rowM I0) → fr1 I I' → ∀ r, r = nI (aNS (rowM I0)) → Q r I') :
    ∀ (m i : Nat) (I' : wI), i + m = 6 → (∀ p, p < i → I' 112 (37 + p) = I 112 p ∧ I' 112 (43 + p) = I 112 (6 + p)) → I' 112 36 = 1 → (∀ j, j < 36 ∨ 49 ≤ j → I' 112 j = I 112 j) → (∀ c, c ≠ 112 → I' c = I c) → v_X6_learn_19 Q (m + 1) (nI i) I'
  | 0, i, I', e, h, h36, hg, hf => by
    obtain rfl : i = 6 := by omega
    have e5 : rowM I' = aLearn (rowM I0) := by
      rw [← eR]
      refine mrow_ext (fun j hj => ?_) (fun j hj => by rw [aLearn_o (by omega), mrow_o hj])
      by_cases c1 : j < 36
      · rw [hg j (by omega), aLearn_o (by omega), mrev I _ hj]
      by_cases c2 : j = 36
      · subst c2; rw [h36, aLearn_36]
      by_cases c3 : j < 43
      · have := (h (j - 37) (by omega)).1
        rw [show 37 + (j - 37) = j by omega] at this
        rw [this, show j = 37 + (j - 37) by omega, aLearn_d (by omega), show 37 + (j - 37) - 37 = j - 37 by omega, mrev I _ (by omega)]
      · have := (h (j - 43) (by omega)).2
        rw [show 43 + (j - 43) = j by omega] at this
        rw [this, show j = 43 + (j - 43) by omega, aLearn_n (by omega), show 43 + (j - 43) - 43 = j - 43 by omega, mrev I _ (by omega)]
    refine ⟨fun _ => ⟨by rw [pre_X6_notches, e5]; exact okR_learn hM.1, fun r1 h1 => ?_⟩, fun h => absurd (Int32.le_refl _) h⟩
    refine hQ _ e5 ⟨fun c c1 _ => hf c c1, fun j hj => hg j (by omega)⟩ _ ?_
    unfold post_X6_notches at h1
    rw [h1, e5]
    unfold aNS
    refine congrArg nI (sm_cong (fun p hp => ?_))
    unfold aN
    rw [if_pos hp, if_pos hp, aLearn_o (by omega)]
  | m + 1, i, I', e, h, h36, hg, hf => by
    have hi : i < 6 := by omega
    refine ⟨fun h => absurd h (by simp (disch := omega) only [i_le, i_lt, i_eq, i_add, i_sub, i_mul, i_and31, i_and1, i_shl1, i_shr, nI_or, i_cl, i_inP, i_nt, l_0, l_1, l_2, l_3, l_4, l_5, l_6, l_7, l_8, l_9, l_10, l_12, l_18, l_23, l_25, l_28, l_30, l_31, l_33, l_34, l_35, l_36, l_37, l_40, l_41, l_43, l_44, l_48, l_49, l_50, l_57, l_60, l_63, l_64, l_65, l_69, l_91, l_93, l_97, l_101, l_111, l_125, l_126, l_245, l_294, l_500, l_501, l_9999, l_1000000]; omega), fun _ => ?_⟩
    rw [show (0 : Int32) + nI i = nI i by rw [l_0, i_add, Nat.zero_add], l_37, l_6, l_43, i_add, i_add, i_add, i_cl (show i < 2147483648 by omega), i_cl (by omega), i_cl (by omega), i_cl (by omega), i_s]
    refine ⟨i_in (by omega) (by decide), i_in (by omega) (by decide), fun I2 q2 => ⟨i_in (by omega) (by decide), i_in (by omega) (by decide), fun I3 q3 => ?_⟩⟩
    rw [hg i (by omega)] at q2
    rw [q2, wU_off (Or.inr (by omega)), hg (6 + i) (by omega)] at q3
    refine vl_X6_learn hM Q eR hQ m (i + 1) I3 (by omega) (fun p hp => ?_) ?_ (fun j hj => ?_) (fun c hc => ?_)
    · by_cases c : p = i
      · subst c
        exact ⟨by rw [q3, wU_off (Or.inr (by omega)), wU_at], by rw [q3, wU_at]⟩
      · exact ⟨by rw [q3, wU_off (Or.inr (by omega)), wU_off (Or.inr (by omega))]; exact (h p (by omega)).1, by rw [q3, wU_off (Or.inr (by omega)), wU_off (Or.inr (by omega))]; exact (h p (by omega)).2⟩
    · rw [q3, wU_off (Or.inr (by omega)), wU_off (Or.inr (by omega))]; exact h36
    · rw [q3, wU_off (Or.inr (by omega)), wU_off (Or.inr (by omega))]; exact hg j hj
    · rw [q3, wU_ne hc, wU_ne hc]; exact hf c hc
theorem vc_X6_learn (I : wI) (hp : pre_X6_learn I) : v_X6_learn I (post_X6_learn I) := by
  have h0 : okM I := hp
  intro I1 q1
  have hS1 : frS I I1 := by rw [q1]; exact thr_S I 0
  refine ⟨okM_S hS1 h0, fun I2 g2 => ⟨by unfold vp_in; decide, fun I3 q3 => ⟨7, ?_⟩⟩⟩
  have eR : rowM I2 = rowM I := by rw [rec_row g2, frS_row hS1]
  rw [show (36 : Int32).toNatClampNeg = 36 from rfl] at q3
  refine vl_X6_learn h0 _ eR (fun I' e5 hF r hr => ?_) 6 0 I3 rfl (fun _ h => absurd h (Nat.not_lt_zero _)) (by rw [q3, wU_at]) (fun j hj => by rw [q3, wU_off (Or.inr (by omega))]) (fun c hc => by rw [q3, wU_ne hc])
  have hR5 : okR (rowM I') := by rw [e5]; exact okR_learn h0.1
  exact ⟨by rw [fr1_o hF, rec_0 q1 g2], hr, m_use hS1 g2 (fr1_R hF) (fr1_c hF) hR5 e5⟩
/-! ===== the model's text, undo, the snapshot ===== -/
theorem mlen_row {I I1 : wI} (ec : ∀ c, c ≠ 111 → c ≠ 116 → I1 c = I c) : rowM I1 = rowM I := mrow_fr (ec 112 (by decide) (by decide))
theorem vc_X6_append (x1 : Int32) (I : wI) (hp : pre_X6_append x1 I) : v_X6_append x1 I (post_X6_append x1 I) := by
  have h0 : okM I := hp
  obtain ⟨L, hL6, eL, hch⟩ := h0.2.2.2
  have hcd : (33 ≤ x1 ∧ x1 ≤ 126) ↔ isCd x1 := by
    constructor
    · rintro ⟨a, b⟩; exact isCd_of (Int32.not_lt.2 a) b
    · rintro ⟨c, hc, hc2, rfl⟩
      rw [l_33, l_126, i_le (by decide) (by omega), i_le (by omega) (by decide)]; exact ⟨hc, hc2⟩
  have thr : ∀ (k : Nat), 0 < k → k < 3 → post_X6_append x1 I 0 (wU I 111 0 (nI k)) → v_X6_append_30 x1 (post_X6_append x1 I) (nI k) I := by
    intro k hk hk3 hp I1 q1
    have e0 : I1 111 0 = nI k := by rw [q1, wU_at]
    rw [e0]
    exact ⟨fun h => absurd h (le0_n hk (by omega)), fun _ => by rw [q1]; exact hp⟩
  refine ⟨trivial, fun r1 h1 => ?_⟩
  rcases h1 with ⟨hk, rfl⟩ | ⟨hk, rfl⟩
  · refine ⟨fun _ => ⟨fun h => ?_, fun h => ?_⟩, fun h => absurd h (by decide)⟩
    · have hL : L < 60 := by
        apply Decidable.byContradiction; intro q
        exact h (by rw [eL, show L = 60 by omega]; rfl)
      obtain ⟨c, hc, hc2, rfl⟩ := hcd.1 hk
      intro I1 q1
      have e0 : I1 111 0 = 0 := by rw [q1, wU_at]
      have e8 : I1 111 8 = nI L := by rw [q1, wU_off (Or.inr (by decide)), eL]
      rw [e0, e8, i_cl (by omega)]
      refine ⟨fun _ => ⟨i_in hL (by decide), fun I2 q2 I3 q3 => ?_⟩, fun h => absurd (Int32.le_refl _) h⟩
      rw [q2, wU_ne (by decide), e8, i_s] at q3
      have ec : ∀ c, c ≠ 111 → c ≠ 116 → I3 c = I c := fun c a b => by rw [q3, wU_ne a, wU_ne b, q1, wU_ne a]
      have f8 : I3 111 8 = nI (L + 1) := by rw [q3, wU_at]
      have f0 : I3 111 0 = 0 := by rw [q3, wU_off (Or.inr (by decide)), wU_ne (by decide), e0]
      have fo : ∀ j, j ≠ 0 → j ≠ 8 → I3 111 j = I 111 j := fun j a b => by rw [q3, wU_off (Or.inr b), wU_ne (by decide), q1, wU_off (Or.inr a)]
      have f116 : ∀ j, I3 116 j = if j = L then nI c else I 116 j := by
        intro j
        rw [q3, wU_ne (by decide)]
        by_cases e : j = L
        · subst e; rw [if_pos rfl, wU_at]
        · rw [if_neg e, wU_off (Or.inr e), q1, wU_ne (by decide)]
      have hn : nt (absM I 2 2) = L := by rw [absM_22, eL, i_nt (by omega)]
      left
      refine ⟨⟨⟨c, hc, hc2, rfl⟩, by rw [eL, i_nt (by omega)]; exact hL⟩, f0, by rw [f8, hn], ?_, ?_, fun c hc => ec c (by omega) (by omega)⟩
      · funext c'
        unfold aApp
        rw [hn]
        by_cases c2 : c' = 2
        · subst c2
          rw [if_pos rfl]
          funext j
          show (if j = 0 then I3 111 6 else if j = 1 then I3 111 4 else if j = 2 then I3 111 8 else 0) = if j = 2 then nI (L + 1) else (if j = 0 then I 111 6 else if j = 1 then I 111 4 else if j = 2 then I 111 8 else 0)
          rw [fo 6 (by decide) (by decide), fo 4 (by decide) (by decide), f8]
          by_cases j2 : j = 2
          · subst j2; rfl
          · rw [if_neg j2, if_neg j2, if_neg j2]
        rw [if_neg c2]
        by_cases c3 : c' = 3
        · subst c3
          rw [if_pos rfl]
          funext j
          show (if j < nt (I3 111 8) then I3 116 j else 0) = if j = L then nI c else (if j < nt (I 111 8) then I 116 j else 0)
          rw [f8, eL, i_nt (by omega), i_nt (by omega), f116]
          by_cases j2 : j = L
          · subst j2; rw [if_pos (by omega), if_pos rfl, if_pos rfl]
          · rw [if_neg j2, if_neg j2]
            by_cases j3 : j < L
            · rw [if_pos (by omega), if_pos j3]
            · rw [if_neg (by omega), if_neg j3]
        rw [if_neg c3]
        unfold absM
        rw [if_neg c2, if_neg c2, if_neg c3, if_neg c3, fo 6 (by decide) (by decide), fo 4 (by decide) (by decide), mlen_row ec, rowX_fr (ec 115 (by decide) (by decide)), rowX_fr (ec 114 (by decide) (by decide))]
      · obtain ⟨a1, a2, ⟨s, hs, es, a3⟩, a4⟩ := h0
        unfold okM
        rw [fo 6 (by decide) (by decide), fo 4 (by decide) (by decide), mlen_row ec, rowX_fr (ec 115 (by decide) (by decide))]
        refine ⟨a1, a2, ⟨s, hs, es, fun i hi => by rw [rowX_fr (ec 114 (by decide) (by decide))]; exact a3 i hi⟩, L + 1, by omega, f8, fun j hj => ?_⟩
        rw [f116]
        by_cases j2 : j = L
        · rw [if_pos j2]; exact ⟨c, hc, hc2, rfl⟩
        · rw [if_neg j2]; exact hch j (by omega)
    · refine thr 2 (by decide) (by decide) (Or.inr (Or.inr ⟨hcd.1 hk, fun q => ?_, thr_fin rfl⟩))
      rw [h] at q; exact absurd q (by decide)
  · exact ⟨fun h => absurd rfl h, fun _ => thr 1 (by decide) (by decide) (Or.inr (Or.inl ⟨fun q => hk (hcd.2 q), thr_fin rfl⟩))⟩
