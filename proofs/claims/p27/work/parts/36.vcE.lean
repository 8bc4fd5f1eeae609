/-! ===== the text, the snapshot, undo ===== -/
theorem nar_c : ∀ c, c < 127 → vp_nar .char (nI c) = nI c := by decide +kernel
theorem i2c_c : ∀ c, c < 127 → ((nI c).toUInt32 % 65536).toInt32 = nI c := by decide +kernel
theorem isCd_of {x : Int32} (h0 : ¬ x < 33) (h1 : x ≤ 126) : isCd x := by
  rcases i_cases x with h | ⟨j, hj, rfl⟩
  · exact absurd (Int32.lt_trans h (by decide)) h0
  · rw [l_33, i_lt hj (by decide)] at h0
    rw [l_126, i_le hj (by decide)] at h1
    exact ⟨j, by omega, h1, rfl⟩
theorem len_use {I I1 : wI} {n : Nat} (h0 : okC I) (hn : n ≤ nt (I 24 1)) (ec : ∀ c, c < 24 ∨ c = 25 ∨ 45 ≤ c → I1 c = I c) (e1 : I1 24 1 = nI n) : okP I I1 (aLen (absC I) n) := by
  obtain ⟨L, hL6, eL, hch⟩ := h0.2.2.2.2.2
  rw [eL, i_nt (by omega)] at hn
  have er : ∀ k, k + 11 ≤ 24 ∨ 45 ≤ k → rowC k I1 = rowC k I := fun k hk => rowC_fr (fun c a b => ec c (by omega))
  refine ⟨?_, ?_, fun c hc => ec c (by omega)⟩
  · funext c'
    unfold aLen
    by_cases c2 : c' = 2
    · subst c2
      rw [if_pos rfl]
      funext j
      show (if j = 0 then I1 0 2 else if j = 1 then I1 0 4 else if j = 2 then I1 24 1 else 0) = if j = 2 then nI n else (if j = 0 then I 0 2 else if j = 1 then I 0 4 else if j = 2 then I 24 1 else 0)
      rw [ec 0 (by omega), e1]
      by_cases j2 : j = 2
      · subst j2; rfl
      · rw [if_neg j2, if_neg j2, if_neg j2]
    rw [if_neg c2]
    by_cases c3 : c' = 3
    · subst c3
      rw [if_pos rfl]
      funext j
      show (if j < nt (I1 24 1) then I1 25 j else 0) = if j < n then (if j < nt (I 24 1) then I 25 j else 0) else 0
      rw [e1, eL, i_nt (by omega), i_nt (by omega), ec 25 (by omega)]
      by_cases j2 : j < n
      · rw [if_pos j2, if_pos j2, if_pos (by omega)]
      · rw [if_neg j2, if_neg j2]
    rw [if_neg c3]
    unfold absC
    rw [if_neg c2, if_neg c2, if_neg c3, if_neg c3, ec 0 (by omega), ec 23 (by omega), er 1 (by omega), er 12 (by omega), er _ (Or.inr (wSv_ge _))]
  · obtain ⟨a1, a2, ⟨s, hs, es, a3⟩, a4, a5, a6⟩ := h0
    unfold okC
    rw [ec 0 (by omega), ec 23 (by omega)]
    refine ⟨okS_fr (fun c a b => ec c (by omega)) a1, ?_, ⟨s, hs, es, fun i hi => okS_fr (fun c a b => by have := wSv_ge (I 23 i); exact ec c (by omega)) (a3 i hi)⟩, a4, a5, ⟨n, by omega, e1, fun j hj => ?_⟩⟩
    · rcases a2 with a2 | ⟨a2, a7⟩
      · exact Or.inl a2
      · exact Or.inr ⟨a2, okS_fr (fun c a b => ec c (by omega)) a7⟩
    · rw [ec 25 (by omega)]; exact hch j (by omega)
theorem vc_X5_goBack (I : wI) (hp : pre_X5_goBack I) : v_X5_goBack I (post_X5_goBack I) := by
  obtain ⟨h0, hg⟩ := hp
  have hK : okS 12 I := by
    rcases h0.2.1 with h | ⟨_, h⟩
    · rw [hg] at h; exact absurd h (by decide)
    · exact h
  have e1 : absC I 1 = rowC 12 I := by
    show (if I 0 2 = 0 then zRow else rowC 12 I) = _
    rw [hg, if_neg (by decide)]
  refine ⟨fun _ => ⟨h0, fun I1 h1 => ?_⟩, fun h => by rw [hg] at h; exact absurd h (by decide)⟩
  have hK1 : okS 12 I1 := okS_fr (fun c a b => h1.2.1 c (by omega) (by omega)) hK
  have er : rowC 12 I1 = rowC 12 I := rowC_fr (fun c a b => h1.2.1 c (by omega) (by omega))
  refine ⟨⟨Or.inr (by decide), hK1.1.2.2.2.2.2.1⟩, fun I2 h2 => ?_⟩
  have hS := okS_copy h2 hK1
  obtain ⟨g1, g2, g3⟩ := h2
  rw [er, ← e1] at g1
  exact ⟨by rw [← g1]; rfl, now_use h1 g3 g1 hS⟩
theorem vc_X5_goBackx (I : wI) (hp : pre_X5_goBackx I) : v_X5_goBackx I (exc_X5_goBack I) := by
  obtain ⟨h0, hg⟩ := hp
  refine ⟨fun h => ?_, fun _ => ⟨frX_refl I, rfl⟩⟩
  rcases h0.2.1 with e | ⟨e, _⟩
  · exact absurd e h
  · exact absurd e hg
theorem vc_X5_undo (I : wI) (hp : pre_X5_undo I) : v_X5_undo I (post_X5_undo I) := by
  obtain ⟨h0, hn⟩ := hp
  obtain ⟨s, hs, es, hsv⟩ := h0.2.2.1
  have hs0 : s ≠ 0 := fun e => hn (by rw [es, e]; rfl)
  obtain ⟨t, rfl⟩ : ∃ t, s = t + 1 := ⟨s - 1, by omega⟩
  obtain ⟨u, hu, eu⟩ := okC_t h0 (show t < 6 by omega)
  refine ⟨fun h => ?_, fun _ => ⟨fun _ I1 q1 => ?_, fun h => ?_⟩⟩
  · rw [es, l_0, i_le (by omega) (by decide)] at h; omega
  · rw [es, l_1, i_sub (by omega), Nat.add_sub_cancel] at q1
    have e4 : I1 0 4 = nI t := by rw [q1, wU_at]
    have e1 : ∀ c, c ≠ 0 → I1 c = I c := fun c hc => by rw [q1, wU_ne hc]
    have e0 : ∀ j, j ≠ 4 → I1 0 j = I 0 j := fun j hj => by rw [q1, wU_off (Or.inr hj)]
    rw [e4, i_cl (by omega), e1 23 (by omega)]
    have hw := wSv_nI hu
    rw [← eu] at hw
    have hok : okS (wSv (I 23 t)) I1 := okS_fr (fun c a b => e1 c (by omega)) (hsv t (by omega))
    have er1 : rowC (wSv (I 23 t)) I1 = rowC (wSv (I 23 t)) I := rowC_fr (fun c a b => e1 c (by omega))
    refine ⟨i_in (by omega) (by decide), by rw [eu, i_cl (by omega)]; exact hu, ⟨Or.inr (by omega), hok.1.2.2.2.2.2.1⟩, fun I2 h2 => ?_⟩
    have hS := okS_copy h2 hok
    obtain ⟨g1, g2, g3⟩ := h2
    rw [er1] at g1
    have ec : ∀ c, 12 ≤ c → I2 c = I c := fun c hc => by rw [g3 c (by omega), e1 c (by omega)]
    have f0 : ∀ j, j ≠ 4 → I2 0 j = I 0 j := fun j hj => by rw [g3 0 (by omega), e0 j hj]
    have f4 : I2 0 4 = nI t := by rw [g3 0 (by omega), e4]
    have hn' : nt (absC I 2 1) = t + 1 := by rw [absC_21, es, i_nt (by omega)]
    have er : ∀ k, 12 ≤ k → rowC k I2 = rowC k I := fun k hk => rowC_fr (fun c a b => ec c (by omega))
    show post_X5_undo I (I2 0 4) I2
    refine ⟨by rw [f4, hn', Nat.add_sub_cancel], ?_, ?_, fun c hc => ec c (by omega)⟩
    · funext c'
      unfold aUndo
      rw [hn', show 3 + (t + 1) = 4 + t by omega, Nat.add_sub_cancel]
      by_cases c0 : c' = 0
      · subst c0
        rw [if_pos rfl, absC_4, es, i_nt (by omega), if_pos (by omega)]
        exact g1
      rw [if_neg c0]
      by_cases c2 : c' = 2
      · subst c2
        rw [if_pos rfl]
        funext j
        show (if j = 0 then I2 0 2 else if j = 1 then I2 0 4 else if j = 2 then I2 24 1 else 0) = if j = 1 then nI t else (if j = 0 then I 0 2 else if j = 1 then I 0 4 else if j = 2 then I 24 1 else 0)
        rw [f0 2 (by omega), f4, ec 24 (by omega)]
        by_cases j2 : j = 1
        · subst j2; rfl
        · rw [if_neg j2, if_neg j2, if_neg j2]
      rw [if_neg c2]
      by_cases c3 : c' = 4 + t
      · subst c3
        rw [if_pos rfl, absC_4, f4, i_nt (by omega), if_neg (by omega)]
      rw [if_neg c3]
      unfold absC
      rw [if_neg c0, if_neg c0, if_neg c2, if_neg c2, f0 2 (by omega), f4, es, ec 23 (by omega), ec 24 (by omega), ec 25 (by omega), er 12 (by omega), er _ (by have := wSv_ge (I 23 (c' - 4)); omega), i_nt (by omega), i_nt (by omega)]
      by_cases c1 : c' = 1
      · rw [if_pos c1, if_pos c1]
      rw [if_neg c1, if_neg c1]
      by_cases c5 : c' = 3
      · rw [if_pos c5, if_pos c5]
      rw [if_neg c5, if_neg c5]
      by_cases c6 : c' - 4 < t
      · rw [if_pos c6, if_pos (by omega)]
      · rw [if_neg c6, if_neg (by omega)]
    · obtain ⟨a1, a2, _, a4, a5, a6⟩ := h0
      unfold okC
      rw [f0 2 (by omega), ec 23 (by omega), ec 24 (by omega), ec 25 (by omega)]
      refine ⟨hS, ?_, ⟨t, by omega, f4, fun i hi => okS_fr (fun c a b => by have := wSv_ge (I 23 i); exact ec c (by omega)) (hsv i (by omega))⟩, a4, a5, a6⟩
      rcases a2 with a2 | ⟨a2, a7⟩
      · exact Or.inl a2
      · exact Or.inr ⟨a2, okS_fr (fun c a b => ec c (by omega)) a7⟩
  · rw [es, l_6, i_le (by omega) (by decide)] at h; omega
theorem vc_X5_undox (I : wI) (hp : pre_X5_undox I) : v_X5_undox I (exc_X5_undo I) :=
  ⟨fun _ => ⟨frX_refl I, rfl⟩, fun h => absurd (by rw [hp.2]; decide) h⟩
