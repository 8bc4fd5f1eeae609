/-! ===== small ===== -/
theorem isN_lt {n : Nat} {x : Int32} (hn : n < 2147483648) (h0 : ¬ x < 0) (h1 : x < nI n) : isN n x := by
  rcases i_cases x with h | ⟨j, hj, rfl⟩
  · exact absurd h h0
  · rw [i_lt hj hn] at h1; exact ⟨j, h1, rfl⟩
theorem isN_0 {n : Nat} {x : Int32} (hn : n < 2147483648) (h : isN n x) : ¬ x < 0 := by
  obtain ⟨c, hc, rfl⟩ := h
  exact nI_lt0 (by omega)
theorem isN_1 {n : Nat} {x : Int32} (hn : n < 2147483648) (h : isN n x) : x < nI n := by
  obtain ⟨c, hc, rfl⟩ := h
  rw [i_lt (by omega) hn]; exact hc
theorem vc_X5_requireKey (x0 : Int32) (I : wI) (hp : pre_X5_requireKey x0 I) : v_X5_requireKey x0 I (post_X5_requireKey x0 I) :=
  ⟨fun h => absurd h (isN_0 (by decide) hp), fun _ => ⟨fun _ => trivial, fun h => absurd (isN_1 (by decide) hp) h⟩⟩
theorem vc_X5_requireKeyx (x0 : Int32) (I : wI) (hp : pre_X5_requireKeyx x0 I) : v_X5_requireKeyx x0 I (exc_X5_requireKey x0 I) :=
  ⟨fun _ => rfl, fun h => ⟨fun h1 => hp (isN_lt (by decide) h h1), fun _ => rfl⟩⟩
theorem vc_X5_requirePosition (x0 : Int32) (I : wI) (hp : pre_X5_requirePosition x0 I) : v_X5_requirePosition x0 I (post_X5_requirePosition x0 I) :=
  ⟨fun h => absurd h (isN_0 (by decide) hp), fun _ => ⟨fun _ => trivial, fun h => absurd (isN_1 (by decide) hp) h⟩⟩
theorem vc_X5_requirePositionx (x0 : Int32) (I : wI) (hp : pre_X5_requirePositionx x0 I) : v_X5_requirePositionx x0 I (exc_X5_requirePosition x0 I) :=
  ⟨fun _ => rfl, fun h => ⟨fun h1 => hp (isN_lt (by decide) h h1), fun _ => rfl⟩⟩
theorem vc_X5_isKeyMask (x0 : Int32) (I : wI) (hp : pre_X5_isKeyMask x0 I) : v_X5_isKeyMask x0 I (post_X5_isKeyMask x0 I) := by
  refine ⟨fun h => ⟨Or.inl rfl, Or.inr ⟨?_, rfl⟩⟩, fun h => ⟨fun h1 => ⟨Or.inl rfl, Or.inr ⟨?_, rfl⟩⟩, fun h1 => ?_⟩⟩
  · rintro ⟨m, hm, rfl, _⟩
    exact nI_lt0 (by omega) h
  · rintro ⟨m, hm, rfl, _⟩
    rw [l_64, i_le (by decide) (by omega)] at h1
    omega
  · obtain ⟨m, hm, rfl⟩ := isN_lt (n := 64) (by decide) h (Int32.not_le.1 h1)
    refine ⟨⟨m, hm, rfl⟩, fun r1 q1 => ?_⟩
    unfold post_J_bitCount at q1
    rw [i_nt (by omega)] at q1
    have h6 := pc6_le m
    subst q1
    rw [l_2, i_lt (by omega) (by decide)]
    refine ⟨fun h2 => ⟨Or.inl rfl, Or.inr ⟨?_, rfl⟩⟩, fun h2 => ⟨Or.inr rfl, Or.inl ⟨⟨m, hm, rfl, by omega⟩, rfl⟩⟩⟩
    rintro ⟨m', hm', e, h3⟩
    rw [nI_inj (by omega) (by omega) e] at h2
    omega
/-! ===== the class as a whole ===== -/
theorem wSv_nI {t : Nat} (h : t < 6) : wSv (nI t) = 45 + 11 * t := by unfold wSv; rw [i_cl (by omega)]
theorem wSv_ge (x : Int32) : 45 ≤ wSv x := by unfold wSv; omega
theorem okC_t {I : wI} (h : okC I) {i : Nat} (hi : i < 6) : ∃ t, t < 6 ∧ I 23 i = nI t := h.2.2.2.1 i hi
theorem okC_wv {I : wI} (h : okC I) {i : Nat} (hi : i < 6) : wSv (I 23 i) + 11 ≤ 111 := by
  obtain ⟨t, ht, e⟩ := okC_t h hi
  rw [e, wSv_nI ht]; omega
theorem absC_eq {I I' : wI} (h0 : okC I) (h : ∀ c, c < 24 ∨ c = 25 ∨ 45 ≤ c ∧ c < 111 → I' c = I c) (h1 : I' 24 1 = I 24 1) : absC I' = absC I ∧ okC I' := by
  have er : ∀ i, i < 6 → rowC (wSv (I 23 i)) I' = rowC (wSv (I 23 i)) I := fun i hi => rowC_fr (fun c a b => h c (by have := wSv_ge (I 23 i); have := okC_wv h0 hi; omega))
  obtain ⟨s, hs, es, _⟩ := h0.2.2.1
  constructor
  · funext c
    unfold absC
    rw [h 0 (by omega), h 23 (by omega), h 25 (by omega), h1, rowC_fr (k := 1) (I := I) (I' := I') (fun c a b => h c (by omega)), rowC_fr (k := 12) (I := I) (I' := I') (fun c a b => h c (by omega))]
    split
    · rfl
    split
    · rfl
    split
    · rfl
    split
    · rfl
    split
    · rename_i h4
      rw [es, i_nt (by omega)] at h4
      exact er _ (by omega)
    · rfl
  · obtain ⟨a1, a2, ⟨s, hs, es, a3⟩, a4, a5, a6⟩ := h0
    unfold okC
    rw [h 0 (by omega), h 23 (by omega), h 25 (by omega), h1]
    refine ⟨okS_fr (fun c a b => h c (by omega)) a1, ?_, ⟨s, hs, es, fun i hi => ?_⟩, a4, a5, a6⟩
    · rcases a2 with a2 | ⟨a2, a7⟩
      · exact Or.inl a2
      · exact Or.inr ⟨a2, okS_fr (fun c a b => h c (by omega)) a7⟩
    · obtain ⟨t, ht, e⟩ := a4 i (by omega)
      refine okS_fr (fun c a b => h c ?_) (a3 i hi)
      rw [e, wSv_nI ht] at a b
      omega
theorem absC_frX {I I' : wI} (h0 : okC I) (h : frX I I') : absC I' = absC I ∧ okC I' :=
  absC_eq h0 (fun c hc => h.1 c (by omega)) h.2
theorem frX_refl (I : wI) : frX I I := ⟨fun _ _ => rfl, rfl⟩
theorem frX_trans {I I' I2 : wI} (h : frX I I') (h2 : frX I' I2) : frX I I2 := ⟨fun c hc => by rw [h2.1 c hc, h.1 c hc], by rw [h2.2, h.2]⟩
theorem frX_C {I I' : wI} (h : frX I I') : frC I I' := fun c hc => h.1 c (by omega)
/-- only the state changes -/
theorem absC_now {I I' : wI} (h0 : okC I) (h : fr 1 11 I I') (hS : okS 1 I') : absC I' = aNow (absC I) (rowC 1 I') ∧ okC I' := by
  have er : ∀ i, i < 6 → rowC (wSv (I 23 i)) I' = rowC (wSv (I 23 i)) I := fun i hi => rowC_fr (fun c a b => h c (by have := wSv_ge (I 23 i); omega))
  obtain ⟨s, hs, es, _⟩ := h0.2.2.1
  constructor
  · funext c
    unfold absC aNow
    rw [h 0 (by omega), h 23 (by omega), h 24 (by omega), h 25 (by omega), rowC_fr (k := 12) (I := I) (I' := I') (fun c a b => h c (by omega))]
    by_cases c0 : c = 0
    · rw [if_pos c0, if_pos c0]
    rw [if_neg c0, if_neg c0]
    dsimp only
    rw [if_neg c0]
    split
    · rfl
    split
    · rfl
    split
    · rfl
    split
    · rename_i h4
      rw [es, i_nt (by omega)] at h4
      exact er _ (by omega)
    · rfl
  · obtain ⟨a1, a2, ⟨s, hs, es, a3⟩, a4, a5, a6⟩ := h0
    unfold okC
    rw [h 0 (by omega), h 23 (by omega), h 24 (by omega), h 25 (by omega)]
    refine ⟨hS, ?_, ⟨s, hs, es, fun i hi => ?_⟩, a4, a5, a6⟩
    · rcases a2 with a2 | ⟨a2, a7⟩
      · exact Or.inl a2
      · exact Or.inr ⟨a2, okS_fr (fun c a b => h c (by omega)) a7⟩
    · exact okS_fr (fun c a b => h c (by have := wSv_ge (I 23 i); omega)) (a3 i hi)
/-! ===== saving ===== -/
theorem vl_X5_dropOldest {I : wI} (h0 : okC I) : ∀ (m i : Nat) (I' : wI), i + 1 + m = 6 → (∀ j, j < i → I' 23 j = I 23 (j + 1)) → (∀ j, i ≤ j → I' 23 j = I 23 j) → (∀ c, c ≠ 23 → I' c = I c) → v_X5_dropOldest_9 (post_X5_dropOldest I) (m + 1) (I 23 0) (nI (i + 1)) I'
  | 0, i, I', e, h, hg, hf => by
    obtain rfl : i = 5 := by omega
    refine ⟨fun _ => ⟨⟨by unfold vp_in; decide, ?_⟩, fun I1 q1 I2 q2 => ?_⟩, fun h => absurd (Int32.le_refl _) h⟩
    · obtain ⟨t, ht, e⟩ := okC_t h0 (show 0 < 6 by decide)
      rw [e, i_cl (by omega)]; exact ht
    · rw [show (5 : Int32).toNatClampNeg = 5 from rfl] at q1
      subst q1 q2
      refine ⟨fun j hj => ?_, ?_, ?_, fun j hj => ?_, fun c c0 c23 => ?_⟩
      · rw [wU_ne (by omega), wU_off (Or.inr (by omega))]; exact h j hj
      · rw [wU_ne (by omega), wU_at]
      · rw [wU_at]; rfl
      · rw [wU_off (Or.inr hj), wU_ne (by omega), hf 0 (by omega)]
      · rw [wU_ne c0, wU_ne c23, hf c c23]
  | m + 1, i, I', e, h, hg, hf => by
    obtain ⟨t, ht, et⟩ := okC_t h0 (show i + 1 < 6 by omega)
    refine ⟨fun h => absurd h (by simp (disch := omega) only [i_le, i_lt, i_eq, i_add, i_sub, i_mul, i_and31, i_and1, i_shl1, i_shr, nI_or, i_cl, i_inP, i_nt, l_0, l_1, l_2, l_3, l_4, l_5, l_6, l_7, l_8, l_9, l_10, l_12, l_18, l_23, l_25, l_28, l_30, l_31, l_33, l_34, l_35, l_36, l_37, l_40, l_41, l_43, l_44, l_48, l_49, l_50, l_57, l_60, l_63, l_64, l_65, l_69, l_91, l_93, l_97, l_101, l_111, l_125, l_126, l_245, l_294, l_500, l_501, l_9999, l_1000000]; omega), fun _ => ⟨i_in (by omega) (by decide), ⟨?_, ?_⟩, fun I3 q3 => ?_⟩⟩
    · rw [l_1, i_sub (by omega), Nat.add_sub_cancel]; exact i_in (by omega) (by decide)
    · rw [i_cl (by omega), hg _ (by omega), et, i_cl (by omega)]; exact ht
    · rw [l_1, i_sub (by omega), Nat.add_sub_cancel, i_cl (by omega), i_cl (by omega), hg _ (by omega)] at q3
      subst q3
      rw [i_s]
      refine vl_X5_dropOldest h0 m (i + 1) _ (by omega) (fun j hj => ?_) (fun j hj => ?_) (fun c hc => ?_)
      · by_cases e : j = i
        · subst e; exact wU_at
        · rw [wU_off (Or.inr e)]; exact h j (by omega)
      · rw [wU_off (Or.inr (by omega))]; exact hg j (by omega)
      · rw [wU_ne hc]; exact hf c hc
theorem vc_X5_dropOldest (I : wI) (hp : pre_X5_dropOldest I) : v_X5_dropOldest I (post_X5_dropOldest I) :=
  ⟨by unfold vp_in; decide, 6, vl_X5_dropOldest hp.1 5 0 I rfl (fun _ h => absurd h (Nat.not_lt_zero _)) (fun _ _ => rfl) (fun _ _ => rfl)⟩
theorem vc_X5_writeSaved (k1 : Nat) (I : wI) (hp : pre_X5_writeSaved k1 I) : v_X5_writeSaved k1 I (post_X5_writeSaved k1 I) := by
  obtain ⟨hS, ⟨s, hs, es⟩, hk⟩ := hp
  refine ⟨⟨Or.inl (by omega), hS.1.2.2.2.2.2.1⟩, fun I1 h1 I2 q2 => ?_⟩
  have hS1 := okS_copy h1 hS
  obtain ⟨g1, g2, g3⟩ := h1
  have e0 : ∀ j, I1 0 j = I 0 j := fun j => by rw [g3 0 (by omega)]
  rw [e0, es, i_s] at q2
  subst q2
  refine ⟨?_, okS_fr (fun c a b => wU_ne (by omega)) hS1, ?_, fun j hj => ?_, fun c c0 hc => ?_⟩
  · rw [rowC_fr (I := I1) (fun c a b => wU_ne (by omega)), g1]
  · rw [wU_at, es, i_nt (by omega)]
  · rw [wU_off (Or.inr hj), e0]
  · rw [wU_ne c0, g3 c hc]
theorem save_core {I0 I1 I' : wI} {s : Nat} {A' : Nat → Nat → Int32} (h0 : okC I0) (hs : s < 6) (e4 : I1 0 4 = nI s) (e0 : ∀ j, j ≠ 4 → I1 0 j = I0 0 j) (ec : ∀ c, c ≠ 0 → c ≠ 23 → I1 c = I0 c)
    (ht : ∀ i, i < 6 → ∃ t, t < 6 ∧ I1 23 i = nI t) (hi : ∀ i j, i < 6 → j < 6 → I1 23 i = I1 23 j → i = j) (hok : ∀ i, i < s → okS (wSv (I1 23 i)) I0)
    (hA : ∀ i, i < s → A' (4 + i) = rowC (wSv (I1 23 i)) I0) (hA0 : A' (4 + s) = rowC 1 I0) (hz : ∀ c, 4 + s < c → A' c = zRow) (b0 : A' 0 = absC I0 0) (b1 : A' 1 = absC I0 1) (b2 : A' 2 = fun j => if j = 1 then nI (s + 1) else absC I0 2 j) (b3 : A' 3 = absC I0 3)
    (hp : post_X5_writeSaved (wSv (I1 23 s)) I1 I') : okP I0 I' A' ∧ (∀ c, 0 < c → c < 23 → I' c = I0 c) ∧ (∀ c, 23 < c → c < 45 → I' c = I0 c) ∧ ∀ j, j ≠ 4 → I' 0 j = I0 0 j := by
  obtain ⟨w1, w2, w3, w4, w5⟩ := hp
  have hge := wSv_ge (I1 23 s)
  obtain ⟨ts, hts, ets⟩ := ht s hs
  have hk1 : wSv (I1 23 s) = 45 + 11 * ts := by rw [ets, wSv_nI hts]
  have f1 : ∀ c, 0 < c → c < 23 → I' c = I0 c := fun c h1 h2 => by rw [w5 c (by omega) (by omega), ec c (by omega) (by omega)]
  have f2 : ∀ c, 23 < c → c < 45 → I' c = I0 c := fun c h1 h2 => by rw [w5 c (by omega) (by omega), ec c (by omega) (by omega)]
  have f3 : ∀ j, j ≠ 4 → I' 0 j = I0 0 j := fun j hj => by rw [w4 j hj, e0 j hj]
  have f4 : I' 0 4 = nI (s + 1) := by rw [w3, e4, i_nt (by omega)]
  have f5 : I' 23 = I1 23 := w5 23 (by omega) (by omega)
  have hS1 : rowC 1 I' = rowC 1 I0 := rowC_fr (fun c a b => f1 c (by omega) (by omega))
  have dis : ∀ i, i < s → ∀ c, wSv (I1 23 i) ≤ c → c < wSv (I1 23 i) + 11 → I' c = I0 c := by
    intro i his c a b
    obtain ⟨t, ht', et⟩ := ht i (by omega)
    rw [et, wSv_nI ht'] at a b
    have hne : t ≠ ts := by
      intro e
      subst e
      have := hi i s (by omega) hs (by rw [et, ets])
      omega
    rw [w5 c (by omega) (by omega), ec c (by omega) (by omega)]
  have hw1 : rowC (wSv (I1 23 s)) I' = rowC 1 I0 := by rw [w1]; exact rowC_fr (fun c a b => ec c (by omega) (by omega))
  refine ⟨⟨?_, ?_, fun c hc => by rw [w5 c (by omega) (by omega), ec c (by omega) (by omega)]⟩, f1, f2, f3⟩
  · funext c
    by_cases c0 : c = 0
    · subst c0; rw [b0]; exact hS1
    by_cases c1 : c = 1
    · subst c1; rw [b1]
      show (if I' 0 2 = 0 then zRow else rowC 12 I') = if I0 0 2 = 0 then zRow else rowC 12 I0
      rw [f3 2 (by omega), rowC_fr (k := 12) (I := I0) (I' := I') (fun c a b => f1 c (by omega) (by omega))]
    by_cases c2 : c = 2
    · subst c2; rw [b2]
      funext j
      show (if j = 0 then I' 0 2 else if j = 1 then I' 0 4 else if j = 2 then I' 24 1 else 0) = if j = 1 then nI (s + 1) else (if j = 0 then I0 0 2 else if j = 1 then I0 0 4 else if j = 2 then I0 24 1 else 0)
      rw [f3 2 (by omega), f4, f2 24 (by omega) (by omega)]
      by_cases j1 : j = 1
      · subst j1; rfl
      · rw [if_neg j1, if_neg j1, if_neg j1]
    by_cases c3 : c = 3
    · subst c3; rw [b3]
      funext j
      show (if j < nt (I' 24 1) then I' 25 j else 0) = if j < nt (I0 24 1) then I0 25 j else 0
      rw [f2 24 (by omega) (by omega), f2 25 (by omega) (by omega)]
    unfold absC
    rw [if_neg c0, if_neg c1, if_neg c2, if_neg c3, f4, i_nt (by omega), f5]
    by_cases c4 : c - 4 < s + 1
    · rw [if_pos c4]
      by_cases c5 : c - 4 = s
      · rw [c5, hw1, show c = 4 + s by omega, hA0]
      · rw [show c = 4 + (c - 4) by omega, hA _ (by omega), show 4 + (c - 4) - 4 = c - 4 by omega]
        exact rowC_fr (dis _ (by omega))
    · rw [if_neg c4, hz c (by omega)]
  · obtain ⟨a1, a2, _, _, _, a6⟩ := h0
    refine ⟨okS_fr (fun c a b => f1 c (by omega) (by omega)) a1, ?_, ⟨s + 1, by omega, f4, fun i his => ?_⟩, ?_, ?_, ?_⟩
    · rw [f3 2 (by omega)]
      rcases a2 with a2 | ⟨a2, a7⟩
      · exact Or.inl a2
      · exact Or.inr ⟨a2, okS_fr (fun c a b => f1 c (by omega) (by omega)) a7⟩
    · rw [f5]
      by_cases c5 : i = s
      · subst c5; exact w2
      · exact okS_fr (dis i (by omega)) (hok i (by omega))
    · rw [f5]; exact ht
    · rw [f5]; exact hi
    · rw [f2 24 (by omega) (by omega), f2 25 (by omega) (by omega)]; exact a6
theorem absC_4 {I : wI} {c : Nat} : absC I (4 + c) = if c < nt (I 0 4) then rowC (wSv (I 23 c)) I else zRow := by
  unfold absC
  rw [if_neg (by omega), if_neg (by omega), if_neg (by omega), if_neg (by omega), show 4 + c - 4 = c by omega]
theorem absC_21 {I : wI} : absC I 2 1 = I 0 4 := rfl
theorem absC_22 {I : wI} : absC I 2 2 = I 24 1 := rfl
theorem absC_0 {I : wI} : absC I 0 = rowC 1 I := rfl
theorem vc_X5_save (I : wI) (hp : pre_X5_save I) : v_X5_save I (post_X5_save I) := by
  have h0 : okC I := hp
  obtain ⟨s, hs, es, hsv⟩ := h0.2.2.1
  have fin : ∀ (I1 : wI) (s' : Nat), s' < 6 → I1 0 4 = nI s' → (∀ c, c ≠ 0 → c ≠ 23 → I1 c = I c) → (∀ i, i < 6 → ∃ t, t < 6 ∧ I1 23 i = nI t) → (∀ I', post_X5_writeSaved (wSv (I1 23 s')) I1 I' → post_X5_save I I') → v_X5_save_13 (post_X5_save I) I1 := by
    intro I1 s' hs' e4 ec ht hq
    obtain ⟨t, ht', et⟩ := ht s' hs'
    unfold v_X5_save_13 v_X5_save_42
    rw [e4, i_cl (by omega)]
    refine ⟨not_lt0 (by omega), fun _ => ⟨fun h => absurd h (by simp (disch := omega) only [i_le, i_lt, i_eq, i_add, i_sub, i_mul, i_and31, i_and1, i_shl1, i_shr, nI_or, i_cl, i_inP, i_nt, l_0, l_1, l_2, l_3, l_4, l_5, l_6, l_7, l_8, l_9, l_10, l_12, l_18, l_23, l_25, l_28, l_30, l_31, l_33, l_34, l_35, l_36, l_37, l_40, l_41, l_43, l_44, l_48, l_49, l_50, l_57, l_60, l_63, l_64, l_65, l_69, l_91, l_93, l_97, l_101, l_111, l_125, l_126, l_245, l_294, l_500, l_501, l_9999, l_1000000]; omega), fun _ => ⟨i_in hs' (by decide), ?_, ⟨?_, ⟨s', hs', e4⟩, wSv_ge _⟩, fun I2 h2 => hq I2 h2⟩⟩⟩
    · rw [et, i_cl (by omega)]; exact ht'
    · exact okS_fr (fun c a b => ec c (by omega) (by omega)) h0.1
  have hn : nt (absC I 2 1) = s := by rw [absC_21, es, i_nt (by omega)]
  refine ⟨fun h => ?_, fun h => ⟨⟨h0, ?_⟩, fun I1 h1 => ?_⟩⟩
  · rw [es, l_6, i_lt (by omega) (by decide)] at h
    refine fin I s h es (fun _ _ _ => rfl) h0.2.2.2.1 (fun I' h2 => ?_)
    refine save_core h0 h es (fun _ _ => rfl) (fun _ _ _ => rfl) h0.2.2.2.1 h0.2.2.2.2.1 hsv (fun i hi => ?_) ?_ (fun c hc => ?_) rfl rfl ?_ rfl h2
    · unfold aSv
      rw [if_neg (by omega), if_neg (by omega), if_pos (by omega), if_neg (by omega), absC_4, es, i_nt (by omega), if_pos hi]
    · unfold aSv
      rw [if_neg (by omega), if_neg (by omega), if_pos (by omega), if_pos (by omega)]; rfl
    · unfold aSv
      rw [if_neg (by omega), if_neg (by omega), if_pos (by omega), if_neg (by omega), show c = 4 + (c - 4) by omega, absC_4, es, i_nt (by omega), if_neg (by omega)]
    · unfold aSv
      rw [if_pos rfl, hn, if_pos h]
  · rw [es, l_6, i_lt (by omega) (by decide)] at h
    rw [es]; congr 1; omega
  · rw [es, l_6, i_lt (by omega) (by decide)] at h
    have hs6 : s = 6 := by omega
    obtain ⟨d1, d2, d3, d4, d5⟩ := h1
    have ht1 : ∀ i, i < 6 → ∃ t, t < 6 ∧ I1 23 i = nI t := by
      intro i hi
      by_cases e : i = 5
      · subst e; rw [d2]; exact okC_t h0 (by decide)
      · rw [d1 i (by omega)]; exact okC_t h0 (by omega)
    have hi1 : ∀ i j, i < 6 → j < 6 → I1 23 i = I1 23 j → i = j := by
      intro i j hi hj e
      by_cases ei : i = 5 <;> by_cases ej : j = 5
      · omega
      · subst ei; rw [d2, d1 j (by omega)] at e
        have := h0.2.2.2.2.1 _ _ (by decide) (by omega) e; omega
      · subst ej; rw [d2, d1 i (by omega)] at e
        have := h0.2.2.2.2.1 _ _ (by omega) (by decide) e; omega
      · rw [d1 j (by omega), d1 i (by omega)] at e
        have := h0.2.2.2.2.1 _ _ (by omega) (by omega) e; omega
    refine fin I1 5 (by decide) d3 d5 ht1 (fun I' h2 => ?_)
    refine save_core h0 (by decide) d3 d4 d5 ht1 hi1 (fun i hi => by rw [d1 i hi]; exact hsv _ (by omega)) (fun i hi => ?_) ?_ (fun c hc => ?_) rfl rfl ?_ rfl h2
    · unfold aSv
      rw [if_neg (by omega), if_neg (by omega), if_neg (by omega), if_pos (by omega), show 4 + i + 1 = 4 + (i + 1) by omega, absC_4, es, i_nt (by omega), if_pos (by omega), d1 i hi]
    · unfold aSv
      rw [if_neg (by omega), if_neg (by omega), if_neg (by omega), if_neg (by omega), if_pos rfl]; rfl
    · unfold aSv
      rw [if_neg (by omega), if_neg (by omega), if_neg (by omega), if_neg (by omega), if_neg (by omega), show c = 4 + (c - 4) by omega, absC_4, es, i_nt (by omega), if_neg (by omega)]
    · unfold aSv
      rw [if_pos rfl, hn, if_neg (by omega)]
