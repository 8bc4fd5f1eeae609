theorem vc_X6_clearBuffer (I : wI) (hp : pre_X6_clearBuffer I) : v_X6_clearBuffer I (post_X6_clearBuffer I) := by
  have h0 : okM I := hp
  intro I1 q1 I2 q2
  have ec : ∀ c, c ≠ 111 → I2 c = I c := fun c a => by rw [q2, wU_ne a, q1, wU_ne a]
  have f8 : I2 111 8 = 0 := by rw [q2, wU_at]
  have f0 : I2 111 0 = 0 := by rw [q2, wU_off (Or.inr (by decide)), q1, wU_at]
  have fo : ∀ j, j ≠ 0 → j ≠ 8 → I2 111 j = I 111 j := fun j a b => by rw [q2, wU_off (Or.inr b), q1, wU_off (Or.inr a)]
  have eR : rowM I2 = rowM I := mrow_fr (ec 112 (by decide))
  refine ⟨f0, by rw [q1, wU_off (Or.inr (by decide))]; rfl, ?_, ?_, fun c hc => ec c (by omega)⟩
  · funext c'
    unfold aLen
    by_cases c2 : c' = 2
    · subst c2
      rw [if_pos rfl]
      funext j
      show (if j = 0 then I2 111 6 else if j = 1 then I2 111 4 else if j = 2 then I2 111 8 else 0) = if j = 2 then nI 0 else (if j = 0 then I 111 6 else if j = 1 then I 111 4 else if j = 2 then I 111 8 else 0)
      rw [fo 6 (by decide) (by decide), fo 4 (by decide) (by decide), f8]
      by_cases j2 : j = 2
      · subst j2; rfl
      · rw [if_neg j2, if_neg j2, if_neg j2]
    rw [if_neg c2]
    by_cases c3 : c' = 3
    · subst c3
      rw [if_pos rfl]
      funext j
      show (if j < nt (I2 111 8) then I2 116 j else 0) = if j < 0 then _ else 0
      rw [f8, show nt (0 : Int32) = 0 from rfl, if_neg (Nat.not_lt_zero _), if_neg (Nat.not_lt_zero _)]
    rw [if_neg c3]
    unfold absM
    rw [if_neg c2, if_neg c2, if_neg c3, if_neg c3, fo 6 (by decide) (by decide), fo 4 (by decide) (by decide), eR, rowX_fr (ec 115 (by decide)), rowX_fr (ec 114 (by decide))]
  · obtain ⟨a1, a2, ⟨s, hs, es, a3⟩, a4⟩ := h0
    unfold okM
    rw [fo 6 (by decide) (by decide), fo 4 (by decide) (by decide), eR, rowX_fr (ec 115 (by decide))]
    exact ⟨a1, a2, ⟨s, hs, es, fun i hi => by rw [rowX_fr (ec 114 (by decide))]; exact a3 i hi⟩, 0, by omega, f8, fun j hj => absurd hj (Nat.not_lt_zero _)⟩
theorem vl_X6_keep {I I1 : wI} (q1 : I1 = wU I 111 0 0) (Q : Int32 → wI → Prop) (hQ : ∀ I', (∀ j, j < 49 → I' 115 j = I 112 j) → I' 111 0 = 0 → I' 111 6 = 1 → (∀ j, j ≠ 0 → j ≠ 6 → I' 111 j = I 111 j) → (∀ c, c ≠ 111 → c ≠ 115 → I' c = I c) → Q (I 112 33) I') :
    ∀ (m i : Nat) (I' : wI), i + m = 49 → (∀ j, j < i → I' 115 j = I 112 j) → (∀ c, c ≠ 115 → I' c = I1 c) → v_X6_keep_7 Q (m + 1) (nI i) I'
  | 0, i, I', e, h, hf => by
    obtain rfl : i = 49 := by omega
    refine ⟨fun _ I2 q2 => ⟨by unfold vp_in; decide, ?_⟩, fun h => absurd (Int32.le_refl _) h⟩
    have e112 : I2 112 (33 : Int32).toNatClampNeg = I 112 33 := by
      rw [q2, wU_ne (by decide), hf 112 (by decide), q1, wU_ne (by decide)]; rfl
    rw [e112]
    refine hQ I2 (fun j hj => by rw [q2, wU_ne (by decide)]; exact h j hj) ?_ (by rw [q2, wU_at]) (fun j a b => by rw [q2, wU_off (Or.inr b), hf 111 (by decide), q1, wU_off (Or.inr a)]) (fun c a b => by rw [q2, wU_ne a, hf c b, q1, wU_ne a])
    rw [q2, wU_off (Or.inr (by decide)), hf 111 (by decide), q1, wU_at]
  | m + 1, i, I', e, h, hf => by
    have hi : i < 49 := by omega
    refine ⟨fun h => absurd h (by simp (disch := omega) only [i_le, i_lt, i_eq, i_add, i_sub, i_mul, i_and31, i_and1, i_shl1, i_shr, nI_or, i_cl, i_inP, i_nt, l_0, l_1, l_2, l_3, l_4, l_5, l_6, l_7, l_8, l_9, l_10, l_12, l_18, l_23, l_25, l_28, l_30, l_31, l_33, l_34, l_35, l_36, l_37, l_40, l_41, l_43, l_44, l_48, l_49, l_50, l_57, l_60, l_63, l_64, l_65, l_69, l_91, l_93, l_97, l_101, l_111, l_125, l_126, l_245, l_294, l_500, l_501, l_9999, l_1000000]; omega), fun _ => ⟨i_in hi (by decide), i_in hi (by decide), fun I2 q2 => ?_⟩⟩
    rw [i_cl (by omega), hf 112 (by decide), q1, wU_ne (by decide)] at q2
    rw [i_s]
    refine vl_X6_keep q1 Q hQ m (i + 1) I2 (by omega) (fun j hj => ?_) (fun c hc => by rw [q2, wU_ne hc, hf c hc])
    by_cases c : j = i
    · subst c; rw [q2, wU_at]
    · rw [q2, wU_off (Or.inr c)]; exact h j (by omega)
theorem vc_X6_keep (I : wI) (hp : pre_X6_keep I) : v_X6_keep I (post_X6_keep I) := by
  have h0 : okM I := hp
  intro I1 q1
  refine ⟨50, vl_X6_keep q1 _ (fun I' w1 w2 w3 w4 w5 => ?_) 49 0 I1 rfl (fun _ h => absurd h (Nat.not_lt_zero _)) (fun _ _ => rfl)⟩
  have eR : rowM I' = rowM I := mrow_fr (w5 112 (by decide) (by decide))
  have e115 : rowX 115 0 I' = rowM I := by
    funext j; unfold rowX rowM
    split
    · rename_i h; rw [Nat.zero_add]; exact w1 j h
    · rfl
  refine ⟨w2, (mrow (by decide)).symm, ?_, ?_, fun c hc => w5 c (by omega) (by omega)⟩
  · funext c'
    unfold aKeep
    by_cases c1 : c' = 1
    · subst c1
      rw [if_pos rfl]
      show (if I' 111 6 = 0 then zRow else rowX 115 0 I') = rowM I
      rw [w3, if_neg (by decide), e115]
    rw [if_neg c1]
    by_cases c2 : c' = 2
    · subst c2
      rw [if_pos rfl]
      funext j
      show (if j = 0 then I' 111 6 else if j = 1 then I' 111 4 else if j = 2 then I' 111 8 else 0) = if j = 0 then 1 else (if j = 0 then I 111 6 else if j = 1 then I 111 4 else if j = 2 then I 111 8 else 0)
      rw [w3, w4 4 (by decide) (by decide), w4 8 (by decide) (by decide)]
      by_cases j2 : j = 0
      · rw [if_pos j2, if_pos j2]
      · rw [if_neg j2, if_neg j2, if_neg j2]
    rw [if_neg c2]
    unfold absM
    rw [if_neg c1, if_neg c1, if_neg c2, if_neg c2, w4 4 (by decide) (by decide), w4 8 (by decide) (by decide), eR, w5 116 (by decide) (by decide), rowX_fr (w5 114 (by decide) (by decide))]
  · obtain ⟨a1, a2, ⟨s, hs, es, a3⟩, a4⟩ := h0
    unfold okM
    rw [w3, w4 4 (by decide) (by decide), w4 8 (by decide) (by decide), eR, e115, w5 116 (by decide) (by decide)]
    exact ⟨a1, Or.inr ⟨rfl, a1⟩, ⟨s, hs, es, fun i hi => by rw [rowX_fr (w5 114 (by decide) (by decide))]; exact a3 i hi⟩, a4⟩
theorem vl_X6_goBack {I : wI} (Q : Int32 → wI → Prop) (hQ : ∀ I', rowM I' = rowX 115 0 I → fr1 I I' → Q (rowX 115 0 I 33) I') :
    ∀ (m i : Nat) (I' : wI), i + m = 49 → (∀ j, j < i → I' 112 j = I 115 j) → (∀ j, 49 ≤ j → I' 112 j = I 112 j) → (∀ c, c ≠ 112 → I' c = I c) → v_X6_goBack_31 Q (m + 1) (nI i) I'
  | 0, i, I', e, h, hg, hf => by
    obtain rfl : i = 49 := by omega
    have e1 : rowM I' = rowX 115 0 I := by
      funext j; unfold rowX rowM
      split
      · rename_i h'; rw [Nat.zero_add]; exact h j h'
      · rfl
    refine ⟨fun _ => ⟨by unfold vp_in; decide, ?_⟩, fun h => absurd (Int32.le_refl _) h⟩
    rw [show (33 : Int32).toNatClampNeg = 33 from rfl, mrev I' _ (by decide), e1]
    exact hQ I' e1 ⟨fun c a _ => hf c a, hg⟩
  | m + 1, i, I', e, h, hg, hf => by
    have hi : i < 49 := by omega
    refine ⟨fun h => absurd h (by simp (disch := omega) only [i_le, i_lt, i_eq, i_add, i_sub, i_mul, i_and31, i_and1, i_shl1, i_shr, nI_or, i_cl, i_inP, i_nt, l_0, l_1, l_2, l_3, l_4, l_5, l_6, l_7, l_8, l_9, l_10, l_12, l_18, l_23, l_25, l_28, l_30, l_31, l_33, l_34, l_35, l_36, l_37, l_40, l_41, l_43, l_44, l_48, l_49, l_50, l_57, l_60, l_63, l_64, l_65, l_69, l_91, l_93, l_97, l_101, l_111, l_125, l_126, l_245, l_294, l_500, l_501, l_9999, l_1000000]; omega), fun _ => ⟨i_in hi (by decide), i_in hi (by decide), fun I2 q2 => ?_⟩⟩
    rw [i_cl (by omega), hf 115 (by decide)] at q2
    rw [i_s]
    refine vl_X6_goBack Q hQ m (i + 1) I2 (by omega) (fun j hj => ?_) (fun j hj => by rw [q2, wU_off (Or.inr (by omega))]; exact hg j hj) (fun c hc => by rw [q2, wU_ne hc, hf c hc])
    by_cases c : j = i
    · subst c; rw [q2, wU_at]
    · rw [q2, wU_off (Or.inr c)]; exact h j (by omega)
theorem vc_X6_goBack (I : wI) (hp : pre_X6_goBack I) : v_X6_goBack I (post_X6_goBack I) := by
  have h0 : okM I := hp
  refine ⟨fun h I1 q1 => ?_, fun h I1 q1 => ?_⟩
  · have e0 : I1 111 0 = 1 := by rw [q1, wU_at]
    rw [e0]
    exact ⟨fun h => absurd h (by decide), fun _ => Or.inr ⟨by rw [h]; decide, thr_fin q1⟩⟩
  · have hg : I 111 6 = 1 ∧ okR (rowX 115 0 I) := by
      rcases h0.2.1 with e | e
      · exact absurd e h
      · exact e
    have e1 : absM I 1 = rowX 115 0 I := by
      show (if I 111 6 = 0 then zRow else rowX 115 0 I) = _
      rw [if_neg h]
    have e0 : I1 111 0 = 0 := by rw [q1, wU_at]
    rw [e0]
    refine ⟨fun _ => ?_, fun h => absurd (Int32.le_refl _) h⟩
    have hS1 : frS I I1 := by rw [q1]; exact thr_S I 0
    refine ⟨okM_S hS1 h0, fun I2 g2 => ⟨50, ?_⟩⟩
    have er : rowX 115 0 I2 = rowX 115 0 I := by rw [rowX_fr (g2.2.2.1 115 (by decide) (by decide)), rowX_fr (hS1.1 115 (by decide))]
    refine vl_X6_goBack _ (fun I' w1 w2 => ?_) 49 0 I2 rfl (fun _ h => absurd h (Nat.not_lt_zero _)) (fun _ _ => rfl) (fun _ _ => rfl)
    rw [er] at w1 ⊢
    exact Or.inl ⟨hg.1, by rw [fr1_o w2, rec_0 q1 g2], by rw [e1], by rw [e1]; exact m_use hS1 g2 (fr1_R w2) (fr1_c w2) (by rw [w1]; exact hg.2) w1⟩
theorem vl_X6_undo {I I1 : wI} {t : Nat} (ht : t < 6) (e4 : I1 111 4 = nI t) (Q : Int32 → wI → Prop) (hQ : ∀ I', rowM I' = rowX 114 (49 * t) I1 → fr1 I1 I' → Q (nI t) I') :
    ∀ (m i : Nat) (I' : wI), i + m = 49 → (∀ j, j < i → I' 112 j = I1 114 (49 * t + j)) → (∀ j, 49 ≤ j → I' 112 j = I1 112 j) → (∀ c, c ≠ 112 → I' c = I1 c) → v_X6_undo_37 Q (m + 1) (nI i) I'
  | 0, i, I', e, h, hg, hf => by
    obtain rfl : i = 49 := by omega
    have e1 : rowM I' = rowX 114 (49 * t) I1 := by
      funext j; unfold rowX rowM
      split
      · rename_i h'; exact h j h'
      · rfl
    refine ⟨fun _ => ?_, fun h => absurd (Int32.le_refl _) h⟩
    rw [hf 111 (by decide), e4]
    exact hQ I' e1 ⟨fun c a _ => hf c a, hg⟩
  | m + 1, i, I', e, h, hg, hf => by
    have hi : i < 49 := by omega
    refine ⟨fun h => absurd h (by simp (disch := omega) only [i_le, i_lt, i_eq, i_add, i_sub, i_mul, i_and31, i_and1, i_shl1, i_shr, nI_or, i_cl, i_inP, i_nt, l_0, l_1, l_2, l_3, l_4, l_5, l_6, l_7, l_8, l_9, l_10, l_12, l_18, l_23, l_25, l_28, l_30, l_31, l_33, l_34, l_35, l_36, l_37, l_40, l_41, l_43, l_44, l_48, l_49, l_50, l_57, l_60, l_63, l_64, l_65, l_69, l_91, l_93, l_97, l_101, l_111, l_125, l_126, l_245, l_294, l_500, l_501, l_9999, l_1000000]; omega), fun _ => ?_⟩
    rw [hf 111 (by decide), e4, l_49, i_mul, i_add, i_cl (by omega), i_cl (by omega), i_s]
    refine ⟨i_in (by omega) (by decide), i_in hi (by decide), fun I2 q2 => ?_⟩
    rw [hf 114 (by decide)] at q2
    refine vl_X6_undo (I := I) ht e4 Q hQ m (i + 1) I2 (by omega) (fun j hj => ?_) (fun j hj => by rw [q2, wU_off (Or.inr (by omega))]; exact hg j hj) (fun c hc => by rw [q2, wU_ne hc, hf c hc])
    by_cases c : j = i
    · subst c; rw [q2, wU_at]
    · rw [q2, wU_off (Or.inr c)]; exact h j (by omega)
theorem vc_X6_undo (I : wI) (hp : pre_X6_undo I) : v_X6_undo I (post_X6_undo I) := by
  have h0 : okM I := hp
  refine ⟨fun h I1 q1 => ?_, fun h I1 q1 => ?_⟩
  · obtain ⟨s, hs, es, hsv⟩ := h0.2.2.1
    have hs0 : s ≠ 0 := fun e => h (by rw [es, e]; rfl)
    obtain ⟨t, rfl⟩ : ∃ t, s = t + 1 := ⟨s - 1, by omega⟩
    have e0 : I1 111 0 = 0 := by rw [q1, wU_at]
    have e14 : I1 111 4 = nI (t + 1) := by rw [q1, wU_off (Or.inr (by decide)), es]
    rw [e0, e14]
    refine ⟨fun _ I2 q2 => ⟨50, ?_⟩, fun h => absurd (Int32.le_refl _) h⟩
    rw [l_1, i_sub (by omega), Nat.add_sub_cancel] at q2
    have e4 : I2 111 4 = nI t := by rw [q2, wU_at]
    have ec : ∀ c, c ≠ 111 → I2 c = I c := fun c a => by rw [q2, wU_ne a, q1, wU_ne a]
    have eo : ∀ j, j ≠ 0 → j ≠ 4 → I2 111 j = I 111 j := fun j a b => by rw [q2, wU_off (Or.inr b), q1, wU_off (Or.inr a)]
    have e00 : I2 111 0 = 0 := by rw [q2, wU_off (Or.inr (by decide)), e0]
    refine vl_X6_undo (I := I) (by omega) e4 _ (fun I' w1 w2 => ?_) 49 0 I2 rfl (fun _ h => absurd h (Nat.not_lt_zero _)) (fun _ _ => rfl) (fun _ _ => rfl)
    have hn : nt (absM I 2 1) = t + 1 := by rw [absM_21, es, i_nt (by omega)]
    rw [rowX_fr (ec 114 (by decide))] at w1
    have fc : ∀ c, c ≠ 111 → c ≠ 112 → c ≠ 117 → I' c = I c := fun c a b d => by rw [w2.1 c b d, ec c a]
    have f111 : I' 111 = I2 111 := fr1_o w2
    left
    refine ⟨h, by rw [f111, e00], by rw [hn, Nat.add_sub_cancel], ?_, ?_, fun c hc => fc c (by omega) (by omega) (by omega)⟩
    · funext c'
      unfold aUndo
      rw [hn, show 3 + (t + 1) = 4 + t by omega, Nat.add_sub_cancel]
      by_cases c0 : c' = 0
      · subst c0
        rw [if_pos rfl, absM_4, es, i_nt (by omega), if_pos (by omega)]
        exact w1
      rw [if_neg c0]
      by_cases c2 : c' = 2
      · subst c2
        rw [if_pos rfl]
        funext j
        show (if j = 0 then I' 111 6 else if j = 1 then I' 111 4 else if j = 2 then I' 111 8 else 0) = if j = 1 then nI t else (if j = 0 then I 111 6 else if j = 1 then I 111 4 else if j = 2 then I 111 8 else 0)
        rw [f111, eo 6 (by decide) (by decide), e4, eo 8 (by decide) (by decide)]
        by_cases j2 : j = 1
        · subst j2; rfl
        · rw [if_neg j2, if_neg j2, if_neg j2]
      rw [if_neg c2]
      by_cases c3 : c' = 4 + t
      · subst c3
        rw [if_pos rfl, absM_4, f111, e4, i_nt (by omega), if_neg (by omega)]
      rw [if_neg c3]
      unfold absM
      rw [if_neg c0, if_neg c0, if_neg c2, if_neg c2, f111, eo 6 (by decide) (by decide), e4, es, eo 8 (by decide) (by decide), fc 116 (by decide) (by decide) (by decide), rowX_fr (fc 115 (by decide) (by decide) (by decide)), rowX_fr (fc 114 (by decide) (by decide) (by decide)), i_nt (by omega), i_nt (by omega)]
      by_cases c1 : c' = 1
      · rw [if_pos c1, if_pos c1]
      rw [if_neg c1, if_neg c1]
      by_cases c5 : c' = 3
      · rw [if_pos c5, if_pos c5]
      rw [if_neg c5, if_neg c5]
      by_cases c6 : c' - 4 < t
      · rw [if_pos c6, if_pos (by omega)]
      · rw [if_neg c6, if_neg (by omega)]
    · obtain ⟨a1, a2, _, a4⟩ := h0
      unfold okM
      rw [f111, eo 6 (by decide) (by decide), eo 8 (by decide) (by decide), fc 116 (by decide) (by decide) (by decide), rowX_fr (fc 115 (by decide) (by decide) (by decide)), w1]
      exact ⟨hsv t (by omega), a2, ⟨t, by omega, e4, fun i hi => by rw [rowX_fr (fc 114 (by decide) (by decide) (by decide))]; exact hsv i (by omega)⟩, a4⟩
  · have e0 : I1 111 0 = 1 := by rw [q1, wU_at]
    rw [e0]
    exact ⟨fun h => absurd h (by decide), fun _ => Or.inr ⟨h, thr_fin q1⟩⟩
/-! ===== looks of the model ===== -/
theorem vl_X6_keysAt {I : wI} {p : Nat} (hR : okR (rowM I)) (hp : p < 6) : ∀ m i : Nat, i + m = 5 → v_X6_keysAt_4 (nI p) I (post_X6_keysAt (nI p) I) (m + 1) (nI (bits (fun c => decide (tb (aM (rowM I) c) p = 1)) i)) (nI i)
  | 0, i, e => by
    obtain rfl : i = 5 := by omega
    exact ⟨fun _ => by unfold post_X6_keysAt; rw [i_nt (by omega)]; rfl, fun h => absurd (Int32.le_refl _) h⟩
  | m + 1, i, e => by
    have hi : i < 5 := by omega
    have ih := vl_X6_keysAt hR hp m (i + 1) (by omega)
    rw [bits_succ] at ih
    refine ⟨fun h => absurd h (by simp (disch := omega) only [i_le, i_lt, i_eq, i_add, i_sub, i_mul, i_and31, i_and1, i_shl1, i_shr, nI_or, i_cl, i_inP, i_nt, l_0, l_1, l_2, l_3, l_4, l_5, l_6, l_7, l_8, l_9, l_10, l_12, l_18, l_23, l_25, l_28, l_30, l_31, l_33, l_34, l_35, l_36, l_37, l_40, l_41, l_43, l_44, l_48, l_49, l_50, l_57, l_60, l_63, l_64, l_65, l_69, l_91, l_93, l_97, l_101, l_111, l_125, l_126, l_245, l_294, l_500, l_501, l_9999, l_1000000]; omega), fun _ => ⟨⟨okMk_R hR, ⟨i, hi, rfl⟩, p, hp, rfl⟩, fun r1 q1 => ?_⟩⟩
    unfold post_X6_has at q1
    rw [i_nt (by omega), i_nt (by omega)] at q1
    have hb := tb_lt (aM (rowM I) i) p
    unfold v_X6_keysAt_26
    rw [q1, i_s, l_0, i_eq (by omega) (by decide), show (31 : Int32) = nI 31 from rfl, i_and31 (by omega), l_1, i_shl1 (by omega), nI_or, nI_or, Nat.or_zero]
    refine ⟨fun z => ?_, fun z => ?_⟩
    · rw [decide_eq_false (show ¬ tb (aM (rowM I) i) p = 1 by omega), if_neg (by decide)] at ih; exact ih
    · rw [decide_eq_true (show tb (aM (rowM I) i) p = 1 by omega), if_pos rfl] at ih; exact ih
theorem vc_X6_keysAt (x1 : Int32) (I : wI) (hp : pre_X6_keysAt x1 I) : v_X6_keysAt x1 I (post_X6_keysAt x1 I) := by
  obtain ⟨hR, p, hp, rfl⟩ := hp
  exact ⟨6, vl_X6_keysAt hR hp 5 0 rfl⟩
theorem vc_X6_atNow (x1 x2 : Int32) (I : wI) (hp : pre_X6_atNow x1 x2 I) : v_X6_atNow x1 x2 I (post_X6_atNow x1 x2 I) := by
  obtain ⟨hR, ⟨p, hp, rfl⟩, w, hw, rfl⟩ := hp
  unfold v_X6_atNow v_X6_atNow_74 post_X6_atNow aAt
  rw [i_nt (show p < 2147483648 by omega), i_nt (show w < 2147483648 by omega), show (0 : Int32) + nI p = nI p by rw [l_0, i_add, Nat.zero_add], show (6 : Int32) + nI p = nI (6 + p) by rw [l_6, i_add], show (12 : Int32) + nI p = nI (12 + p) by rw [l_12, i_add], i_cl (show p < 2147483648 by omega), i_cl (show 6 + p < 2147483648 by omega), i_cl (show 12 + p < 2147483648 by omega), mrev I _ (show p < 49 by omega), mrev I _ (show 6 + p < 49 by omega), mrev I _ (show 12 + p < 49 by omega)]
  refine ⟨fun h => ?_, fun h => ?_, fun h => ?_, fun h => ?_, fun h => ?_⟩
  · obtain rfl : w = 0 := nI_inj (by omega) (by decide) h
    exact ⟨i_in (by omega) (by decide), rfl⟩
  · obtain rfl : w = 1 := nI_inj (by omega) (by decide) h
    exact ⟨i_in (by omega) (by decide), rfl⟩
  · obtain rfl : w = 2 := nI_inj (by omega) (by decide) h
    exact ⟨i_in (by omega) (by decide), rfl⟩
  · obtain rfl : w = 3 := nI_inj (by omega) (by decide) h
    refine ⟨⟨p, hp, rfl⟩, fun r1 h1 => ?_⟩
    unfold post_X6_isRight at h1
    rw [i_nt (by omega)] at h1
    rw [if_neg (by decide), if_neg (by decide), if_neg (by decide), if_pos rfl]
    rcases h1 with ⟨h1, rfl⟩ | ⟨h1, rfl⟩
    · exact ⟨fun z => absurd z (by decide), fun _ => (if_pos h1).symm⟩
    · exact ⟨fun _ => (if_neg h1).symm, fun z => absurd rfl z⟩
  · obtain rfl : w = 4 := by
      have : w = 0 ∨ w = 1 ∨ w = 2 ∨ w = 3 ∨ w = 4 := by omega
      rcases this with rfl | rfl | rfl | rfl | rfl
      · exact absurd rfl h.1
      · exact absurd rfl h.2.1
      · exact absurd rfl h.2.2.1
      · exact absurd rfl h.2.2.2
      · rfl
    refine ⟨⟨hR, p, hp, rfl⟩, fun r2 h2 => ?_⟩
    unfold post_X6_keysAt at h2
    rw [i_nt (by omega)] at h2
    exact h2
theorem thr_use {I I1 : wI} {k : Int32} (q1 : I1 = wU I 111 0 k) : I1 111 0 = k ∧ frS I I1 ∧ rowM I1 = rowM I := by
  subst q1; exact ⟨wU_at, thr_S I k, mrow_fr (wU_ne (by decide))⟩
theorem vc_X6_at (x1 x2 : Int32) (I : wI) (hp : pre_X6_at x1 x2 I) : v_X6_at x1 x2 I (post_X6_at x1 x2 I) := by
  have h0 : okM I := hp
  have e4 := in_iff (n := 4) (x := x2) (by decide)
  refine ⟨trivial, fun r1 h1 => ?_⟩
  rcases h1 with ⟨hk, rfl⟩ | ⟨hk, rfl⟩
  · refine ⟨fun _ => ⟨trivial, fun r2 h2 => ?_⟩, fun h => absurd h (by decide)⟩
    rcases h2 with ⟨hs, rfl⟩ | ⟨hs, rfl⟩
    · refine ⟨fun h => absurd h (by decide), fun _ I1 q1 => ?_⟩
      obtain ⟨e0, hS, eR⟩ := thr_use q1
      rw [e0]
      refine ⟨fun _ => ⟨⟨by rw [eR]; exact h0.1, hk, e4.1 hs⟩, fun r2 h2 => ?_⟩, fun h => absurd (Int32.le_refl _) h⟩
      unfold post_X6_atNow at h2
      rw [eR] at h2
      exact Or.inl ⟨⟨hk, e4.1 hs⟩, thr_fin q1, h2⟩
    · refine ⟨fun _ I1 q1 => ?_, fun h => absurd rfl h⟩
      obtain ⟨e0, hS, eR⟩ := thr_use q1
      rw [e0]
      exact ⟨fun h => absurd h (by decide), fun _ => Or.inr (Or.inr ⟨hk, fun q => hs (e4.2 q), thr_fin q1⟩)⟩
  · refine ⟨fun h => absurd rfl h, fun _ I1 q1 => ?_⟩
    obtain ⟨e0, hS, eR⟩ := thr_use q1
    rw [e0]
    exact ⟨fun h => absurd h (by decide), fun _ => Or.inr (Or.inl ⟨hk, thr_fin q1⟩)⟩
theorem vl_X6_reach {I : wI} (h : okR (rowM I)) : ∀ m i : Nat, i + m = 6 → v_X6_reach_4 I (post_X6_reach I) (m + 1) (nI (bits (rcB (aD (rowM I)) (aN (rowM I))) i)) (nI i)
  | 0, i, e => by
    obtain rfl : i = 6 := by omega
    exact ⟨fun _ => rfl, fun h => absurd (Int32.le_refl _) h⟩
  | m + 1, i, e => by
    have hi : i < 6 := by omega
    have ih := vl_X6_reach h m (i + 1) (by omega)
    rw [bits_succ] at ih
    have hd := okR_d h i hi
    have hn := okR_n h i hi
    refine ⟨fun h => absurd h (by simp (disch := omega) only [i_le, i_lt, i_eq, i_add, i_sub, i_mul, i_and31, i_and1, i_shl1, i_shr, nI_or, i_cl, i_inP, i_nt, l_0, l_1, l_2, l_3, l_4, l_5, l_6, l_7, l_8, l_9, l_10, l_12, l_18, l_23, l_25, l_28, l_30, l_31, l_33, l_34, l_35, l_36, l_37, l_40, l_41, l_43, l_44, l_48, l_49, l_50, l_57, l_60, l_63, l_64, l_65, l_69, l_91, l_93, l_97, l_101, l_111, l_125, l_126, l_245, l_294, l_500, l_501, l_9999, l_1000000]; omega), fun _ => ⟨by rw [l_0, i_add]; exact i_in (by omega) (by decide), ?_⟩⟩
    unfold v_X6_reach_35 v_X6_reach_42
    rw [i_s, show (0 : Int32) + nI i = nI i by rw [l_0, i_add, Nat.zero_add], i_cl (by omega), mr_d h hi, l_6, i_add, i_cl (by omega), mr_n h hi, i_eq (by omega) (by omega), l_0, i_eq (by omega) (by omega), show (31 : Int32) = nI 31 from rfl, i_and31 (by omega), l_1, i_shl1 (by omega), nI_or, nI_or, Nat.or_zero]
    unfold rcB at ih
    refine ⟨fun c => ?_, fun c => ⟨i_in (by omega) (by decide), fun c2 => ?_, fun c2 => ?_⟩⟩
    · rw [decide_eq_true (Or.inl c), if_pos rfl] at ih; exact ih
    · rw [decide_eq_false (fun q => by rcases q with q | q <;> contradiction), if_neg (by decide)] at ih; exact ih
    · rw [decide_eq_true (Or.inr c2), if_pos rfl] at ih; exact ih
theorem vc_X6_reach (I : wI) (hp : pre_X6_reach I) : v_X6_reach I (post_X6_reach I) := ⟨7, vl_X6_reach hp 6 0 rfl⟩
theorem vl_X6_common (I : wI) (x y : Int32) {g : Nat} (hg : post_X6_common x y I (nI g)) : ∀ (f a b : Nat), a < 1000000 → b < f → b < 1000000 → Nat.gcd a b = g → v_X6_common_4 x y I (post_X6_common x y I) f (nI a) (nI b)
  | 0, a, b, _, h, _, _ => absurd h (Nat.not_lt_zero _)
  | f + 1, a, b, ha, hb, hb2, e => by
    show g_X6_common_4 ..
    unfold g_X6_common_4
    rw [l_0, i_le (by omega) (by decide), i_eq (by omega) (by decide)]
    refine ⟨fun z => ?_, fun z => ⟨by omega, ?_⟩⟩
    · rw [show b = 0 by omega, Nat.gcd_zero_right] at e
      rw [e]; exact hg
    · have hm := Nat.mod_lt a (show 0 < b by omega)
      rw [i_rem (by omega) (by omega) (by omega)]
      refine vl_X6_common I x y hg f b (a % b) hb2 (by omega) (by omega) ?_
      rw [← e, Nat.gcd_comm a b, Nat.gcd_rec b a, Nat.gcd_comm]
theorem vc_X6_common (x0 x1 : Int32) (I : wI) (hp : pre_X6_common x0 x1 I) : v_X6_common x0 x1 I (post_X6_common x0 x1 I) := by
  obtain ⟨⟨a, ha, rfl⟩, b, hb, rfl⟩ := hp
  exact ⟨b + 1, vl_X6_common I _ _ (g := Nat.gcd a b) (by unfold post_X6_common; rw [i_nt (by omega), i_nt (by omega)]) (b + 1) a b ha (by omega) hb rfl⟩
theorem vl_X6_stuckPlaces {I : wI} (h : okR (rowM I)) : ∀ m i : Nat, i + m = 6 → v_X6_stuckPlaces_4 I (post_X6_stuckPlaces I) (m + 1) (nI (sm (fun p => nt (rowM I (12 + p))) i)) (nI i)
  | 0, i, e => by
    obtain rfl : i = 6 := by omega
    exact ⟨fun _ => rfl, fun h => absurd (Int32.le_refl _) h⟩
  | m + 1, i, e => by
    have hi : i < 6 := by omega
    have ih := vl_X6_stuckPlaces h m (i + 1) (by omega)
    rw [sm_succ] at ih
    have hz : rowM I (12 + i) = nI (nt (rowM I (12 + i))) := by
      rcases h.2.2.1 i hi with e | e <;> rw [e] <;> rfl
    refine ⟨fun h => absurd h (by simp (disch := omega) only [i_le, i_lt, i_eq, i_add, i_sub, i_mul, i_and31, i_and1, i_shl1, i_shr, nI_or, i_cl, i_inP, i_nt, l_0, l_1, l_2, l_3, l_4, l_5, l_6, l_7, l_8, l_9, l_10, l_12, l_18, l_23, l_25, l_28, l_30, l_31, l_33, l_34, l_35, l_36, l_37, l_40, l_41, l_43, l_44, l_48, l_49, l_50, l_57, l_60, l_63, l_64, l_65, l_69, l_91, l_93, l_97, l_101, l_111, l_125, l_126, l_245, l_294, l_500, l_501, l_9999, l_1000000]; omega), fun _ => ⟨by rw [l_12, i_add]; exact i_in (by omega) (by decide), ?_⟩⟩
    rw [i_s, l_12, i_add, i_cl (by omega), mrev I _ (by omega), hz, i_add]
    rw [← hz] at *
    exact ih
theorem vc_X6_stuckPlaces (I : wI) (hp : pre_X6_stuckPlaces I) : v_X6_stuckPlaces I (post_X6_stuckPlaces I) := ⟨7, vl_X6_stuckPlaces hp 6 0 rfl⟩
theorem vc_X6_countNow (x1 : Int32) (I : wI) (hp : pre_X6_countNow x1 I) : v_X6_countNow x1 I (post_X6_countNow x1 I) := by
  obtain ⟨h0, w, hw, rfl⟩ := hp
  have hR := h0.1
  unfold v_X6_countNow v_X6_countNow_95 post_X6_countNow aCnt
  rw [i_nt (by omega), show absM I 0 = rowM I from rfl]
  refine ⟨fun h => ?_, fun h => ?_, fun h => ?_, fun h => ?_, fun h => ?_, fun h => ?_, fun h => ?_, fun h => ?_, fun h => ?_, fun h => ?_⟩
  · obtain rfl : w = 0 := nI_inj (by omega) (by decide) h
    exact ⟨by unfold vp_in; decide, (mrow (by decide)).symm⟩
  · obtain rfl : w = 1 := nI_inj (by omega) (by decide) h
    refine ⟨hR, fun r h => ?_⟩
    have hs : aNS (rowM I) ≤ 6 * 4 := sm_le (fun p hp => Nat.le_of_lt_succ (okR_n hR p hp))
    unfold post_X6_notches at h
    rw [h, l_5, i_rem (by omega) (by decide) (by decide)]; rfl
  · obtain rfl : w = 2 := nI_inj (by omega) (by decide) h
    exact ⟨by unfold vp_in; decide, (mrow (by decide)).symm⟩
  · obtain rfl : w = 3 := nI_inj (by omega) (by decide) h
    refine ⟨hR, fun r h => ?_⟩
    unfold post_X6_away at h
    have := pc6_le (aRc (rowM I))
    rw [h, l_6, i_sub this]; rfl
  · obtain rfl : w = 4 := nI_inj (by omega) (by decide) h
    refine ⟨hR, fun r h => ?_⟩
    unfold post_X6_opens at h
    rw [if_neg (by decide), if_neg (by decide), if_neg (by decide), if_neg (by decide), if_pos rfl]
    refine ⟨fun z => ?_, fun z => ?_⟩
    · rw [if_neg]; intro q
      rw [if_pos q] at h; rw [h] at z; exact absurd z (by decide)
    · rw [if_pos]
      apply Decidable.byContradiction; intro q
      rw [if_neg q] at h; exact z h
  · obtain rfl : w = 5 := nI_inj (by omega) (by decide) h
    exact ⟨hR, fun r h => h⟩
  · obtain rfl : w = 6 := nI_inj (by omega) (by decide) h
    exact ⟨hR, fun r h => h⟩
  · obtain rfl : w = 7 := nI_inj (by omega) (by decide) h
    exact ⟨hR, fun r h => h⟩
  · obtain rfl : w = 8 := nI_inj (by omega) (by decide) h
    exact ⟨by unfold vp_in; decide, (mrow (by decide)).symm⟩
  · obtain rfl : w = 9 := by
      have : w = 0 ∨ w = 1 ∨ w = 2 ∨ w = 3 ∨ w = 4 ∨ w = 5 ∨ w = 6 ∨ w = 7 ∨ w = 8 ∨ w = 9 := by omega
      rcases this with rfl | rfl | rfl | rfl | rfl | rfl | rfl | rfl | rfl | rfl
      · exact absurd rfl h.1
      · exact absurd rfl h.2.1
      · exact absurd rfl h.2.2.1
      · exact absurd rfl h.2.2.2.1
      · exact absurd rfl h.2.2.2.2.1
      · exact absurd rfl h.2.2.2.2.2.1
      · exact absurd rfl h.2.2.2.2.2.2.1
      · exact absurd rfl h.2.2.2.2.2.2.2.1
      · exact absurd rfl h.2.2.2.2.2.2.2.2
      · rfl
    rfl
theorem vc_X6_count (x1 : Int32) (I : wI) (hp : pre_X6_count x1 I) : v_X6_count x1 I (post_X6_count x1 I) := by
  have h0 : okM I := hp
  have e9 := in_iff (n := 9) (x := x1) (by decide)
  refine ⟨trivial, fun r1 h1 => ?_⟩
  rcases h1 with ⟨hk, rfl⟩ | ⟨hk, rfl⟩
  · refine ⟨fun h => absurd h (by decide), fun _ I1 q1 => ?_⟩
    obtain ⟨e0, hS, eR⟩ := thr_use q1
    rw [e0]
    refine ⟨fun _ => ⟨⟨okM_S hS h0, e9.1 hk⟩, fun r2 h2 => ?_⟩, fun h => absurd (Int32.le_refl _) h⟩
    unfold post_X6_countNow at h2
    rw [absM_S hS] at h2
    exact Or.inl ⟨e9.1 hk, thr_fin q1, h2⟩
  · refine ⟨fun _ I1 q1 => ?_, fun h => absurd rfl h⟩
    obtain ⟨e0, hS, eR⟩ := thr_use q1
    rw [e0]
    exact ⟨fun h => absurd h (by decide), fun _ => Or.inr ⟨fun q => hk (e9.2 q), thr_fin q1⟩⟩
