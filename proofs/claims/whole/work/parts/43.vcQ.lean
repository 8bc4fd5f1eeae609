/-! ===== the model as a whole ===== -/
theorem rowX_fr {c o : Nat} {I I' : wI} (h : I' c = I c) : rowX c o I' = rowX c o I := by unfold rowX; rw [h]
/-- the row, what has been thrown, and scratch -/
def frR (I I' : wI) : Prop := (∀ c, c < 111 ∨ c = 114 ∨ c = 115 ∨ c = 116 ∨ 123 < c → I' c = I c) ∧ I' 111 4 = I 111 4 ∧ I' 111 6 = I 111 6 ∧ I' 111 8 = I 111 8
theorem frS_R {I I' : wI} (h : frS I I') : frR I I' := ⟨fun c hc => h.1 c (by omega), h.2⟩
theorem frR_trans {I I' I2 : wI} (h : frR I I') (h2 : frR I' I2) : frR I I2 := ⟨fun c hc => by rw [h2.1 c hc, h.1 c hc], by rw [h2.2.1, h.2.1], by rw [h2.2.2.1, h.2.2.1], by rw [h2.2.2.2, h.2.2.2]⟩
theorem frS_trans {I I' I2 : wI} (h : frS I I') (h2 : frS I' I2) : frS I I2 := ⟨fun c hc => by rw [h2.1 c hc, h.1 c hc], by rw [h2.2.1, h.2.1], by rw [h2.2.2.1, h.2.2.1], by rw [h2.2.2.2, h.2.2.2]⟩
theorem frS_refl (I : wI) : frS I I := ⟨fun _ _ => rfl, rfl, rfl, rfl⟩
theorem absM_R {I I' : wI} (h : frR I I') : absM I' = aNow (absM I) (rowM I') := by
  obtain ⟨h1, h4, h6, h8⟩ := h
  funext c
  unfold absM aNow
  rw [h4, h6, h8, h1 116 (by omega), rowX_fr (h1 115 (by omega)), rowX_fr (h1 114 (by omega))]
  by_cases c0 : c = 0
  · rw [if_pos c0, if_pos c0]
  · rw [if_neg c0, if_neg c0]
    dsimp only
    rw [if_neg c0]
theorem okM_R {I I' : wI} (h : frR I I') (h0 : okM I) (hR : okR (rowM I')) : okM I' := by
  obtain ⟨h1, h4, h6, h8⟩ := h
  obtain ⟨a1, a2, ⟨s, hs, es, a3⟩, a4⟩ := h0
  unfold okM
  rw [h4, h6, h8, h1 116 (by omega), rowX_fr (h1 115 (by omega))]
  exact ⟨hR, a2, ⟨s, hs, es, fun i hi => by rw [rowX_fr (h1 114 (by omega))]; exact a3 i hi⟩, a4⟩
theorem aNow_0 (A : Nat → Nat → Int32) : aNow A (A 0) = A := by
  funext c; unfold aNow
  split
  · rename_i h; rw [h]
  · rfl
theorem frS_row {I I' : wI} (h : frS I I') : rowM I' = rowM I := mrow_fr (h.1 112 (by omega))
theorem absM_S {I I' : wI} (h : frS I I') : absM I' = absM I := by
  rw [absM_R (frS_R h), frS_row h]; exact aNow_0 _
theorem okM_S {I I' : wI} (h : frS I I') (h0 : okM I) : okM I' := okM_R (frS_R h) h0 (by rw [frS_row h]; exact h0.1)
theorem fr1_R {I I' : wI} (h : fr1 I I') : frR I I' := ⟨fun c hc => h.1 c (by omega) (by omega), by rw [h.1 111 (by omega) (by omega)], by rw [h.1 111 (by omega) (by omega)], by rw [h.1 111 (by omega) (by omega)]⟩
theorem absM_4 {I : wI} {c : Nat} : absM I (4 + c) = if c < nt (I 111 4) then rowX 114 (49 * c) I else zRow := by
  unfold absM
  rw [if_neg (by omega), if_neg (by omega), if_neg (by omega), if_neg (by omega), show 4 + c - 4 = c by omega]
theorem absM_21 {I : wI} : absM I 2 1 = I 111 4 := rfl
theorem absM_22 {I : wI} : absM I 2 2 = I 111 8 := rfl
theorem thr_S (I : wI) (k : Int32) : frS I (wU I 111 0 k) := ⟨fun c hc => wU_ne (by omega), wU_off (Or.inr (by omega)), wU_off (Or.inr (by omega)), wU_off (Or.inr (by omega))⟩
theorem rec_row {I I' : wI} (h : post_X6_record I I') : rowM I' = rowM I := mrow_fr (h.2.2.1 112 (by decide) (by decide))
/-- recorded, then the row changed -/
theorem m_use {I I1 I2 I3 : wI} (h1 : frS I I1) (h2 : post_X6_record I1 I2) (h3 : frR I2 I3) (h4 : ∀ c, c < 111 ∨ 123 < c → I3 c = I2 c) (hR : okR (rowM I3)) {a : Nat → Int32} (e : rowM I3 = a) : okQ I I3 (aNow (aSv (absM I)) a) := by
  refine ⟨by rw [absM_R h3, h2.1, absM_S h1, e], okM_R h3 h2.2.1 hR, fun c hc => by rw [h4 c hc, h2.2.2.1 c (by omega) (by omega), h1.1 c (by omega)]⟩
/-! ===== recording ===== -/
theorem vl_X6_record_51 {I0 I1 : wI} {s : Nat} {Q : wI → Prop} (hs : s < 6) (e4 : I1 111 4 = nI s) (e112 : I1 112 = I0 112)
    (hQ : ∀ I', (∀ j, j < 49 → I' 114 (49 * s + j) = I0 112 j) → (∀ j, j < 49 * s ∨ 49 * s + 49 ≤ j → I' 114 j = I1 114 j) → I' 111 4 = nI (s + 1) → (∀ j, j ≠ 4 → I' 111 j = I1 111 j) → (∀ c, c ≠ 111 → c ≠ 114 → I' c = I1 c) → Q I') :
    ∀ (m i : Nat) (I' : wI), i + m = 49 → (∀ j, j < i → I' 114 (49 * s + j) = I0 112 j) → (∀ j, j < 49 * s ∨ 49 * s + i ≤ j → I' 114 j = I1 114 j) → (∀ c, c ≠ 114 → I' c = I1 c) → v_X6_record_51 Q (m + 1) (nI i) I'
  | 0, i, I', e, h, hg, hf => by
    obtain rfl : i = 49 := by omega
    refine ⟨fun _ I2 q2 => ?_, fun h => absurd (Int32.le_refl _) h⟩
    rw [hf 111 (by decide), e4, i_s] at q2
    subst q2
    exact hQ _ (fun j hj => by rw [wU_ne (by decide)]; exact h j hj) (fun j hj => by rw [wU_ne (by decide)]; exact hg j hj) wU_at (fun j hj => by rw [wU_off (Or.inr hj), hf 111 (by decide)]) (fun c c1 c2 => by rw [wU_ne c1, hf c c2])
  | m + 1, i, I', e, h, hg, hf => by
    have hi : i < 49 := by omega
    refine ⟨fun h => absurd h (by simp (disch := omega) only [i_le, i_lt, i_eq, i_add, i_sub, i_mul, i_and31, i_and1, i_shl1, i_shr, nI_or, i_cl, i_inP, i_nt, l_0, l_1, l_2, l_3, l_4, l_5, l_6, l_7, l_8, l_9, l_10, l_12, l_18, l_23, l_25, l_28, l_30, l_31, l_33, l_34, l_35, l_36, l_37, l_40, l_41, l_43, l_44, l_48, l_49, l_50, l_57, l_60, l_63, l_64, l_65, l_69, l_91, l_93, l_97, l_101, l_111, l_125, l_126, l_245, l_294, l_500, l_501, l_9999, l_1000000]; omega), fun _ => ⟨i_in hi (by decide), ?_⟩⟩
    rw [hf 111 (by decide), e4, l_49, i_mul, i_add, i_cl (by omega), i_cl (by omega), i_s]
    refine ⟨i_in (by omega) (by decide), fun I2 q2 => ?_⟩
    rw [hf 112 (by decide), e112] at q2
    subst q2
    refine vl_X6_record_51 hs e4 e112 hQ m (i + 1) _ (by omega) (fun j hj => ?_) (fun j hj => by rw [wU_off (Or.inr (by omega))]; exact hg j (by omega)) (fun c hc => by rw [wU_ne hc, hf c hc])
    by_cases c : j = i
    · subst c; exact wU_at
    · rw [wU_off (Or.inr (by omega))]; exact h j (by omega)
theorem vl_X6_record_11 {I : wI} {Q : wI → Prop} (e4 : I 111 4 = nI 6)
    (hQ : ∀ I', (∀ j, j < 245 → I' 114 j = I 114 (49 + j)) → I' 111 4 = nI 5 → (∀ j, j ≠ 4 → I' 111 j = I 111 j) → (∀ c, c ≠ 111 → c ≠ 114 → I' c = I c) → v_X6_record_49 Q I') :
    ∀ (m i : Nat) (I' : wI), i + m = 245 → (∀ j, j < i → I' 114 j = I 114 (49 + j)) → (∀ j, i ≤ j → I' 114 j = I 114 j) → (∀ c, c ≠ 114 → I' c = I c) → v_X6_record_11 Q (m + 1) (nI i) I'
  | 0, i, I', e, h, hg, hf => by
    obtain rfl : i = 245 := by omega
    refine ⟨fun _ I2 q2 => ?_, fun h => absurd (Int32.le_refl _) h⟩
    rw [hf 111 (by decide), e4, l_1, i_sub (by decide)] at q2
    subst q2
    exact hQ _ (fun j hj => by rw [wU_ne (by decide)]; exact h j hj) wU_at (fun j hj => by rw [wU_off (Or.inr hj), hf 111 (by decide)]) (fun c c1 c2 => by rw [wU_ne c1, hf c c2])
  | m + 1, i, I', e, h, hg, hf => by
    have hi : i < 245 := by omega
    refine ⟨fun h => absurd h (by simp (disch := omega) only [i_le, i_lt, i_eq, i_add, i_sub, i_mul, i_and31, i_and1, i_shl1, i_shr, nI_or, i_cl, i_inP, i_nt, l_0, l_1, l_2, l_3, l_4, l_5, l_6, l_7, l_8, l_9, l_10, l_12, l_18, l_23, l_25, l_28, l_30, l_31, l_33, l_34, l_35, l_36, l_37, l_40, l_41, l_43, l_44, l_48, l_49, l_50, l_57, l_60, l_63, l_64, l_65, l_69, l_91, l_93, l_97, l_101, l_111, l_125, l_126, l_245, l_294, l_500, l_501, l_9999, l_1000000]; omega), fun _ => ?_⟩
    rw [l_49, i_add, i_cl (by omega), i_cl (by omega), i_s]
    refine ⟨i_in (by omega) (by decide), i_in (by omega) (by decide), fun I2 q2 => ?_⟩
    rw [hg _ (by omega)] at q2
    subst q2
    refine vl_X6_record_11 e4 hQ m (i + 1) _ (by omega) (fun j hj => ?_) (fun j hj => by rw [wU_off (Or.inr (by omega))]; exact hg j (by omega)) (fun c hc => by rw [wU_ne hc, hf c hc])
    by_cases c : j = i
    · subst c; exact wU_at
    · rw [wU_off (Or.inr c)]; exact h j (by omega)
theorem rec_core {I I' : wI} {s : Nat} {A' : Nat → Nat → Int32} (h0 : okM I) (hs : s < 6) (f4 : I' 111 4 = nI (s + 1)) (f0 : ∀ j, j ≠ 4 → I' 111 j = I 111 j) (fc : ∀ c, c ≠ 111 → c ≠ 114 → I' c = I c)
    (hA : ∀ i, i < s → A' (4 + i) = rowX 114 (49 * i) I' ∧ okR (A' (4 + i))) (hz : ∀ c, 4 + s < c → A' c = zRow) (hA0 : A' (4 + s) = rowM I) (hw : ∀ j, j < 49 → I' 114 (49 * s + j) = I 112 j)
    (b0 : A' 0 = absM I 0) (b1 : A' 1 = absM I 1) (b2 : A' 2 = fun j => if j = 1 then nI (s + 1) else absM I 2 j) (b3 : A' 3 = absM I 3) : absM I' = A' ∧ okM I' ∧ (∀ c, c ≠ 111 → c ≠ 114 → I' c = I c) ∧ ∀ j, j ≠ 4 → I' 111 j = I 111 j := by
  have eM : rowM I' = rowM I := mrow_fr (fc 112 (by decide) (by decide))
  have eS : rowX 114 (49 * s) I' = rowM I := by
    funext j; unfold rowX rowM
    split
    · rename_i h; exact hw j h
    · rfl
  refine ⟨?_, ?_, fc, f0⟩
  · funext c
    by_cases c0 : c = 0
    · subst c0; rw [b0]; exact eM
    by_cases c1 : c = 1
    · subst c1; rw [b1]
      show (if I' 111 6 = 0 then zRow else rowX 115 0 I') = if I 111 6 = 0 then zRow else rowX 115 0 I
      rw [f0 6 (by decide), rowX_fr (fc 115 (by decide) (by decide))]
    by_cases c2 : c = 2
    · subst c2; rw [b2]
      funext j
      show (if j = 0 then I' 111 6 else if j = 1 then I' 111 4 else if j = 2 then I' 111 8 else 0) = if j = 1 then nI (s + 1) else (if j = 0 then I 111 6 else if j = 1 then I 111 4 else if j = 2 then I 111 8 else 0)
      rw [f0 6 (by decide), f4, f0 8 (by decide)]
      by_cases j1 : j = 1
      · subst j1; rfl
      · rw [if_neg j1, if_neg j1, if_neg j1]
    by_cases c3 : c = 3
    · subst c3; rw [b3]
      funext j
      show (if j < nt (I' 111 8) then I' 116 j else 0) = if j < nt (I 111 8) then I 116 j else 0
      rw [f0 8 (by decide), fc 116 (by decide) (by decide)]
    obtain ⟨i, rfl⟩ : ∃ i, c = 4 + i := ⟨c - 4, by omega⟩
    rw [absM_4, f4, i_nt (by omega)]
    by_cases c5 : i < s
    · rw [if_pos (by omega), (hA i c5).1]
    by_cases c6 : i = s
    · subst c6; rw [if_pos (by omega), eS, hA0]
    · rw [if_neg (by omega), hz _ (by omega)]
  · obtain ⟨a1, a2, _, a4⟩ := h0
    unfold okM
    rw [f0 6 (by decide), f0 8 (by decide), fc 116 (by decide) (by decide), rowX_fr (fc 115 (by decide) (by decide)), eM]
    refine ⟨a1, a2, ⟨s + 1, by omega, f4, fun i hi => ?_⟩, a4⟩
    by_cases c6 : i = s
    · subst c6; rw [eS]; exact a1
    · have := hA i (by omega)
      rw [← this.1]; exact this.2
theorem vc_X6_record (I : wI) (hp : pre_X6_record I) : v_X6_record I (post_X6_record I) := by
  have h0 : okM I := hp
  obtain ⟨s, hs, es, hsv⟩ := h0.2.2.1
  have hn : nt (absM I 2 1) = s := by rw [absM_21, es, i_nt (by omega)]
  rw [show v_X6_record I (post_X6_record I) = (((¬ (I 111 4) = 6) → (v_X6_record_49 (post_X6_record I) I)) ∧ (((I 111 4) = 6) → (∃ f : Nat, v_X6_record_11 (post_X6_record I) f 0 I))) from rfl, es, l_6, i_eq (by omega) (by decide)]
  refine ⟨fun h => ⟨50, ?_⟩, fun h => ?_⟩
  · refine vl_X6_record_51 (I0 := I) (I1 := I) (s := s) (by omega) es rfl (fun I' w1 w2 w3 w4 w5 => ?_) 49 0 I rfl (fun _ h => absurd h (Nat.not_lt_zero _)) (fun _ _ => rfl) (fun _ _ => rfl)
    refine rec_core h0 (show s < 6 by omega) w3 w4 w5 (fun i hi => ?_) (fun c hc => ?_) ?_ w1 rfl rfl ?_ rfl
    · have eX : rowX 114 (49 * i) I' = rowX 114 (49 * i) I := by
        funext j; unfold rowX
        split
        · rw [w2 _ (by omega)]
        · rfl
      have : aSv (absM I) (4 + i) = rowX 114 (49 * i) I := by
        unfold aSv
        rw [if_neg (by omega), if_neg (by omega), if_pos (by omega), if_neg (by omega), absM_4, es, i_nt (by omega), if_pos hi]
      rw [this, eX]
      exact ⟨rfl, hsv i hi⟩
    · unfold aSv
      rw [if_neg (by omega), if_neg (by omega), if_pos (by omega), if_neg (by omega), show c = 4 + (c - 4) by omega, absM_4, es, i_nt (by omega), if_neg (by omega)]
    · unfold aSv
      rw [if_neg (by omega), if_neg (by omega), if_pos (by omega), if_pos (by omega)]; rfl
    · unfold aSv
      rw [if_pos rfl, hn, if_pos (by omega)]
  · subst h
    refine ⟨246, vl_X6_record_11 es (fun I1 d1 d2 d3 d4 => ⟨50, ?_⟩) 245 0 I rfl (fun _ h => absurd h (Nat.not_lt_zero _)) (fun _ _ => rfl) (fun _ _ => rfl)⟩
    refine vl_X6_record_51 (I0 := I) (I1 := I1) (s := 5) (by decide) d2 (d4 112 (by decide) (by decide)) (fun I' w1 w2 w3 w4 w5 => ?_) 49 0 I1 rfl (fun _ h => absurd h (Nat.not_lt_zero _)) (fun _ _ => rfl) (fun _ _ => rfl)
    refine rec_core h0 (show 5 < 6 by decide) w3 (fun j hj => by rw [w4 j hj, d3 j hj]) (fun c c1 c2 => by rw [w5 c c1 c2, d4 c c1 c2]) (fun i hi => ?_) (fun c hc => ?_) ?_ w1 rfl rfl ?_ rfl
    · have eX : rowX 114 (49 * i) I' = rowX 114 (49 * (i + 1)) I := by
        funext j; unfold rowX
        split
        · rw [w2 _ (by omega), d1 _ (by omega), show 49 + (49 * i + j) = 49 * (i + 1) + j by omega]
        · rfl
      have : aSv (absM I) (4 + i) = rowX 114 (49 * (i + 1)) I := by
        unfold aSv
        rw [if_neg (by omega), if_neg (by omega), if_neg (by omega), if_pos (by omega), show 4 + i + 1 = 4 + (i + 1) by omega, absM_4, es, i_nt (by omega), if_pos (by omega)]
      rw [this, eX]
      exact ⟨rfl, hsv _ (by omega)⟩
    · unfold aSv
      rw [if_neg (by omega), if_neg (by omega), if_neg (by omega), if_neg (by omega), if_neg (by omega), show c = 4 + (c - 4) by omega, absM_4, es, i_nt (by omega), if_neg (by omega)]
    · unfold aSv
      rw [if_neg (by omega), if_neg (by omega), if_neg (by omega), if_neg (by omega), if_pos rfl]; rfl
    · unfold aSv
      rw [if_pos rfl, hn, if_neg (by omega)]
