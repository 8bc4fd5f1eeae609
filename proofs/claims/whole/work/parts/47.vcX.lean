/-! ===== the class's text ===== -/
theorem nar_v : ∀ c, c < 127 → narrow .char (.int (nI c)) = .int (nI c) := by decide +kernel
theorem vc_X4_signAt (k : Nat) (x1 : Int32) (I : wI) (hp : pre_X4_signAt k x1 I) : v_X4_signAt k x1 I (post_X4_signAt k x1 I) := by
  obtain ⟨i, hi, rfl, c, hc, hc2, e⟩ := hp
  refine ⟨not_lt0 (by omega), fun _ => ⟨fun h => absurd h (by simp (disch := omega) only [i_le, i_lt, i_eq, i_add, i_sub, i_mul, i_and31, i_and1, i_shl1, i_shr, nI_or, i_cl, i_inP, i_nt, l_0, l_1, l_2, l_3, l_4, l_5, l_6, l_7, l_8, l_9, l_10, l_12, l_18, l_23, l_25, l_28, l_30, l_31, l_33, l_34, l_35, l_36, l_37, l_40, l_41, l_43, l_44, l_48, l_49, l_50, l_57, l_60, l_63, l_64, l_65, l_69, l_91, l_93, l_97, l_101, l_111, l_125, l_126, l_245, l_294, l_500, l_501, l_9999, l_1000000]; omega), fun _ => ⟨i_in hi (by decide), ?_⟩⟩⟩
  unfold v_X4_signAt_20 post_X4_signAt
  rw [i_cl (by omega), i_nt (by omega), e]
  exact ⟨nar_v c (by omega), rfl⟩
theorem vc_X4_moveAt (k : Nat) (x1 : Int32) (I : wI) (hp : pre_X4_moveAt k x1 I) : v_X4_moveAt k x1 I (post_X4_moveAt k x1 I) := by
  obtain ⟨i, hi, rfl⟩ := hp
  exact ⟨not_lt0 (by omega), fun _ => ⟨fun h => absurd h (by simp (disch := omega) only [i_le, i_lt, i_eq, i_add, i_sub, i_mul, i_and31, i_and1, i_shl1, i_shr, nI_or, i_cl, i_inP, i_nt, l_0, l_1, l_2, l_3, l_4, l_5, l_6, l_7, l_8, l_9, l_10, l_12, l_18, l_23, l_25, l_28, l_30, l_31, l_33, l_34, l_35, l_36, l_37, l_40, l_41, l_43, l_44, l_48, l_49, l_50, l_57, l_60, l_63, l_64, l_65, l_69, l_91, l_93, l_97, l_101, l_111, l_125, l_126, l_245, l_294, l_500, l_501, l_9999, l_1000000]; omega), fun _ => ⟨i_in hi (by decide), rfl⟩⟩⟩
theorem vc_X4_addMove (k : Nat) (x1 : Int32) (I : wI) (hp : pre_X4_addMove k x1 I) : v_X4_addMove k x1 I (post_X4_addMove k x1 I) := by
  obtain ⟨n, hn, e⟩ := hp
  unfold v_X4_addMove v_X4_addMove_27 post_X4_addMove
  rw [e, i_nt (by omega), i_cl (by omega), l_500, i_le (by decide) (by omega)]
  refine ⟨not_lt0 (by omega), fun _ => ⟨fun h I1 q => ?_, fun h => ⟨i_in (by omega) (by decide), fun I1 q1 I2 q2 => ?_⟩⟩⟩
  · rw [q, if_neg (by omega), i_s]
  · rw [q2, q1, if_pos (by omega), wU_ne (by omega), e, i_s]
theorem pot_le (B : Nat → Nat) : ∀ o x, x ≤ pot B o x
  | 0, x => Nat.le_refl _
  | o + 1, x => by
    have h1 := pot_le B o (B o)
    have h2 : x - B o ≤ (x - B o) * 9 ^ (o + 1) := Nat.le_mul_of_pos_right _ (Nat.pow_pos (by decide))
    show x ≤ pot B o (B o) + (x - B o) * 9 ^ (o + 1)
    omega
theorem tOk_len {s : TS} {n : Nat} (h : tOk s n) (hn : n ≤ 60) : (tW s).length < 400000 := by
  have h1 := pot_le (tB s) (tO s) (tW s).length
  have h2 := h.2.2.2
  omega
theorem lrel_add {I : wI} {W : List Nat} {v : Nat} (h : lrel I W) (hl : W.length < 500000) {I' : wI} (q : post_X4_addMove 24 (nI v) I I') : lrel I' (W ++ [v]) ∧ wfr I I' := by
  unfold post_X4_addMove at q
  rw [h.1, i_nt (by omega)] at q
  refine ⟨⟨?_, fun i hi h5 => ?_⟩, fun c c1 c2 => ?_, fun j hj => ?_⟩
  · rw [q, wU_at, List.length_append]; rfl
  · rw [List.length_append] at hi
    have hi : i < W.length + 1 := hi
    rw [q, wU_ne (by decide)]
    by_cases e : i = W.length
    · subst e
      rw [if_pos h5, wU_at, List.getD_eq_getElem?_getD, List.getElem?_append_right (Nat.le_refl _), Nat.sub_self]; rfl
    · have hl' : i < W.length := by omega
      rw [List.getD_eq_getElem?_getD, List.getElem?_append_left hl', ← List.getD_eq_getElem?_getD, ← h.2 i hl' h5]
      split
      · rw [wU_off (Or.inr e)]
      · rfl
  · rw [q, wU_ne c1]
    split
    · rw [wU_ne c2]
    · rfl
  · rw [q, wU_off (Or.inr hj)]
    split
    · rw [wU_ne (by decide)]
    · rfl
theorem wfr_trans {I I1 I2 : wI} (h : wfr I I1) (h2 : wfr I1 I2) : wfr I I2 := ⟨fun c a b => by rw [h2.1 c a b, h.1 c a b], fun j hj => by rw [h2.2 j hj, h.2 j hj]⟩
theorem wfr_refl (I : wI) : wfr I I := ⟨fun _ _ _ => rfl, fun _ _ => rfl⟩
