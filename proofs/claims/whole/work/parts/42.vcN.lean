/-! ===== looks at the model's row ===== -/
theorem vl_X6_isStuck {I : wI} {c : Nat} (hR : okR (rowM I)) (hc : c < 5) : ∀ m i : Nat, i + m = 6 → v_X6_isStuck_4 (nI c) I (post_X6_isStuck (nI c) I) (m + 1) (if stU (rowM I) c i then 1 else 0) (nI i)
  | 0, i, e => by
    obtain rfl : i = 6 := by omega
    refine ⟨fun _ => ⟨?_, ?_⟩, fun h => absurd (Int32.le_refl _) h⟩
    · split
      · exact Or.inr rfl
      · exact Or.inl rfl
    · unfold post_X6_isStuck; rw [i_nt (by omega)]; rfl
  | m + 1, i, e => by
    have hi : i < 6 := by omega
    have ih := vl_X6_isStuck hR hc m (i + 1) (by omega)
    rw [stU] at ih
    refine ⟨fun h => absurd h (by simp (disch := omega) only [i_le, i_lt, i_eq, i_add, i_sub, i_mul, i_and31, i_and1, i_shl1, i_shr, nI_or, i_cl, i_inP, i_nt, l_0, l_1, l_2, l_3, l_4, l_5, l_6, l_7, l_8, l_9, l_10, l_12, l_18, l_23, l_25, l_28, l_30, l_31, l_33, l_34, l_35, l_36, l_37, l_40, l_41, l_43, l_44, l_48, l_49, l_50, l_57, l_60, l_63, l_64, l_65, l_69, l_91, l_93, l_97, l_101, l_111, l_125, l_126, l_245, l_294, l_500, l_501, l_9999, l_1000000]; omega), fun _ => ?_⟩
    unfold v_X6_isStuck_36 v_X6_isStuck_40 v_X6_isStuck_41
    rw [i_s]
    cases hs : stU (rowM I) c i
    · rw [hs] at ih
      refine ⟨fun q => absurd rfl q, fun _ => ⟨⟨okMk_R hR, ⟨c, hc, rfl⟩, i, hi, rfl⟩, fun r1 q1 => ?_⟩⟩
      unfold post_X6_has at q1
      rw [i_nt (by omega), i_nt (by omega)] at q1
      have hb := tb_lt (aM (rowM I) c) i
      rw [q1, l_0, i_eq (by omega) (by decide), l_12, i_add, i_cl (by omega), mrev I _ (by omega)]
      refine ⟨fun z => ?_, fun z => ⟨i_in (by omega) (by decide), fun z2 => ?_, fun z2 => ?_⟩⟩
      · rw [decide_eq_false (show ¬ tb (aM (rowM I) c) i = 1 by omega)] at ih; exact ih
      · rw [decide_eq_false z2, Bool.and_false] at ih; exact ih
      · rw [decide_eq_true (show tb (aM (rowM I) c) i = 1 by omega), decide_eq_true z2] at ih; exact ih
    · rw [hs] at ih
      exact ⟨fun _ => ih, fun q => absurd q (by decide)⟩
theorem vc_X6_isStuck (x1 : Int32) (I : wI) (hp : pre_X6_isStuck x1 I) : v_X6_isStuck x1 I (post_X6_isStuck x1 I) := by
  obtain ⟨hR, c, hc, rfl⟩ := hp
  exact ⟨7, vl_X6_isStuck hR hc 6 0 rfl⟩
theorem vc_X6_isRight (x1 : Int32) (I : wI) (hp : pre_X6_isRight x1 I) : v_X6_isRight x1 I (post_X6_isRight x1 I) := by
  obtain ⟨p, hp, rfl⟩ := hp
  unfold v_X6_isRight v_X6_isRight_56 v_X6_isRight_57 post_X6_isRight aIR
  rw [i_nt (by omega), show (0 : Int32) + nI p = nI p by rw [l_0, i_add, Nat.zero_add], l_37, l_6, l_43, i_add, i_add, i_add, i_cl (by omega), i_cl (by omega), i_cl (by omega), i_cl (by omega), show (36 : Int32).toNatClampNeg = 36 from rfl, mrev I _ (by omega), mrev I _ (by omega), mrev I _ (by omega), mrev I _ (by omega), mrev I _ (by omega)]
  refine ⟨by unfold vp_in; decide, fun h => ⟨Or.inl rfl, Or.inr ⟨fun q => h q.1, rfl⟩⟩, fun h => ⟨i_in (by omega) (by decide), i_in (by omega) (by decide), fun h2 => ⟨Or.inl rfl, Or.inr ⟨fun q => h2 q.2.1, rfl⟩⟩, fun h2 => ⟨i_in (by omega) (by decide), i_in (by omega) (by decide), fun h3 => ⟨Or.inl rfl, Or.inr ⟨fun q => h3 q.2.2, rfl⟩⟩, fun h3 => ⟨Or.inr rfl, Or.inl ⟨⟨h, h2, h3⟩, rfl⟩⟩⟩⟩⟩
def irU (a : Nat → Int32) (p : Nat) : Nat := if a 36 = 1 ∧ a p = a (37 + p) ∧ a (6 + p) = a (43 + p) then 1 else 0
theorem irU_sm {a : Nat → Int32} (h : a 36 = 0 ∨ a 36 = 1) : sm (irU a) 6 = aRt a := by
  unfold aRt aAs
  rcases h with h | h
  · rw [if_pos h]
    have : sm (irU a) 6 ≤ 6 * 0 := sm_le (fun p _ => by
      unfold irU; rw [h, if_neg (fun q => absurd q.1 (by decide))]; omega)
    omega
  · rw [if_neg (by rw [h]; decide)]
    refine sm_cong (fun p _ => ?_)
    unfold irU
    by_cases c : a p = a (37 + p) ∧ a (6 + p) = a (43 + p)
    · rw [if_pos ⟨h, c⟩, if_pos c]
    · rw [if_neg (fun q => c q.2), if_neg c]
theorem vl_X6_right {I : wI} (hR : okR (rowM I)) : ∀ m i : Nat, i + m = 6 → v_X6_right_4 I (post_X6_right I) (m + 1) (nI (sm (irU (rowM I)) i)) (nI i)
  | 0, i, e => by
    obtain rfl : i = 6 := by omega
    exact ⟨fun _ => by unfold post_X6_right; rw [irU_sm hR.2.2.2.2.2.1], fun h => absurd (Int32.le_refl _) h⟩
  | m + 1, i, e => by
    have hi : i < 6 := by omega
    have ih := vl_X6_right hR m (i + 1) (by omega)
    rw [sm_succ] at ih
    refine ⟨fun h => absurd h (by simp (disch := omega) only [i_le, i_lt, i_eq, i_add, i_sub, i_mul, i_and31, i_and1, i_shl1, i_shr, nI_or, i_cl, i_inP, i_nt, l_0, l_1, l_2, l_3, l_4, l_5, l_6, l_7, l_8, l_9, l_10, l_12, l_18, l_23, l_25, l_28, l_30, l_31, l_33, l_34, l_35, l_36, l_37, l_40, l_41, l_43, l_44, l_48, l_49, l_50, l_57, l_60, l_63, l_64, l_65, l_69, l_91, l_93, l_97, l_101, l_111, l_125, l_126, l_245, l_294, l_500, l_501, l_9999, l_1000000]; omega), fun _ => ⟨⟨i, hi, rfl⟩, fun r1 q1 => ?_⟩⟩
    unfold v_X6_right_24
    unfold post_X6_isRight at q1
    rw [i_nt (by omega)] at q1
    rw [i_s, l_0, l_1, i_add, i_add]
    rcases q1 with ⟨q1, rfl⟩ | ⟨q1, rfl⟩
    · rw [show irU (rowM I) i = 1 from if_pos q1] at ih
      exact ⟨fun z => absurd z (by decide), fun _ => ih⟩
    · rw [show irU (rowM I) i = 0 from if_neg q1] at ih
      exact ⟨fun _ => ih, fun z => absurd rfl z⟩
theorem vc_X6_right (I : wI) (hp : pre_X6_right I) : v_X6_right I (post_X6_right I) := ⟨7, vl_X6_right hp 6 0 rfl⟩
theorem vc_X6_opens (I : wI) (hp : pre_X6_opens I) : v_X6_opens I (post_X6_opens I) := by
  refine ⟨hp, fun r1 h1 => ?_⟩
  unfold post_X6_right at h1
  have hle : aRt (rowM I) ≤ 6 := aAs_le _ _ _
  rw [h1, l_6, i_eq (by omega) (by omega)]
  unfold v_X6_opens_14 post_X6_opens
  exact ⟨fun h => ⟨Or.inl rfl, by rw [if_neg h]⟩, fun h => ⟨Or.inr rfl, by rw [if_pos h]⟩⟩
theorem vl_X6_stuckKeys {I : wI} (h : okR (rowM I)) : ∀ m i : Nat, i + m = 5 → v_X6_stuckKeys_4 I (post_X6_stuckKeys I) (m + 1) (nI (sm (fun c => if aStk (rowM I) c then 1 else 0) i)) (nI i)
  | 0, i, e => by
    obtain rfl : i = 5 := by omega
    exact ⟨fun _ => rfl, fun h => absurd (Int32.le_refl _) h⟩
  | m + 1, i, e => by
    have hi : i < 5 := by omega
    have ih := vl_X6_stuckKeys h m (i + 1) (by omega)
    rw [sm_succ] at ih
    refine ⟨fun h => absurd h (by simp (disch := omega) only [i_le, i_lt, i_eq, i_add, i_sub, i_mul, i_and31, i_and1, i_shl1, i_shr, nI_or, i_cl, i_inP, i_nt, l_0, l_1, l_2, l_3, l_4, l_5, l_6, l_7, l_8, l_9, l_10, l_12, l_18, l_23, l_25, l_28, l_30, l_31, l_33, l_34, l_35, l_36, l_37, l_40, l_41, l_43, l_44, l_48, l_49, l_50, l_57, l_60, l_63, l_64, l_65, l_69, l_91, l_93, l_97, l_101, l_111, l_125, l_126, l_245, l_294, l_500, l_501, l_9999, l_1000000]; omega), fun _ => ⟨⟨h, i, hi, rfl⟩, fun r1 h1 => ?_⟩⟩
    unfold post_X6_isStuck at h1
    rw [i_nt (by omega)] at h1
    unfold v_X6_stuckKeys_23
    rw [i_s, l_0, l_1, i_add, i_add]
    cases c : aStk (rowM I) i
    · rw [c] at h1 ih
      subst h1
      exact ⟨fun _ => ih, fun h => absurd rfl h⟩
    · rw [c] at h1 ih
      subst h1
      exact ⟨fun h => absurd h (by decide), fun _ => ih⟩
theorem vc_X6_stuckKeys (I : wI) (hp : pre_X6_stuckKeys I) : v_X6_stuckKeys I (post_X6_stuckKeys I) := ⟨6, vl_X6_stuckKeys hp 5 0 rfl⟩
theorem vl_X6_notches {I : wI} (h : okR (rowM I)) : ∀ m i : Nat, i + m = 6 → v_X6_notches_4 I (post_X6_notches I) (m + 1) (nI (sm (aN (rowM I)) i)) (nI i)
  | 0, i, e => by
    obtain rfl : i = 6 := by omega
    exact ⟨fun _ => rfl, fun h => absurd (Int32.le_refl _) h⟩
  | m + 1, i, e => by
    have hi : i < 6 := by omega
    have ih := vl_X6_notches h m (i + 1) (by omega)
    rw [sm_succ] at ih
    refine ⟨fun h => absurd h (by simp (disch := omega) only [i_le, i_lt, i_eq, i_add, i_sub, i_mul, i_and31, i_and1, i_shl1, i_shr, nI_or, i_cl, i_inP, i_nt, l_0, l_1, l_2, l_3, l_4, l_5, l_6, l_7, l_8, l_9, l_10, l_12, l_18, l_23, l_25, l_28, l_30, l_31, l_33, l_34, l_35, l_36, l_37, l_40, l_41, l_43, l_44, l_48, l_49, l_50, l_57, l_60, l_63, l_64, l_65, l_69, l_91, l_93, l_97, l_101, l_111, l_125, l_126, l_245, l_294, l_500, l_501, l_9999, l_1000000]; omega), fun _ => ⟨by rw [l_6, i_add]; exact i_in (by omega) (by decide), ?_⟩⟩
    rw [i_s, l_6, i_add, i_cl (by omega), mr_n h hi, i_add]
    exact ih
theorem vc_X6_notches (I : wI) (hp : pre_X6_notches I) : v_X6_notches I (post_X6_notches I) := ⟨7, vl_X6_notches hp 6 0 rfl⟩
/-! how many positions are elsewhere: the bits of the reach -/
theorem tb_bits (q : Nat → Bool) : ∀ n p, p < n → tb (bits q n) p = if q p then 1 else 0 := by
  intro n
  induction n with
  | zero => intro p hp; exact absurd hp (Nat.not_lt_zero _)
  | succ n ih =>
    intro p hp
    have e : bits q (n + 1) = bits q n + (if q n then 2 ^ n else 0) := rfl
    have hl := bits_lt q n
    unfold tb at ih ⊢
    rw [e]
    by_cases c : p = n
    · subst c
      cases hq : q p
      · rw [if_neg (by decide), Nat.add_zero, Nat.div_eq_of_lt hl]; rfl
      · rw [if_pos rfl, Nat.add_div_right _ (Nat.pow_pos (by decide)), Nat.div_eq_of_lt hl]; rfl
    · have hpn : p < n := by omega
      rw [← ih p hpn]
      cases hq : q n
      · rw [if_neg (by decide), Nat.add_zero]
      · rw [if_pos rfl]
        obtain ⟨k, rfl⟩ : ∃ k, n = p + 1 + k := ⟨n - (p + 1), by omega⟩
        rw [show 2 ^ (p + 1 + k) = 2 ^ p * (2 * 2 ^ k) by rw [Nat.pow_add, Nat.pow_succ]; rw [Nat.mul_assoc], Nat.add_mul_div_left _ _ (Nat.pow_pos (by decide)), Nat.add_mul_mod_self_left]
theorem pc6_bits' (q : Nat → Bool) : pc6 (bits q 6) = sm (fun p => if q p then 1 else 0) 6 := sm_cong (fun p hp => tb_bits q 6 p hp)
theorem vl_X6_away {I : wI} (h : okR (rowM I)) : ∀ m i : Nat, i + m = 6 → v_X6_away_4 I (post_X6_away I) (m + 1) (nI (sm (fun p => if rcB (aD (rowM I)) (aN (rowM I)) p then 1 else 0) i)) (nI i)
  | 0, i, e => by
    obtain rfl : i = 6 := by omega
    exact ⟨fun _ => by unfold post_X6_away aRc rcF; rw [pc6_bits'], fun h => absurd (Int32.le_refl _) h⟩
  | m + 1, i, e => by
    have hi : i < 6 := by omega
    have ih := vl_X6_away h m (i + 1) (by omega)
    rw [sm_succ] at ih
    have hd := okR_d h i hi
    have hn := okR_n h i hi
    refine ⟨fun h => absurd h (by simp (disch := omega) only [i_le, i_lt, i_eq, i_add, i_sub, i_mul, i_and31, i_and1, i_shl1, i_shr, nI_or, i_cl, i_inP, i_nt, l_0, l_1, l_2, l_3, l_4, l_5, l_6, l_7, l_8, l_9, l_10, l_12, l_18, l_23, l_25, l_28, l_30, l_31, l_33, l_34, l_35, l_36, l_37, l_40, l_41, l_43, l_44, l_48, l_49, l_50, l_57, l_60, l_63, l_64, l_65, l_69, l_91, l_93, l_97, l_101, l_111, l_125, l_126, l_245, l_294, l_500, l_501, l_9999, l_1000000]; omega), fun _ => ⟨by rw [l_0, i_add]; exact i_in (by omega) (by decide), ?_⟩⟩
    unfold v_X6_away_35 v_X6_away_40
    rw [i_s, show (0 : Int32) + nI i = nI i by rw [l_0, i_add, Nat.zero_add], i_cl (by omega), mr_d h hi, l_6, i_add, i_cl (by omega), mr_n h hi, i_eq (by omega) (by omega), l_0, i_eq (by omega) (by omega), l_1, i_add, i_add]
    unfold rcB at ih
    refine ⟨fun c => ?_, fun c => ⟨i_in (by omega) (by decide), fun c2 => ?_, fun c2 => ?_⟩⟩
    · rw [decide_eq_true (Or.inl c), if_pos rfl] at ih; exact ih
    · rw [decide_eq_false (fun q => by rcases q with q | q <;> contradiction), if_neg (by decide)] at ih; exact ih
    · rw [decide_eq_true (Or.inr c2), if_pos rfl] at ih; exact ih
theorem vc_X6_away (I : wI) (hp : pre_X6_away I) : v_X6_away I (post_X6_away I) := ⟨7, vl_X6_away hp 6 0 rfl⟩
/-! ===== a turn, counted ===== -/
theorem vc_X6_countTurn (x1 : Int32) (I : wI) (hp : pre_X6_countTurn x1 I) : v_X6_countTurn x1 I (post_X6_countTurn x1 I) := by
  obtain ⟨hR, v, hv, rfl⟩ := hp
  have h5 := m5 v
  refine ⟨hR, fun r1 h1 => ⟨⟨hR, v, hv, rfl⟩, fun I2 h2 => ?_⟩⟩
  unfold post_X6_doTurn at h2
  rw [i_nt (by omega)] at h2
  obtain ⟨g1, g2, g3⟩ := h2
  have hT := okR_aTr hR hv
  rw [← g1] at hT
  refine ⟨by unfold vp_in; decide, by unfold vp_in; decide, fun I3 q3 => ?_⟩
  rw [show (33 : Int32).toNatClampNeg = 33 from rfl] at q3
  rw [show nI v - nI v / 5 * 5 = nI (v % 5) by rw [l_5, i_rem (by omega) (by decide) (by decide)], show (28 : Int32) + nI (v % 5) = nI (28 + v % 5) by rw [l_28, i_add], show (23 : Int32) + nI (v % 5) = nI (23 + v % 5) by rw [l_23, i_add], show (18 : Int32) + nI (v % 5) = nI (18 + v % 5) by rw [l_18, i_add], i_cl (show 28 + v % 5 < 2147483648 by omega), i_cl (show 23 + v % 5 < 2147483648 by omega), i_cl (show 18 + v % 5 < 2147483648 by omega)]
  refine ⟨i_in (by omega) (by decide), i_in (by omega) (by decide), fun I4 q4 => ⟨i_in (by omega) (by decide), i_in (by omega) (by decide), ?_⟩⟩
  have ej : ∀ j, j ≠ 33 → j ≠ 28 + v % 5 → I4 112 j = I2 112 j := fun j a b => by rw [q4, wU_off (Or.inr b), q3, wU_off (Or.inr a)]
  have e33 : I4 112 33 = I2 112 33 + 1 := by rw [q4, wU_off (Or.inr (by omega)), q3, wU_at]
  have eu : I4 112 (28 + v % 5) = I2 112 (28 + v % 5) + 1 := by rw [q4, wU_at, q3, wU_off (Or.inr (by omega))]
  have ec : ∀ c, c ≠ 112 → I4 c = I2 c := fun c a => by rw [q4, wU_ne a, q3, wU_ne a]
  have e18 : I4 112 (18 + v % 5) = nI (aM (rowM I) (v % 5)) := by
    rw [ej _ (by omega) (by omega), mrev I2 _ (by omega), g1, aTr_o (by omega)]; exact (hR.2.2.2.1 _ h5).1.1
  have e23 : I4 112 (23 + v % 5) = nI (aS (rowM I) (v % 5)) := by
    rw [ej _ (by omega) (by omega), mrev I2 _ (by omega), g1, aTr_o (by omega)]; exact (hR.2.2.2.1 _ h5).2.1
  obtain ⟨x, hx, ex⟩ := hR.2.2.2.2.1
  have e34 : I4 112 34 = nI x := by
    rw [ej _ (by omega) (by omega), mrev I2 _ (by omega), g1, aTr_o (by omega)]; exact ex
  have hMs := okR_M hR h5
  have hSs := okR_S hR h5
  rw [e18]
  refine ⟨⟨_, hMs, rfl⟩, fun r5 h5' => ⟨by unfold vp_in; decide, ?_⟩⟩
  unfold post_X6_ones at h5'
  rw [i_nt (by omega)] at h5'
  rw [h5', e23, i_mul, l_4, i_mul, show (34 : Int32).toNatClampNeg = 34 from rfl, e34, l_5, i_le (by decide) (by omega)]
  have h6 := pc6_le (aM (rowM I) (v % 5))
  have hw : aS (rowM I) (v % 5) * pc6 (aM (rowM I) (v % 5)) < 25 := by
    have := Nat.mul_le_mul (show aS (rowM I) (v % 5) ≤ 4 by omega) h6
    omega
  have hA : aAcc (rowM I) v = (x + (if v < 5 then 1 else 4) * (aS (rowM I) (v % 5) * pc6 (aM (rowM I) (v % 5)))) % 5 := by
    unfold aAcc; rw [ex, i_nt (by omega)]
  generalize aS (rowM I) (v % 5) * pc6 (aM (rowM I) (v % 5)) = w at *
  -- the last part, for the account as it is told
  have last : ∀ y, y < 1000 → (x + y) % 5 = aAcc (rowM I) v → v_X6_countTurn_89 (nI v) (post_X6_countTurn (nI v) I) r1 (nI y) (nI x) 34 I4 := by
    intro y hy hxy
    refine ⟨by unfold vp_in; decide, fun I1 q1 => ⟨by unfold vp_in; decide, ?_⟩⟩
    rw [show (34 : Int32).toNatClampNeg = 34 from rfl, i_add, l_5, i_rem (by omega) (by decide) (by decide), hxy] at q1
    have fj : ∀ j, j ≠ 34 → I1 112 j = I4 112 j := fun j a => by rw [q1, wU_off (Or.inr a)]
    have f34 : I1 112 34 = nI (aAcc (rowM I) v) := by rw [q1, wU_at]
    have fc : ∀ c, c ≠ 112 → I1 c = I2 c := fun c a => by rw [q1, wU_ne a, ec c a]
    have row : ∀ I' : wI, (∀ j, j ≠ 35 → I' 112 j = I1 112 j) → (∀ c, c ≠ 112 → I' c = I1 c) → (I' 112 35 = if aRt (rowM I) ≠ 6 ∧ aRt (aTr (rowM I) v) = 6 then I1 112 35 + 1 else I1 112 35) → post_X6_countTurn (nI v) I I' := by
      intro I' i1 i2 i3
      have e35 : I1 112 35 = rowM I 35 := by
        rw [fj _ (by omega), ej _ (by omega) (by omega), mrev I2 _ (by omega), g1, aTr_o (by omega)]
      refine ⟨?_, fun c c1 c2 => by rw [i2 c c1, fc c c1, g2 c c1 c2], fun j hj => by rw [i1 j (by omega), fj j (by omega), ej j (by omega) (by omega), g3 j hj]⟩
      rw [i_nt (by omega)]
      refine mrow_ext (fun j hj => ?_) (fun j hj => by rw [aMv_o hv (by omega), aTr_o (by omega), mrow_o hj])
      by_cases c28 : j = 28 + v % 5
      · subst c28
        rw [i1 _ (by omega), fj _ (by omega), eu, mrev I2 _ (by omega), g1, aTr_o (by omega)]
        unfold aMv; rw [if_pos rfl]
      by_cases c33 : j = 33
      · subst c33
        rw [i1 _ (by omega), fj _ (by omega), e33, mrev I2 _ (by omega), g1, aTr_o (by omega)]
        unfold aMv; rw [if_neg c28, if_pos rfl]
      by_cases c34 : j = 34
      · subst c34
        rw [i1 _ (by omega), f34, aMv_34 hv]
      by_cases c35 : j = 35
      · subst c35
        rw [i3, e35]
        unfold aMv; rw [if_neg c28, if_neg c33, if_neg c34, if_pos rfl]
      · rw [i1 _ c35, fj _ c34, ej _ c33 c28, mrev I2 _ hj, g1]
        unfold aMv; rw [if_neg c28, if_neg c33, if_neg c34, if_neg c35]
    have eA : aRt (rowM I1) = aRt (aTr (rowM I) v) := by
      refine aRt_cong (fun j hj => ?_)
      by_cases c : j < 49
      · rw [mrow c, fj _ (by omega), ej _ (by omega) (by omega), mrev I2 _ c, g1]
      · rw [mrow_o (by omega), aTr_o (by omega), mrow_o (by omega)]
    have hR1 : okR (rowM I1) := by
      refine okR_of hT (fun p hp => ?_) ?_ (fun j h1 h2 => ?_) ?_
      · have e1 : rowM I1 p = rowM I2 p := by rw [mrow (by omega), fj _ (by omega), ej _ (by omega) (by omega), mrev I2 _ (by omega)]
        have e2 : rowM I1 (6 + p) = rowM I2 (6 + p) := by rw [mrow (by omega), fj _ (by omega), ej _ (by omega) (by omega), mrev I2 _ (by omega)]
        unfold aD aN
        rw [if_pos hp, if_pos hp, e1, e2]
        have := hT.1 p hp
        unfold aD aN at this
        rw [if_pos hp, if_pos hp] at this
        exact this
      · have : aD (rowM I1) = aD (rowM I2) := by
          funext p; unfold aD
          split
          · rw [mrow (by omega), fj _ (by omega), ej _ (by omega) (by omega), mrev I2 _ (by omega)]
          · rfl
        rw [this]; exact hT.2.1
      · by_cases c : j < 49
        · rw [mrow c, fj _ (by omega), ej _ (by omega) (by omega), mrev I2 _ c]
        · rw [mrow_o (by omega), mrow_o (by omega)]
      · rw [mrow (by omega), f34]; exact ⟨_, Nat.mod_lt _ (by decide), rfl⟩
    unfold v_X6_countTurn_116 v_X6_countTurn_117
    rw [show (35 : Int32).toNatClampNeg = 35 from rfl]
    have hv35 : vp_in (35 : Int32) 49 := by unfold vp_in; decide
    have add0 : ∀ z : Int32, z + 0 = z := Int32.add_zero
    unfold post_X6_opens at h1
    refine ⟨fun n => ⟨hv35, fun I' q' => ?_⟩, fun z => ⟨hR1, fun r2 h2 => ?_⟩⟩
    · have : aRt (rowM I) = 6 := by
        apply Decidable.byContradiction; intro e; rw [if_neg e] at h1; exact n h1
      rw [add0] at q'
      exact row I' (fun j hj => by rw [q', wU_off (Or.inr hj)]) (fun c hc => by rw [q', wU_ne hc]) (by rw [if_neg (fun h => h.1 this), q', wU_at])
    · have hz : aRt (rowM I) ≠ 6 := by
        intro e; rw [if_pos e] at h1; rw [h1] at z; exact absurd z (by decide)
      unfold post_X6_opens at h2
      rw [eA] at h2
      refine ⟨fun z9 => ⟨hv35, fun I' q' => ?_⟩, fun n9 => ⟨hv35, fun I' q' => ?_⟩⟩
      · have : aRt (aTr (rowM I) v) ≠ 6 := by
          intro e; rw [if_pos e] at h2; rw [h2] at z9; exact absurd z9 (by decide)
        rw [add0] at q'
        exact row I' (fun j hj => by rw [q', wU_off (Or.inr hj)]) (fun c hc => by rw [q', wU_ne hc]) (by rw [if_neg (fun h => this h.2), q', wU_at])
      · have : aRt (aTr (rowM I) v) = 6 := by
          apply Decidable.byContradiction; intro e; rw [if_neg e] at h2; exact n9 h2
        exact row I' (fun j hj => by rw [q', wU_off (Or.inr hj)]) (fun c hc => by rw [q', wU_ne hc]) (by rw [if_pos ⟨hz, this⟩, q', wU_at])
  refine ⟨fun hb => last _ (by omega) ?_, fun hb => last _ (by omega) ?_⟩
  · rw [hA, if_neg (by omega)]
  · rw [hA, if_pos (by omega), Nat.one_mul]
