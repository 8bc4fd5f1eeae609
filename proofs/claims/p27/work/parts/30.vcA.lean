/-! ===== moves ===== -/
theorem vc_X5_moveOf (x0 x1 : Int32) (I : wI) (hp : pre_X5_moveOf x0 x1 I) : v_X5_moveOf x0 x1 I (post_X5_moveOf x0 x1 I) := by
  obtain ⟨⟨c, hc, rfl⟩, rfl | rfl⟩ := hp <;> unfold v_X5_moveOf v_X5_moveOf_11 post_X5_moveOf <;> refine ⟨fun h => ?_, fun h => ?_⟩
  · rw [i_nt (by omega)]; simp [nt]
  · exact absurd rfl h
  · exact absurd h (by decide)
  · rw [i_nt (by omega)]; simp only [l_5, l_1, i_add, i_nt (show 1 < 2147483648 by decide)]
theorem vc_X5_isBack (x0 : Int32) (I : wI) (hp : pre_X5_isBack x0 I) : v_X5_isBack x0 I (post_X5_isBack x0 I) := by
  obtain ⟨v, hv, rfl⟩ := hp
  unfold v_X5_isBack v_X5_isBack_10 post_X5_isBack
  simp (disch := omega) only [i_le, i_lt, i_eq, i_add, i_sub, i_mul, i_and31, i_and1, i_shl1, i_shr, nI_or, i_cl, i_inP, i_nt, l_0, l_1, l_2, l_3, l_4, l_5, l_6, l_7, l_8, l_9, l_10, l_12, l_18, l_23, l_25, l_28, l_30, l_31, l_33, l_34, l_35, l_36, l_37, l_40, l_41, l_43, l_44, l_48, l_49, l_50, l_57, l_60, l_63, l_64, l_65, l_69, l_91, l_93, l_97, l_101, l_111, l_125, l_126, l_245, l_294, l_500, l_501, l_9999, l_1000000]
  refine ⟨fun h => ⟨?_, ?_⟩, fun h => ⟨?_, ?_⟩⟩
  · exact Or.inl (by first | rfl | trivial)
  · rw [show v / 5 = 0 by omega]
  · exact Or.inr (by first | rfl | trivial)
  · rw [show v / 5 = 1 by omega]
theorem vc_X5_keyOf (x0 : Int32) (I : wI) (hp : pre_X5_keyOf x0 I) : v_X5_keyOf x0 I (post_X5_keyOf x0 I) := by
  obtain ⟨v, hv, rfl⟩ := hp
  unfold v_X5_keyOf v_X5_keyOf_12 post_X5_keyOf
  simp (disch := omega) only [i_le, i_lt, i_eq, i_add, i_sub, i_mul, i_and31, i_and1, i_shl1, i_shr, nI_or, i_cl, i_inP, i_nt, l_0, l_1, l_2, l_3, l_4, l_5, l_6, l_7, l_8, l_9, l_10, l_12, l_18, l_23, l_25, l_28, l_30, l_31, l_33, l_34, l_35, l_36, l_37, l_40, l_41, l_43, l_44, l_48, l_49, l_50, l_57, l_60, l_63, l_64, l_65, l_69, l_91, l_93, l_97, l_101, l_111, l_125, l_126, l_245, l_294, l_500, l_501, l_9999, l_1000000]
  refine ⟨fun h => ?_, fun h => ?_⟩
  · rw [show v % 5 = v by omega]
  · rw [i_sub (by omega), show v % 5 = v - 5 by omega]
/-! ===== the library's ===== -/
theorem vcd_bitCount : ∀ m, m < 64 → v_J_bitCount (nI m) (fun _ _ => 0) (fun r => r = nI (pc6 m)) := by unfold v_J_bitCount; decide +kernel
theorem vc_J_bitCount (x0 : Int32) (I : wI) (hp : pre_J_bitCount x0 I) : v_J_bitCount x0 I (post_J_bitCount x0 I) := by
  obtain ⟨m, hm, rfl⟩ := hp
  have := vcd_bitCount m hm
  unfold post_J_bitCount
  rw [i_nt (by omega)]
  exact this
theorem vcd_floorMod : ∀ m, m < 60 → v_J_floorMod (nI m - nI 30) 5 (fun _ _ => 0) (fun r => r = nI (m % 5)) := by unfold v_J_floorMod v_J_floorMod_18; decide +kernel
theorem vcd_inj : ∀ m, m < 60 → ∀ n, n < 60 → nI m - nI 30 = nI n - nI 30 → m = n := by decide +kernel
theorem vc_J_floorMod (x0 x1 : Int32) (I : wI) (hp : pre_J_floorMod x0 x1 I) : v_J_floorMod x0 x1 I (post_J_floorMod x0 x1 I) := by
  obtain ⟨rfl, m, hm, rfl⟩ := hp
  have := vcd_floorMod m hm
  have e : post_J_floorMod (nI m - nI 30) 5 I = fun r => r = nI (m % 5) := by
    funext r
    apply propext
    refine ⟨fun h => h m hm rfl, fun h n hn e => ?_⟩
    rw [← vcd_inj m hm n hn e]; exact h
  rw [e]
  exact this
/-! ===== discs ===== -/
theorem not_lt0 {j : Nat} (h : j < 2147483648) {P : Prop} : (nI j < 0 → P) := fun e => absurd e (nI_lt0 h)
theorem vc_X0_discAt (k : Nat) (x1 : Int32) (I : wI) (hp : pre_X0_discAt k x1 I) : v_X0_discAt k x1 I (post_X0_discAt k x1 I) := by
  obtain ⟨p, hp, rfl⟩ := hp
  exact ⟨not_lt0 (by omega), fun _ => ⟨fun h => absurd h (by simp (disch := omega) only [i_le, i_lt, i_eq, i_add, i_sub, i_mul, i_and31, i_and1, i_shl1, i_shr, nI_or, i_cl, i_inP, i_nt, l_0, l_1, l_2, l_3, l_4, l_5, l_6, l_7, l_8, l_9, l_10, l_12, l_18, l_23, l_25, l_28, l_30, l_31, l_33, l_34, l_35, l_36, l_37, l_40, l_41, l_43, l_44, l_48, l_49, l_50, l_57, l_60, l_63, l_64, l_65, l_69, l_91, l_93, l_97, l_101, l_111, l_125, l_126, l_245, l_294, l_500, l_501, l_9999, l_1000000]; omega), fun _ => ⟨i_in hp (by decide), rfl⟩⟩⟩
theorem vc_X0_notchAt (k : Nat) (x1 : Int32) (I : wI) (hp : pre_X0_notchAt k x1 I) : v_X0_notchAt k x1 I (post_X0_notchAt k x1 I) := by
  obtain ⟨p, hp, rfl⟩ := hp
  exact ⟨not_lt0 (by omega), fun _ => ⟨fun h => absurd h (by simp (disch := omega) only [i_le, i_lt, i_eq, i_add, i_sub, i_mul, i_and31, i_and1, i_shl1, i_shr, nI_or, i_cl, i_inP, i_nt, l_0, l_1, l_2, l_3, l_4, l_5, l_6, l_7, l_8, l_9, l_10, l_12, l_18, l_23, l_25, l_28, l_30, l_31, l_33, l_34, l_35, l_36, l_37, l_40, l_41, l_43, l_44, l_48, l_49, l_50, l_57, l_60, l_63, l_64, l_65, l_69, l_91, l_93, l_97, l_101, l_111, l_125, l_126, l_245, l_294, l_500, l_501, l_9999, l_1000000]; omega), fun _ => ⟨i_in hp (by decide), rfl⟩⟩⟩
theorem vc_X0_agreesAt (k k1 : Nat) (x2 : Int32) (I : wI) (hp : pre_X0_agreesAt k k1 x2 I) : v_X0_agreesAt k k1 x2 I (post_X0_agreesAt k k1 x2 I) := by
  refine ⟨hp, fun r1 h1 => ⟨hp, fun r2 h2 => ⟨fun e => ⟨Or.inl rfl, ?_⟩, fun e => ⟨hp, fun r3 h3 => ⟨hp, fun r4 h4 => ⟨fun e2 => ⟨Or.inl rfl, ?_⟩, fun e2 => ⟨Or.inr rfl, ?_⟩⟩⟩⟩⟩⟩⟩
  · show _ = if _ then _ else _
    rw [if_neg (fun h => e (by rw [h1, h2]; exact h.1))]
  · show _ = if _ then _ else _
    rw [if_neg (fun h => e2 (by rw [h3, h4]; exact h.2))]
  · show _ = if _ then _ else _
    rw [if_pos ⟨by rw [← h1, ← h2]; exact e, by rw [← h3, ← h4]; exact e2⟩]
theorem vl_X0_bringHome {k : Nat} {I : wI} : ∀ (m i : Nat) (I' : wI), i + m = 6 → (∀ p, p < i → I' (k + 1) p = nI p ∧ I' (k + 2) p = nI 0) → fr2 I I' (k + 1) (k + 2) → v_X0_bringHome_2 k (post_X0_bringHome k I) (m + 1) (nI i) I'
  | 0, i, I', e, h, hf => by
    obtain rfl : i = 6 := by omega
    exact ⟨fun _ => ⟨h, hf⟩, fun h => absurd (Int32.le_refl _) h⟩
  | m + 1, i, I', e, h, hf => by
    have hi : i < 6 := by omega
    refine ⟨fun h => absurd h (by simp (disch := omega) only [i_le, i_lt, i_eq, i_add, i_sub, i_mul, i_and31, i_and1, i_shl1, i_shr, nI_or, i_cl, i_inP, i_nt, l_0, l_1, l_2, l_3, l_4, l_5, l_6, l_7, l_8, l_9, l_10, l_12, l_18, l_23, l_25, l_28, l_30, l_31, l_33, l_34, l_35, l_36, l_37, l_40, l_41, l_43, l_44, l_48, l_49, l_50, l_57, l_60, l_63, l_64, l_65, l_69, l_91, l_93, l_97, l_101, l_111, l_125, l_126, l_245, l_294, l_500, l_501, l_9999, l_1000000]; omega), fun _ => ⟨i_in hi (by decide), fun I1 h1 => ⟨i_in hi (by decide), fun I2 h2 => ?_⟩⟩⟩
    rw [i_cl (by omega)] at h1 h2
    subst h1 h2
    rw [i_s]
    rw [l_0]
    exact vl_X0_bringHome m (i + 1) _ (by omega) (u2_lt (P := fun p x y => x = nI p ∧ y = nI 0) (by omega) h ⟨rfl, rfl⟩) (u2_fr hf)
theorem vc_X0_bringHome (k : Nat) (I : wI) (hp : pre_X0_bringHome k I) : v_X0_bringHome k I (post_X0_bringHome k I) := ⟨7, vl_X0_bringHome 6 0 I rfl (fun _ h => absurd h (Nat.not_lt_zero _)) (fun _ _ _ => rfl)⟩
theorem vl_X0_copyFrom {k k1 : Nat} {I : wI} (hd : dj k k1) : ∀ (m i : Nat) (I' : wI), i + m = 6 → (∀ p, p < i → I' (k + 1) p = I (k1 + 1) p ∧ I' (k + 2) p = I (k1 + 2) p) → fr2 I I' (k + 1) (k + 2) → v_X0_copyFrom_2 k k1 (post_X0_copyFrom k k1 I) (m + 1) (nI i) I'
  | 0, i, I', e, h, hf => by
    obtain rfl : i = 6 := by omega
    exact ⟨fun _ => ⟨h, hf⟩, fun h => absurd (Int32.le_refl _) h⟩
  | m + 1, i, I', e, h, hf => by
    have hi : i < 6 := by omega
    obtain ⟨d1, d2, d3⟩ := hd
    refine ⟨fun h => absurd h (by simp (disch := omega) only [i_le, i_lt, i_eq, i_add, i_sub, i_mul, i_and31, i_and1, i_shl1, i_shr, nI_or, i_cl, i_inP, i_nt, l_0, l_1, l_2, l_3, l_4, l_5, l_6, l_7, l_8, l_9, l_10, l_12, l_18, l_23, l_25, l_28, l_30, l_31, l_33, l_34, l_35, l_36, l_37, l_40, l_41, l_43, l_44, l_48, l_49, l_50, l_57, l_60, l_63, l_64, l_65, l_69, l_91, l_93, l_97, l_101, l_111, l_125, l_126, l_245, l_294, l_500, l_501, l_9999, l_1000000]; omega), fun _ => ⟨i_in hi (by decide), i_in hi (by decide), fun I1 h1 => ⟨i_in hi (by decide), i_in hi (by decide), fun I2 h2 => ?_⟩⟩⟩
    rw [i_cl (by omega)] at h1 h2
    rw [hf (k1 + 1) (by omega) (by omega)] at h1
    subst h1
    rw [wU_ne (by omega), hf (k1 + 2) (by omega) (by omega)] at h2
    subst h2
    rw [i_s]
    exact vl_X0_copyFrom ⟨d1, d2, d3⟩ m (i + 1) _ (by omega) (u2_lt (P := fun p x y => x = I (k1 + 1) p ∧ y = I (k1 + 2) p) (by omega) h ⟨rfl, rfl⟩) (u2_fr hf)
theorem vc_X0_copyFrom (k k1 : Nat) (I : wI) (hp : pre_X0_copyFrom k k1 I) : v_X0_copyFrom k k1 I (post_X0_copyFrom k k1 I) := ⟨7, vl_X0_copyFrom hp 6 0 I rfl (fun _ h => absurd h (Nat.not_lt_zero _)) (fun _ _ _ => rfl)⟩
theorem vl_X1_copyFrom {k k1 : Nat} {I : wI} (hd : dj k k1) : ∀ (m i : Nat) (I' : wI), i + m = 5 → (∀ p, p < i → I' (k + 1) p = I (k1 + 1) p ∧ I' (k + 2) p = I (k1 + 2) p) → fr2 I I' (k + 1) (k + 2) → v_X1_copyFrom_2 k k1 (post_X1_copyFrom k k1 I) (m + 1) (nI i) I'
  | 0, i, I', e, h, hf => by
    obtain rfl : i = 5 := by omega
    exact ⟨fun _ => ⟨h, hf⟩, fun h => absurd (Int32.le_refl _) h⟩
  | m + 1, i, I', e, h, hf => by
    have hi : i < 5 := by omega
    obtain ⟨d1, d2, d3⟩ := hd
    refine ⟨fun h => absurd h (by simp (disch := omega) only [i_le, i_lt, i_eq, i_add, i_sub, i_mul, i_and31, i_and1, i_shl1, i_shr, nI_or, i_cl, i_inP, i_nt, l_0, l_1, l_2, l_3, l_4, l_5, l_6, l_7, l_8, l_9, l_10, l_12, l_18, l_23, l_25, l_28, l_30, l_31, l_33, l_34, l_35, l_36, l_37, l_40, l_41, l_43, l_44, l_48, l_49, l_50, l_57, l_60, l_63, l_64, l_65, l_69, l_91, l_93, l_97, l_101, l_111, l_125, l_126, l_245, l_294, l_500, l_501, l_9999, l_1000000]; omega), fun _ => ⟨i_in hi (by decide), i_in hi (by decide), fun I1 h1 => ⟨i_in hi (by decide), i_in hi (by decide), fun I2 h2 => ?_⟩⟩⟩
    rw [i_cl (by omega)] at h1 h2
    rw [hf (k1 + 1) (by omega) (by omega)] at h1
    subst h1
    rw [wU_ne (by omega), hf (k1 + 2) (by omega) (by omega)] at h2
    subst h2
    rw [i_s]
    exact vl_X1_copyFrom ⟨d1, d2, d3⟩ m (i + 1) _ (by omega) (u2_lt (P := fun p x y => x = I (k1 + 1) p ∧ y = I (k1 + 2) p) (by omega) h ⟨rfl, rfl⟩) (u2_fr hf)
theorem vc_X1_copyFrom (k k1 : Nat) (I : wI) (hp : pre_X1_copyFrom k k1 I) : v_X1_copyFrom k k1 I (post_X1_copyFrom k k1 I) := ⟨6, vl_X1_copyFrom hp 5 0 I rfl (fun _ h => absurd h (Nat.not_lt_zero _)) (fun _ _ _ => rfl)⟩
theorem vl_X0_reach {k : Nat} {I : wI} (h : okD I k) : ∀ m i : Nat, i + m = 6 → v_X0_reach_4 k I (post_X0_reach k I) (m + 1) (nI (bits (rcB (dsc I k) (ntc I k)) i)) (nI i)
  | 0, i, e => by
    obtain rfl : i = 6 := by omega
    exact ⟨fun _ => rfl, fun h => absurd (Int32.le_refl _) h⟩
  | m + 1, i, e => by
    have hi : i < 6 := by omega
    obtain ⟨⟨hd, hd6⟩, hn, hn5⟩ := h i hi
    have ih := vl_X0_reach h m (i + 1) (by omega)
    have h2 := p2_6 hi
    rw [bits_succ] at ih
    show g_X0_reach_4 ..
    by_cases c1 : dsc I k i = i <;> by_cases c2 : ntc I k i = 0 <;>
      simp (disch := omega) only [rcB, c1, c2, ne_eq, not_true_eq_false, not_false_eq_true, or_true, true_or, or_false, false_or, or_self, and_self, decide_true, decide_false, if_true, if_false, reduceIte, Bool.false_eq_true, false_implies, true_implies, implies_true, true_and, and_true, false_and, and_false, forall_eq, forall_const] at ih <;>
      simp (disch := omega) only [g_X0_reach_4, v_X0_reach_35, v_X0_reach_29, hd, hn, i_le, i_lt, i_eq, i_add, i_sub, i_mul, i_and31, i_and1, i_shl1, i_shr, nI_or, i_cl, i_inP, i_nt, l_0, l_1, l_2, l_3, l_4, l_5, l_6, l_7, l_8, l_9, l_10, l_12, l_18, l_23, l_25, l_28, l_30, l_31, l_33, l_34, l_35, l_36, l_37, l_40, l_41, l_43, l_44, l_48, l_49, l_50, l_57, l_60, l_63, l_64, l_65, l_69, l_91, l_93, l_97, l_101, l_111, l_125, l_126, l_245, l_294, l_500, l_501, l_9999, l_1000000, c1, c2, Nat.not_le.2 hi, ne_eq, not_true_eq_false, not_false_eq_true, or_true, true_or, or_false, false_or, or_self, and_self, decide_true, decide_false, if_true, if_false, reduceIte, Bool.false_eq_true, false_implies, true_implies, implies_true, true_and, and_true, false_and, and_false, forall_eq, forall_const, ih]
theorem vc_X0_reach (k : Nat) (I : wI) (hp : pre_X0_reach k I) : v_X0_reach k I (post_X0_reach k I) := ⟨7, vl_X0_reach hp 6 0 rfl⟩
theorem vl_X0_notchSum {k : Nat} {I : wI} (h : okD I k) : ∀ m i : Nat, i + m = 6 → v_X0_notchSum_4 k I (post_X0_notchSum k I) (m + 1) (nI (sm (ntc I k) i)) (nI i)
  | 0, i, e => by
    obtain rfl : i = 6 := by omega
    exact ⟨fun _ => rfl, fun h => absurd (Int32.le_refl _) h⟩
  | m + 1, i, e => by
    have hi : i < 6 := by omega
    obtain ⟨⟨hd, hd6⟩, hn, hn5⟩ := h i hi
    have ih := vl_X0_notchSum h m (i + 1) (by omega)
    rw [sm_succ] at ih
    show g_X0_notchSum_4 ..
    simp (disch := omega) only [g_X0_notchSum_4, hd, hn, i_le, i_lt, i_eq, i_add, i_sub, i_mul, i_and31, i_and1, i_shl1, i_shr, nI_or, i_cl, i_inP, i_nt, l_0, l_1, l_2, l_3, l_4, l_5, l_6, l_7, l_8, l_9, l_10, l_12, l_18, l_23, l_25, l_28, l_30, l_31, l_33, l_34, l_35, l_36, l_37, l_40, l_41, l_43, l_44, l_48, l_49, l_50, l_57, l_60, l_63, l_64, l_65, l_69, l_91, l_93, l_97, l_101, l_111, l_125, l_126, l_245, l_294, l_500, l_501, l_9999, l_1000000, Nat.not_le.2 hi, ne_eq, not_true_eq_false, not_false_eq_true, or_true, true_or, or_false, false_or, or_self, and_self, decide_true, decide_false, if_true, if_false, reduceIte, Bool.false_eq_true, false_implies, true_implies, implies_true, true_and, and_true, false_and, and_false, forall_eq, forall_const, ih]
theorem vc_X0_notchSum (k : Nat) (I : wI) (hp : pre_X0_notchSum k I) : v_X0_notchSum k I (post_X0_notchSum k I) := ⟨7, vl_X0_notchSum hp 6 0 rfl⟩
theorem vl_X0_agreeing {k k1 : Nat} {I : wI} : ∀ m i : Nat, i + m = 6 → v_X0_agreeing_4 k k1 I (post_X0_agreeing k k1 I) (m + 1) (nI (sm (agB (I (k + 1)) (I (k + 2)) (I (k1 + 1)) (I (k1 + 2))) i)) (nI i)
  | 0, i, e => by
    obtain rfl : i = 6 := by omega
    exact ⟨fun _ => rfl, fun h => absurd (Int32.le_refl _) h⟩
  | m + 1, i, e => by
    have hi : i < 6 := by omega
    have ih := vl_X0_agreeing (k := k) (k1 := k1) (I := I) m (i + 1) (by omega)
    rw [sm_succ] at ih
    show g_X0_agreeing_4 ..
    by_cases c1 : I (k + 1) i = I (k1 + 1) i <;> by_cases c2 : I (k + 2) i = I (k1 + 2) i <;>
      simp (disch := omega) only [agB, c1, c2, ne_eq, not_true_eq_false, not_false_eq_true, or_true, true_or, or_false, false_or, or_self, and_self, decide_true, decide_false, if_true, if_false, reduceIte, Bool.false_eq_true, false_implies, true_implies, implies_true, true_and, and_true, false_and, and_false, forall_eq, forall_const, Nat.add_zero] at ih <;>
      simp (disch := omega) only [g_X0_agreeing_4, v_X0_agreeing_43, i_le, i_lt, i_eq, i_add, i_sub, i_mul, i_and31, i_and1, i_shl1, i_shr, nI_or, i_cl, i_inP, i_nt, l_0, l_1, l_2, l_3, l_4, l_5, l_6, l_7, l_8, l_9, l_10, l_12, l_18, l_23, l_25, l_28, l_30, l_31, l_33, l_34, l_35, l_36, l_37, l_40, l_41, l_43, l_44, l_48, l_49, l_50, l_57, l_60, l_63, l_64, l_65, l_69, l_91, l_93, l_97, l_101, l_111, l_125, l_126, l_245, l_294, l_500, l_501, l_9999, l_1000000, c1, c2, Nat.not_le.2 hi, ne_eq, not_true_eq_false, not_false_eq_true, or_true, true_or, or_false, false_or, or_self, and_self, decide_true, decide_false, if_true, if_false, reduceIte, Bool.false_eq_true, false_implies, true_implies, implies_true, true_and, and_true, false_and, and_false, forall_eq, forall_const, ih]
theorem vc_X0_agreeing (k k1 : Nat) (I : wI) (hp : pre_X0_agreeing k k1 I) : v_X0_agreeing k k1 I (post_X0_agreeing k k1 I) := ⟨7, vl_X0_agreeing 6 0 rfl⟩
theorem vl_X0_fingerprint {k : Nat} {I : wI} (h : okD I k) : ∀ m i : Nat, i + m = 6 → v_X0_fingerprint_4 k I (post_X0_fingerprint k I) (m + 1) (nI (fpU (dsc I k) (ntc I k) i)) (nI i)
  | 0, i, e => by
    obtain rfl : i = 6 := by omega
    exact ⟨fun _ => rfl, fun h => absurd (Int32.le_refl _) h⟩
  | m + 1, i, e => by
    have hi : i < 6 := by omega
    obtain ⟨⟨hd, hd6⟩, hn, hn5⟩ := h i hi
    have ih := vl_X0_fingerprint h m (i + 1) (by omega)
    rw [fpU] at ih
    show g_X0_fingerprint_4 ..
    simp (disch := omega) only [g_X0_fingerprint_4, hd, hn, i_le, i_lt, i_eq, i_add, i_sub, i_mul, i_and31, i_and1, i_shl1, i_shr, nI_or, i_cl, i_inP, i_nt, l_0, l_1, l_2, l_3, l_4, l_5, l_6, l_7, l_8, l_9, l_10, l_12, l_18, l_23, l_25, l_28, l_30, l_31, l_33, l_34, l_35, l_36, l_37, l_40, l_41, l_43, l_44, l_48, l_49, l_50, l_57, l_60, l_63, l_64, l_65, l_69, l_91, l_93, l_97, l_101, l_111, l_125, l_126, l_245, l_294, l_500, l_501, l_9999, l_1000000, Nat.not_le.2 hi, ne_eq, not_true_eq_false, not_false_eq_true, or_true, true_or, or_false, false_or, or_self, and_self, decide_true, decide_false, if_true, if_false, reduceIte, Bool.false_eq_true, false_implies, true_implies, implies_true, true_and, and_true, false_and, and_false, forall_eq, forall_const, ih]
theorem vc_X0_fingerprint (k : Nat) (I : wI) (hp : pre_X0_fingerprint k I) : v_X0_fingerprint k I (post_X0_fingerprint k I) := ⟨7, vl_X0_fingerprint hp 6 0 rfl⟩
theorem vl_X0_placeOf {k w : Nat} {I : wI} (h : okD I k) (hw : w < 6) : ∀ m i : Nat, i + m = 6 → v_X0_placeOf_4 k (nI w) I (post_X0_placeOf k (nI w) I) (m + 1) (nI (plU (dsc I k) w i)) (nI i)
  | 0, i, e => by
    obtain rfl : i = 6 := by omega
    exact ⟨fun _ => by unfold post_X0_placeOf; rw [i_nt (by omega)]; rfl, fun h => absurd (Int32.le_refl _) h⟩
  | m + 1, i, e => by
    have hi : i < 6 := by omega
    obtain ⟨⟨hd, hd6⟩, hn, hn5⟩ := h i hi
    have ih := vl_X0_placeOf h hw m (i + 1) (by omega)
    rw [plU] at ih
    show g_X0_placeOf_4 ..
    by_cases c1 : dsc I k i = w <;>
      simp (disch := omega) only [c1, ne_eq, not_true_eq_false, not_false_eq_true, or_true, true_or, or_false, false_or, or_self, and_self, decide_true, decide_false, if_true, if_false, reduceIte, Bool.false_eq_true, false_implies, true_implies, implies_true, true_and, and_true, false_and, and_false, forall_eq, forall_const] at ih <;>
      simp (disch := omega) only [g_X0_placeOf_4, v_X0_placeOf_22, hd, hn, i_le, i_lt, i_eq, i_add, i_sub, i_mul, i_and31, i_and1, i_shl1, i_shr, nI_or, i_cl, i_inP, i_nt, l_0, l_1, l_2, l_3, l_4, l_5, l_6, l_7, l_8, l_9, l_10, l_12, l_18, l_23, l_25, l_28, l_30, l_31, l_33, l_34, l_35, l_36, l_37, l_40, l_41, l_43, l_44, l_48, l_49, l_50, l_57, l_60, l_63, l_64, l_65, l_69, l_91, l_93, l_97, l_101, l_111, l_125, l_126, l_245, l_294, l_500, l_501, l_9999, l_1000000, c1, Nat.not_le.2 hi, ne_eq, not_true_eq_false, not_false_eq_true, or_true, true_or, or_false, false_or, or_self, and_self, decide_true, decide_false, if_true, if_false, reduceIte, Bool.false_eq_true, false_implies, true_implies, implies_true, true_and, and_true, false_and, and_false, forall_eq, forall_const, ih]
theorem vc_X0_placeOf (k : Nat) (x1 : Int32) (I : wI) (hp : pre_X0_placeOf k x1 I) : v_X0_placeOf k x1 I (post_X0_placeOf k x1 I) := by
  obtain ⟨h, w, hw, rfl⟩ := hp
  exact ⟨7, vl_X0_placeOf h hw 6 0 rfl⟩
theorem vl_X0_putAhead {k k1 : Nat} {I : wI} (h : okD I k) (h1 : okD I k1) (hd : dj k k1) : ∀ (m i : Nat) (I' : wI), i + m = 6 → (∀ p, p < i → I' (k + 1) p = nI (dsc I k1 (dsc I k p)) ∧ I' (k + 2) p = nI ((ntc I k p + ntc I k1 (dsc I k p)) % 5)) → (∀ p, i ≤ p → I' (k + 1) p = I (k + 1) p ∧ I' (k + 2) p = I (k + 2) p) → fr2 I I' (k + 1) (k + 2) → v_X0_putAhead_2 k k1 (post_X0_putAhead k k1 I) (m + 1) (nI i) I'
  | 0, i, I', e, h, hg, hf => by
    obtain rfl : i = 6 := by omega
    exact ⟨fun _ => ⟨h, hf⟩, fun h => absurd (Int32.le_refl _) h⟩
  | m + 1, i, I', e, hl, hg, hf => by
    have hi : i < 6 := by omega
    have hv := i_in (n := 6) hi (by decide)
    have hd' := hd
    obtain ⟨d1, d2, d3⟩ := hd'
    obtain ⟨⟨hda, hd6⟩, hna, hn5⟩ := h i hi
    obtain ⟨⟨hdb, hdb6⟩, hnb, hnb5⟩ := h1 _ hd6
    obtain ⟨ga, gb⟩ := hg i (Nat.le_refl _)
    have e1 : I' (k + 1) (nI i).toNatClampNeg = nI (dsc I k i) := by rw [i_cl (by omega), ga, hda]
    refine ⟨fun h => absurd h (by simp (disch := omega) only [i_le, i_lt, i_eq, i_add, i_sub, i_mul, i_and31, i_and1, i_shl1, i_shr, nI_or, i_cl, i_inP, i_nt, l_0, l_1, l_2, l_3, l_4, l_5, l_6, l_7, l_8, l_9, l_10, l_12, l_18, l_23, l_25, l_28, l_30, l_31, l_33, l_34, l_35, l_36, l_37, l_40, l_41, l_43, l_44, l_48, l_49, l_50, l_57, l_60, l_63, l_64, l_65, l_69, l_91, l_93, l_97, l_101, l_111, l_125, l_126, l_245, l_294, l_500, l_501, l_9999, l_1000000]; omega), fun _ => ⟨hv, ?_⟩⟩
    rw [e1, i_cl (show i < 2147483648 by omega)]
    refine ⟨⟨_, hd6, rfl⟩, fun r1 q1 => ⟨hv, fun I2 q2 => ⟨hv, ⟨_, hd6, rfl⟩, fun r3 q3 => ⟨hv, fun I4 q4 => ?_⟩⟩⟩⟩
    have q1' : r1 = nI (dsc I k1 (dsc I k i)) := by
      rw [q1, i_nt (by omega), hf (k1 + 1) (by omega) (by omega), hdb]
    subst q1'
    subst q2
    have q3' : r3 = nI (ntc I k1 (dsc I k i)) := by
      rw [q3, i_nt (by omega), wU_ne (by omega), hf (k1 + 2) (by omega) (by omega), hnb]
    subst q3'
    rw [wU_ne (by omega), gb, hna, i_add, l_5, i_rem (by omega) (by omega) (by omega)] at q4
    subst q4
    rw [i_s]
    exact vl_X0_putAhead h h1 hd m (i + 1) _ (by omega) (u2_lt (P := fun p x y => x = nI (dsc I k1 (dsc I k p)) ∧ y = nI ((ntc I k p + ntc I k1 (dsc I k p)) % 5)) (by omega) hl ⟨rfl, rfl⟩) (u2_ge (P := fun p x y => x = I (k + 1) p ∧ y = I (k + 2) p) (by omega) hg) (u2_fr hf)
theorem vc_X0_putAhead (k k1 : Nat) (I : wI) (hp : pre_X0_putAhead k k1 I) : v_X0_putAhead k k1 I (post_X0_putAhead k k1 I) := by
  obtain ⟨h, h1, hd⟩ := hp
  exact ⟨7, vl_X0_putAhead h h1 hd 6 0 I rfl (fun _ h => absurd h (Nat.not_lt_zero _)) (fun _ _ => ⟨rfl, rfl⟩) (fun _ _ _ => rfl)⟩
