/-! ===== a row's entries ===== -/
theorem rc_d {k : Nat} {I : wI} {p : Nat} (h : p < 6) : rowC k I p = I (k + 2) p := by unfold rowC; rw [if_pos h]
theorem rc_n {k : Nat} {I : wI} {p : Nat} (h : p < 6) : rowC k I (6 + p) = I (k + 3) p := by
  unfold rowC; rw [if_neg (by omega), if_pos (by omega), show 6 + p - 6 = p by omega]
theorem rc_s {k : Nat} {I : wI} {p : Nat} (h : p < 6) : rowC k I (12 + p) = nI (tb (nt (I k 4)) p) := by
  unfold rowC; rw [if_neg (by omega), if_neg (by omega), if_pos (by omega), show 12 + p - 12 = p by omega]
theorem rc_M {k : Nat} {I : wI} {p : Nat} (h : p < 5) : rowC k I (18 + p) = I (k + 5) p := by
  unfold rowC; rw [if_neg (by omega), if_neg (by omega), if_neg (by omega), if_pos (by omega), show 18 + p - 18 = p by omega]
theorem rc_S {k : Nat} {I : wI} {p : Nat} (h : p < 5) : rowC k I (23 + p) = I (k + 6) p := by
  unfold rowC; rw [if_neg (by omega), if_neg (by omega), if_neg (by omega), if_neg (by omega), if_pos (by omega), show 23 + p - 23 = p by omega]
theorem rc_u {k : Nat} {I : wI} {p : Nat} (h : p < 5) : rowC k I (28 + p) = I (k + 10) p := by
  unfold rowC; rw [if_neg (by omega), if_neg (by omega), if_neg (by omega), if_neg (by omega), if_neg (by omega), if_pos (by omega), show 28 + p - 28 = p by omega]
theorem rc_33 {k : Nat} {I : wI} : rowC k I 33 = I k 6 := rfl
theorem rc_34 {k : Nat} {I : wI} : rowC k I 34 = I k 7 := rfl
theorem rc_35 {k : Nat} {I : wI} : rowC k I 35 = I k 8 := rfl
theorem rc_36 {k : Nat} {I : wI} : rowC k I 36 = I k 3 := rfl
theorem rc_sd {k : Nat} {I : wI} {p : Nat} (h : p < 6) : rowC k I (37 + p) = if I k 3 = 0 then 0 else I (k + 8) p := by
  unfold rowC
  rw [if_neg (by omega), if_neg (by omega), if_neg (by omega), if_neg (by omega), if_neg (by omega), if_neg (by omega), if_neg (by omega), if_neg (by omega), if_neg (by omega), if_neg (by omega), if_pos (by omega), show 37 + p - 37 = p by omega]
theorem rc_sn {k : Nat} {I : wI} {p : Nat} (h : p < 6) : rowC k I (43 + p) = if I k 3 = 0 then 0 else I (k + 9) p := by
  unfold rowC
  rw [if_neg (by omega), if_neg (by omega), if_neg (by omega), if_neg (by omega), if_neg (by omega), if_neg (by omega), if_neg (by omega), if_neg (by omega), if_neg (by omega), if_neg (by omega), if_neg (by omega), if_pos (by omega), show 43 + p - 43 = p by omega]
theorem aD_rc (k : Nat) (I : wI) : aD (rowC k I) = dsc I (k + 1) := by
  funext p
  unfold aD dsc
  split
  · rename_i h; rw [rc_d h]
  · rfl
theorem aN_rc (k : Nat) (I : wI) : aN (rowC k I) = ntc I (k + 1) := by
  funext p
  unfold aN ntc
  split
  · rename_i h; rw [rc_n h]
  · rfl
theorem okS_D {k : Nat} {I : wI} (h : okS k I) : okD I (k + 1) := by
  intro p hp
  have := h.1.1 p hp
  rw [aD_rc, aN_rc, rc_d hp, rc_n hp] at this
  exact this
theorem okS_K {k : Nat} {I : wI} (h : okS k I) : okK I (k + 4) := by
  intro c hc
  have := h.1.2.2.2.1 c hc
  unfold aM aS at this
  rw [rc_M hc, rc_S hc] at this
  exact ⟨⟨this.1.1, this.1.2.1⟩, this.2⟩
theorem okS_2 {k : Nat} {I : wI} (h : okS k I) {c : Nat} (hc : c < 5) : 2 ≤ pc6 (nt (I (k + 5) c)) := by
  have := h.1.2.2.2.1 c hc
  unfold aM at this
  rw [rc_M hc] at this
  exact this.1.2.2
/-! ===== stuck keys ===== -/
def mkU (M m : Nat) : Nat → Bool
  | 0 => false
  | n + 1 => mkU M m n || (decide (tb M n = 1) && decide (tb m n = 1))
theorem mkU_and : ∀ M, M < 64 → ∀ m, m < 64 → decide (M &&& m = 0) = !mkU M m 6 := by decide +kernel
theorem i_dec {a : Nat} (h : a < 2) : decide (nI a = (1 : Int32)) = decide (a = 1) := by
  have : a = 0 ∨ a = 1 := by omega
  rcases this with rfl | rfl <;> decide
theorem stU_mk {k c m : Nat} {I : wI} (hc : c < 5) (h : I k 4 = nI m) (hm : m < 64) : ∀ n, n ≤ 6 → stU (rowC k I) c n = mkU (nt (I (k + 5) c)) m n
  | 0, _ => rfl
  | n + 1, hn => by
    have ih := stU_mk hc h hm n (by omega)
    have hM : aM (rowC k I) c = nt (I (k + 5) c) := by unfold aM; rw [rc_M hc]
    have ht : tb m n < 2 := Nat.mod_lt _ (by decide)
    rw [stU, mkU, ih, hM, rc_s (by omega), h, i_nt (by omega), i_dec ht]
theorem vc_X3_allows (k : Nat) (x1 : Int32) (I : wI) (hp : pre_X3_allows k x1 I) : v_X3_allows k x1 I (post_X3_allows k x1 I) := by
  obtain ⟨hS, v, hv, rfl⟩ := hp
  have h5 : v % 5 < 5 := Nat.mod_lt _ (by decide)
  obtain ⟨⟨a1, a2⟩, b1, b2⟩ := okS_K hS _ h5
  obtain ⟨m, hm, em⟩ := hS.2
  refine ⟨⟨v, hv, rfl⟩, fun r1 h1 => ?_⟩
  unfold post_X5_keyOf at h1
  rw [i_nt (by omega)] at h1
  subst h1
  refine ⟨⟨_, h5, rfl⟩, fun r2 h2 => ?_⟩
  unfold post_X1_maskOf at h2
  rw [i_nt (by omega)] at h2
  subst h2
  have hq := mkU_and _ a2 m hm
  have hk := stU_mk h5 em hm 6 (Nat.le_refl _)
  have e0 : (I (k + 4 + 1) (v % 5) &&& I k 4 = 0) = (nt (I (k + 5) (v % 5)) &&& m = 0) := by
    rw [a1, em, nI_and, l_0, i_eq (Nat.lt_of_le_of_lt Nat.and_le_left (by omega)) (by decide), i_nt (by omega)]
  rw [e0]
  unfold v_X3_allows_24 post_X3_allows aStk
  rw [i_nt (by omega), hk]
  refine ⟨fun h => ⟨Or.inl rfl, ?_⟩, fun h => ⟨Or.inr rfl, ?_⟩⟩
  · rw [decide_eq_false h] at hq
    cases hh : mkU (nt (I (k + 5) (v % 5))) m 6
    · rw [hh] at hq; exact absurd hq (by decide)
    · rfl
  · rw [decide_eq_true h] at hq
    cases hh : mkU (nt (I (k + 5) (v % 5))) m 6
    · rfl
    · rw [hh] at hq; exact absurd hq (by decide)
theorem vl_X3_stuckKeys {k : Nat} {I : wI} (h : okS k I) : ∀ m i : Nat, i + m = 5 → v_X3_stuckKeys_4 k I (post_X3_stuckKeys k I) (m + 1) (nI (sm (fun c => if aStk (rowC k I) c then 1 else 0) i)) (nI i)
  | 0, i, e => by
    obtain rfl : i = 5 := by omega
    exact ⟨fun _ => rfl, fun h => absurd (Int32.le_refl _) h⟩
  | m + 1, i, e => by
    have hi : i < 5 := by omega
    have ih := vl_X3_stuckKeys h m (i + 1) (by omega)
    rw [sm_succ] at ih
    refine ⟨fun h => absurd h (by simp (disch := omega) only [i_le, i_lt, i_eq, i_add, i_sub, i_mul, i_and31, i_and1, i_shl1, i_shr, nI_or, i_cl, i_inP, i_nt, l_0, l_1, l_2, l_3, l_4, l_5, l_6, l_7, l_8, l_9, l_10, l_12, l_18, l_23, l_25, l_28, l_30, l_31, l_33, l_34, l_35, l_36, l_37, l_40, l_41, l_43, l_44, l_48, l_49, l_50, l_57, l_60, l_63, l_64, l_65, l_69, l_91, l_93, l_97, l_101, l_111, l_125, l_126, l_245, l_294, l_500, l_501, l_9999, l_1000000]; omega), fun _ => ⟨⟨h, i, by omega, rfl⟩, fun r1 h1 => ?_⟩⟩
    unfold post_X3_allows at h1
    rw [i_nt (by omega), Nat.mod_eq_of_lt hi] at h1
    unfold v_X3_stuckKeys_20
    rw [i_s]
    cases c : aStk (rowC k I) i
    · rw [c] at h1 ih
      subst h1
      exact ⟨fun _ => ih, fun h => absurd h (by decide)⟩
    · rw [c] at h1 ih
      subst h1
      exact ⟨fun h => absurd rfl h, fun _ => by rw [i_s]; exact ih⟩
theorem vc_X3_stuckKeys (k : Nat) (I : wI) (hp : pre_X3_stuckKeys k I) : v_X3_stuckKeys k I (post_X3_stuckKeys k I) := ⟨6, vl_X3_stuckKeys hp 5 0 rfl⟩
theorem vc_X3_usesOf (k : Nat) (x1 : Int32) (I : wI) (hp : pre_X3_usesOf k x1 I) : v_X3_usesOf k x1 I (post_X3_usesOf k x1 I) := by
  obtain ⟨c, hc, rfl⟩ := hp
  refine ⟨not_lt0 (by omega), fun _ => ⟨fun h => absurd h (by simp (disch := omega) only [i_le, i_lt, i_eq, i_add, i_sub, i_mul, i_and31, i_and1, i_shl1, i_shr, nI_or, i_cl, i_inP, i_nt, l_0, l_1, l_2, l_3, l_4, l_5, l_6, l_7, l_8, l_9, l_10, l_12, l_18, l_23, l_25, l_28, l_30, l_31, l_33, l_34, l_35, l_36, l_37, l_40, l_41, l_43, l_44, l_48, l_49, l_50, l_57, l_60, l_63, l_64, l_65, l_69, l_91, l_93, l_97, l_101, l_111, l_125, l_126, l_245, l_294, l_500, l_501, l_9999, l_1000000]; omega), fun _ => ⟨i_in hc (by decide), ?_⟩⟩⟩
  show _ = _
  rw [i_nt (by omega), rc_u hc, i_cl (by omega)]
/-! ===== as in the secret ===== -/
theorem aAs_cong {a f g f' g' : Nat → Int32} (h : ∀ p, p < 6 → f p = f' p ∧ g p = g' p) : aAs a f g = aAs a f' g' := by
  unfold aAs
  split
  · rfl
  · exact sm_cong (fun p hp => by rw [(h p hp).1, (h p hp).2])
theorem aAs_le (a f g : Nat → Int32) : aAs a f g ≤ 6 := by
  unfold aAs
  split
  · omega
  · have := sm_le (n := 6) (c := 1) (f := fun p => if f p = a (37 + p) ∧ g p = a (43 + p) then 1 else 0) (fun p _ => by split <;> omega)
    omega
theorem aRt_rc {k : Nat} {I : wI} : aAs (rowC k I) (I (k + 2)) (I (k + 3)) = aRt (rowC k I) :=
  aAs_cong (fun _ hp => ⟨(rc_d hp).symm, (rc_n hp).symm⟩)
theorem vc_X3_asInSecret (k k1 : Nat) (I : wI) (hp : pre_X3_asInSecret k k1 I) : v_X3_asInSecret k k1 I (post_X3_asInSecret k k1 I) := by
  refine ⟨fun h => ?_, fun h => ⟨trivial, fun r1 h1 => ?_⟩⟩
  · show _ = _
    unfold aAs
    rw [rc_36, if_pos h]; rfl
  · show _ = _
    rw [h1]
    unfold aAs
    rw [rc_36, if_neg h]
    congr 1
    apply sm_cong
    intro p hp
    unfold agB
    rw [rc_sd hp, rc_sn hp, if_neg h, if_neg h]
theorem vc_X3_opens (k : Nat) (I : wI) (hp : pre_X3_opens k I) : v_X3_opens k I (post_X3_opens k I) := by
  refine ⟨trivial, fun r1 h1 => ?_⟩
  unfold post_X3_asInSecret at h1
  have hle := aAs_le (rowC k I) (I (k + 2)) (I (k + 3))
  have e := aRt_rc (k := k) (I := I)
  rw [show r1 = nI (aRt (rowC k I)) by rw [h1, ← e]]
  rw [e] at hle
  rw [l_6, i_eq (by omega) (by omega)]
  refine ⟨fun h => ⟨Or.inl rfl, ?_⟩, fun h => ⟨Or.inr rfl, ?_⟩⟩
  · show _ = if _ then _ else _
    rw [if_neg h]
  · show _ = if _ then _ else _
    rw [if_pos h]
/-! ===== copies ===== -/
theorem rowC_cong {k k1 : Nat} {I I' : wI} (h2 : ∀ p, p < 6 → I' (k + 2) p = I (k1 + 2) p) (h3 : ∀ p, p < 6 → I' (k + 3) p = I (k1 + 3) p) (h5 : ∀ p, p < 5 → I' (k + 5) p = I (k1 + 5) p) (h6 : ∀ p, p < 5 → I' (k + 6) p = I (k1 + 6) p)
    (h8 : ∀ p, p < 6 → I' (k + 8) p = I (k1 + 8) p) (h9 : ∀ p, p < 6 → I' (k + 9) p = I (k1 + 9) p) (h10 : ∀ p, p < 5 → I' (k + 10) p = I (k1 + 10) p)
    (g : ∀ j, 3 ≤ j → j < 9 → j ≠ 5 → I' k j = I k1 j) : rowC k I' = rowC k1 I := by
  funext j
  unfold rowC
  rw [g 3 (by omega) (by omega) (by omega), g 4 (by omega) (by omega) (by omega), g 6 (by omega) (by omega) (by omega), g 7 (by omega) (by omega) (by omega), g 8 (by omega) (by omega) (by omega)]
  by_cases c1 : j < 6
  · rw [if_pos c1, if_pos c1, h2 j c1]
  rw [if_neg c1, if_neg c1]
  by_cases c2 : j < 12
  · rw [if_pos c2, if_pos c2, h3 _ (by omega)]
  rw [if_neg c2, if_neg c2]
  by_cases c3 : j < 18
  · rw [if_pos c3, if_pos c3]
  rw [if_neg c3, if_neg c3]
  by_cases c4 : j < 23
  · rw [if_pos c4, if_pos c4, h5 _ (by omega)]
  rw [if_neg c4, if_neg c4]
  by_cases c5 : j < 28
  · rw [if_pos c5, if_pos c5, h6 _ (by omega)]
  rw [if_neg c5, if_neg c5]
  by_cases c6 : j < 33
  · rw [if_pos c6, if_pos c6, h10 _ (by omega)]
  rw [if_neg c6, if_neg c6]
  by_cases c7 : j < 43
  · by_cases c8 : j < 37
    · have : j = 33 ∨ j = 34 ∨ j = 35 ∨ j = 36 := by omega
      rcases this with rfl | rfl | rfl | rfl <;> rfl
    · rw [h8 (j - 37) (by omega)]
      simp only [if_neg (show ¬ j = 33 by omega), if_neg (show ¬ j = 34 by omega), if_neg (show ¬ j = 35 by omega), if_neg (show ¬ j = 36 by omega), if_pos c7]
  · by_cases c9 : j < 49
    · rw [h9 (j - 43) (by omega)]
      simp only [if_neg (show ¬ j = 33 by omega), if_neg (show ¬ j = 34 by omega), if_neg (show ¬ j = 35 by omega), if_neg (show ¬ j = 36 by omega), if_neg c7, if_pos c9]
    · simp only [if_neg (show ¬ j = 33 by omega), if_neg (show ¬ j = 34 by omega), if_neg (show ¬ j = 35 by omega), if_neg (show ¬ j = 36 by omega), if_neg c7, if_neg c9]
/-- a row stays, if its cells do -/
theorem rowC_fr {k : Nat} {I I' : wI} (h : ∀ c, k ≤ c → c < k + 11 → I' c = I c) : rowC k I' = rowC k I :=
  rowC_cong (fun _ _ => by rw [h (k + 2) (by omega) (by omega)]) (fun _ _ => by rw [h (k + 3) (by omega) (by omega)]) (fun _ _ => by rw [h (k + 5) (by omega) (by omega)]) (fun _ _ => by rw [h (k + 6) (by omega) (by omega)])
    (fun _ _ => by rw [h (k + 8) (by omega) (by omega)]) (fun _ _ => by rw [h (k + 9) (by omega) (by omega)]) (fun _ _ => by rw [h (k + 10) (by omega) (by omega)]) (fun _ _ _ _ => by rw [h k (by omega) (by omega)])
theorem okS_fr {k : Nat} {I I' : wI} (h : ∀ c, k ≤ c → c < k + 11 → I' c = I c) (hS : okS k I) : okS k I' := by
  unfold okS
  rw [rowC_fr h, h k (by omega) (by omega)]
  exact hS
theorem okS_copy {k k1 : Nat} {I I' : wI} (h : post_X3_copyFrom k k1 I I') (hS : okS k1 I) : okS k I' := by
  unfold okS
  rw [h.1, h.2.1]
  exact hS
theorem vl_X3_copyFrom {k k1 : Nat} {I : wI} (hd : dS k k1) (Q : wI → Prop)
    (hQ : ∀ I' : wI, (∀ p, p < 5 → I' (k + 10) p = I (k1 + 10) p) → (∀ j, j < 6 → I' k j = I k j) → I' k 6 = I k1 6 → I' k 7 = I k1 7 → I' k 8 = I k1 8 → (∀ c, c ≠ k + 10 → c ≠ k → I' c = I c) → Q I') :
    ∀ (m i : Nat) (I' : wI), i + m = 5 → (∀ p, p < i → I' (k + 10) p = I (k1 + 10) p) → (∀ c, c ≠ k + 10 → I' c = I c) → v_X3_copyFrom_51 k k1 Q (m + 1) (nI i) I'
  | 0, i, I', e, h, hf => by
    obtain rfl : i = 5 := by omega
    unfold dS at hd
    refine ⟨fun _ I1 q1 I2 q2 I3 q3 => ?_, fun h => absurd (Int32.le_refl _) h⟩
    rw [hf k1 (by omega)] at q1
    rw [q1, wU_ne (by omega), hf k1 (by omega)] at q2
    rw [q2, wU_ne (by omega), wU_ne (by omega), hf k1 (by omega)] at q3
    subst q3
    refine hQ _ (fun p hp => ?_) (fun j hj => ?_) ?_ ?_ ?_ (fun c h1 h2 => ?_)
    · rw [wU_ne (by omega), wU_ne (by omega), wU_ne (by omega)]; exact h p hp
    · rw [wU_off (Or.inr (by omega)), wU_off (Or.inr (by omega)), wU_off (Or.inr (by omega)), hf k (by omega)]
    · rw [wU_off (Or.inr (by omega)), wU_off (Or.inr (by omega)), wU_at]
    · rw [wU_off (Or.inr (by omega)), wU_at]
    · rw [wU_at]
    · rw [wU_ne h2, wU_ne h2, wU_ne h2]; exact hf c h1
  | m + 1, i, I', e, h, hf => by
    have hi : i < 5 := by omega
    have hd' := hd
    unfold dS at hd'
    refine ⟨fun h => absurd h (by simp (disch := omega) only [i_le, i_lt, i_eq, i_add, i_sub, i_mul, i_and31, i_and1, i_shl1, i_shr, nI_or, i_cl, i_inP, i_nt, l_0, l_1, l_2, l_3, l_4, l_5, l_6, l_7, l_8, l_9, l_10, l_12, l_18, l_23, l_25, l_28, l_30, l_31, l_33, l_34, l_35, l_36, l_37, l_40, l_41, l_43, l_44, l_48, l_49, l_50, l_57, l_60, l_63, l_64, l_65, l_69, l_91, l_93, l_97, l_101, l_111, l_125, l_126, l_245, l_294, l_500, l_501, l_9999, l_1000000]; omega), fun _ => ⟨i_in hi (by decide), i_in hi (by decide), fun I4 q => ?_⟩⟩
    rw [i_cl (by omega), hf (k1 + 10) (by omega)] at q
    subst q
    rw [i_s]
    refine vl_X3_copyFrom hd Q hQ m (i + 1) _ (by omega) (fun p hp => ?_) (fun c hc => by rw [wU_ne hc]; exact hf c hc)
    by_cases e : p = i
    · subst e; exact wU_at
    · rw [wU_off (Or.inr e)]; exact h p (by omega)
theorem vc_X3_copyFrom (k k1 : Nat) (I : wI) (hp : pre_X3_copyFrom k k1 I) : v_X3_copyFrom k k1 I (post_X3_copyFrom k k1 I) := by
  obtain ⟨hd, hb⟩ := hp
  have hd' := hd
  unfold dS at hd
  refine ⟨⟨by omega, by omega, by omega⟩, fun I1 h1 => ⟨⟨by omega, by omega, by omega⟩, fun I2 h2 => ⟨⟨by omega, by omega, by omega⟩, fun I3 h3 => ?_⟩⟩⟩
  have ek1 : ∀ c, (c < k ∨ k + 11 ≤ c) → I3 c = I c := fun c hc => by
    rw [h3.2 c (by omega) (by omega), h2.2 c (by omega) (by omega), h1.2 c (by omega) (by omega)]
  have e0 : I3 k = I k := by rw [h3.2 k (by omega) (by omega), h2.2 k (by omega) (by omega), h1.2 k (by omega) (by omega)]
  refine ⟨by rw [ek1 k1 (by omega)]; exact hb, fun I4 q4 I5 q5 => ⟨6, ?_⟩⟩
  rw [ek1 k1 (by omega)] at q4
  rw [q4, wU_ne (by omega), ek1 k1 (by omega)] at q5
  have e5 : ∀ c, c ≠ k → I5 c = I3 c := fun c hc => by rw [q5, wU_ne hc, wU_ne hc]
  refine vl_X3_copyFrom hd' _ ?_ 5 0 I5 rfl (fun _ h => absurd h (Nat.not_lt_zero _)) (fun _ _ => rfl)
  intro I' g10 g0 g6 g7 g8 gf
  have ef : ∀ c, c ≠ k → c ≠ k + 10 → I' c = I3 c := fun c h1 h2 => by rw [gf c h2 h1, e5 c h1]
  rw [e5 k1 (by omega), ek1 k1 (by omega)] at g6 g7 g8
  have g3 : I' k 3 = I k1 3 := by rw [g0 3 (by omega), q5, wU_off (Or.inr (by omega)), wU_at]
  have g4 : I' k 4 = I k1 4 := by rw [g0 4 (by omega), q5, wU_at]
  refine ⟨rowC_cong ?_ ?_ ?_ ?_ ?_ ?_ ?_ ?_, g4, ?_⟩
  · intro p hp; rw [ef _ (by omega) (by omega), h3.2 _ (by omega) (by omega), h2.2 _ (by omega) (by omega)]; exact (h1.1 p hp).1
  · intro p hp; rw [ef _ (by omega) (by omega), h3.2 _ (by omega) (by omega), h2.2 _ (by omega) (by omega)]; exact (h1.1 p hp).2
  · intro p hp; rw [ef _ (by omega) (by omega), h3.2 _ (by omega) (by omega)]; rw [show k1 + 5 = k1 + 4 + 1 from rfl, ← h1.2 (k1 + 4 + 1) (by omega) (by omega)]; exact (h2.1 p hp).1
  · intro p hp; rw [ef _ (by omega) (by omega), h3.2 _ (by omega) (by omega)]; rw [show k1 + 6 = k1 + 4 + 2 from rfl, ← h1.2 (k1 + 4 + 2) (by omega) (by omega)]; exact (h2.1 p hp).2
  · intro p hp; rw [ef _ (by omega) (by omega), show k1 + 8 = k1 + 7 + 1 from rfl, ← h1.2 (k1 + 7 + 1) (by omega) (by omega), ← h2.2 (k1 + 7 + 1) (by omega) (by omega)]; exact (h3.1 p hp).1
  · intro p hp; rw [ef _ (by omega) (by omega), show k1 + 9 = k1 + 7 + 2 from rfl, ← h1.2 (k1 + 7 + 2) (by omega) (by omega), ← h2.2 (k1 + 7 + 2) (by omega) (by omega)]; exact (h3.1 p hp).2
  · intro p hp; rw [g10 p hp, e5 _ (by omega), ek1 _ (by omega)]
  · intro j h3 h9 h5
    have : j = 3 ∨ j = 4 ∨ j = 6 ∨ j = 7 ∨ j = 8 := by omega
    rcases this with rfl | rfl | rfl | rfl | rfl <;> assumption
  · intro c hc
    rw [ef c (by omega) (by omega), ek1 c hc]
