/-! ===== turning a key: which position a disc comes from ===== -/
def rP (bk i : Nat) : Nat := if bk = 0 then i else 5 - i
def rF (M bk : Nat) : Nat → Nat
  | 0 => 6
  | i + 1 => if tb M (rP bk i) = 1 then (if rF M bk i = 6 then rP bk i else rF M bk i) else rF M bk i
def rC (M bk : Nat) : Nat → Nat
  | 0 => 0
  | i + 1 => if tb M (rP bk i) = 1 then rP bk i else rC M bk i
def rM (M bk : Nat) : Nat → Nat → Nat
  | 0, _ => 7
  | i + 1, p => if tb M (rP bk i) = 1 ∧ rF M bk i ≠ 6 ∧ p = rP bk i then rC M bk i else rM M bk i p
theorem rP_lt {bk i : Nat} (h : i < 6) : rP bk i < 6 := by unfold rP; split <;> omega
theorem rP_inj {bk i j : Nat} (h : i < 6) (hj : j < 6) (e : rP bk i = rP bk j) : i = j := by unfold rP at e; split at e <;> omega
theorem rF_le (M bk : Nat) : ∀ i, i ≤ 6 → rF M bk i ≤ 6
  | 0, _ => Nat.le_refl _
  | i + 1, h => by
    have h1 := rF_le M bk i (by omega)
    have h2 := rP_lt (bk := bk) (show i < 6 by omega)
    unfold rF
    split
    · split <;> omega
    · exact h1
theorem rC_lt (M bk : Nat) : ∀ i, i ≤ 6 → rC M bk i < 6
  | 0, _ => by show 0 < 6; decide
  | i + 1, h => by
    have h1 := rC_lt M bk i (by omega)
    have h2 := rP_lt (bk := bk) (show i < 6 by omega)
    unfold rC
    split <;> omega
theorem rM_end0 : ∀ M, M < 64 → ∀ p, p < 6 → (if rF M 0 6 = 6 then rM M 0 6 p else if p = rF M 0 6 then rC M 0 6 else rM M 0 6 p) = if tb M p = 1 then src M 0 p else 7 := by decide +kernel
theorem rM_end1 : ∀ M, M < 64 → ∀ p, p < 6 → (if rF M 1 6 = 6 then rM M 1 6 p else if p = rF M 1 6 then rC M 1 6 else rM M 1 6 p) = if tb M p = 1 then src M 1 p else 7 := by decide +kernel
theorem rM_end {M bk p : Nat} (hM : M < 64) (hb : bk = 0 ∨ bk = 1) (hp : p < 6) : (if rF M bk 6 = 6 then rM M bk 6 p else if p = rF M bk 6 then rC M bk 6 else rM M bk 6 p) = if tb M p = 1 then src M bk p else 7 := by
  rcases hb with rfl | rfl
  · exact rM_end0 M hM p hp
  · exact rM_end1 M hM p hp
/-- what stands at a position, by the number of its source: 7 is none -/
def rV (x : Int32) (m : Nat) (y : Nat → Nat) : Int32 := if m = 7 then x else nI (y m)
theorem src_lt0 : ∀ M, M < 64 → ∀ p, p < 6 → src M 0 p < 6 ∧ src M 1 p < 6 := by decide +kernel
theorem src_lt {M bk p : Nat} (hM : M < 64) (hb : bk = 0 ∨ bk = 1) (hp : p < 6) : src M bk p < 6 := by
  rcases hb with rfl | rfl
  · exact (src_lt0 M hM p hp).1
  · exact (src_lt0 M hM p hp).2
theorem i_m1 {j : Nat} (h : j < 2147483648) : ¬ nI j = (-1 : Int32) := by
  intro e
  have h1 := nI_lt0 h
  rw [e] at h1
  exact h1 (by decide)
theorem i_m1q {j : Nat} (h : j < 2147483648) : (nI j = (-1 : Int32)) = False := eq_false (i_m1 h)
theorem i_tb {M p : Nat} (hM : M < 2147483648) (hp : p < 32) : ((nI M >>> (nI p &&& 31)) &&& 1 = 1) = (tb M p = 1) := by
  have h1 : M / 2 ^ p < 2147483648 := Nat.lt_of_le_of_lt (Nat.div_le_self _ _) hM
  rw [show (31 : Int32) = nI 31 from rfl, i_and31 hp, i_shr hp hM, l_1, i_and1 h1, i_eq (by omega) (by decide)]
  rfl
theorem vl_X0_rotate {k M s bk : Nat} {I : wI} (h : okD I k) (hM : M < 64) (hb : bk = 0 ∨ bk = 1) (hs : s ≤ 5) (x2 : Int32) (Q : wI → Prop)
    (hQ : ∀ I' : wI, (∀ p, p < 6 → I' (k + 1) p = rV (I (k + 1) p) (if tb M p = 1 then src M bk p else 7) (dsc I k) ∧ I' (k + 2) p = rV (I (k + 2) p) (if tb M p = 1 then src M bk p else 7) (fun q => (ntc I k q + s) % 5)) → fr2 I I' (k + 1) (k + 2) → Q I') :
    ∀ (m i : Nat) (I' : wI) (v5 v6 v7 : Int32), i + m = 6 → (∀ p, p < 6 → I' (k + 1) p = rV (I (k + 1) p) (rM M bk i p) (dsc I k) ∧ I' (k + 2) p = rV (I (k + 2) p) (rM M bk i p) (fun q => (ntc I k q + s) % 5)) →
      (∀ j, i ≤ j → j < 6 → rM M bk i (rP bk j) = 7) → fr2 I I' (k + 1) (k + 2) → (v5 = if rF M bk i = 6 then -1 else nI (rF M bk i)) → (rF M bk i ≠ 6 → v6 = nI (dsc I k (rC M bk i)) ∧ v7 = nI ((ntc I k (rC M bk i) + s) % 5)) →
      v_X0_rotate_25 k (nI M) x2 (nI bk) Q (m + 1) (nI s) v5 v6 v7 (nI i) I'
  | 0, i, I', v5, v6, v7, e, hp, hz, hf, h5, h6 => by
    obtain rfl : i = 6 := by omega
    refine ⟨fun _ => ?_, fun h => absurd (Int32.le_refl _) h⟩
    have hF := rF_le M bk 6 (by omega)
    have hE := fun p hp => rM_end (p := p) hM hb hp
    by_cases c : rF M bk 6 = 6
    · rw [if_pos c] at h5
      simp only [if_pos c] at hE
      subst h5
      refine ⟨fun _ => hQ _ (fun p hq => ?_) hf, fun h => absurd (by decide) h⟩
      rw [← hE p hq]; exact hp p hq
    · rw [if_neg c] at h5
      simp only [if_neg c] at hE
      obtain ⟨a6, a7⟩ := h6 c
      subst h5 a6 a7
      have hv : vp_in (nI (rF M bk 6)) 6 := i_in (by omega) (by decide)
      refine ⟨not_lt0 (by omega), fun _ => ⟨fun h => absurd h (by simp (disch := omega) only [i_le, i_lt, i_eq, i_add, i_sub, i_mul, i_and31, i_and1, i_shl1, i_shr, nI_or, i_cl, i_inP, i_nt, l_0, l_1, l_2, l_3, l_4, l_5, l_6, l_7, l_8, l_9, l_10, l_12, l_18, l_23, l_25, l_28, l_30, l_31, l_33, l_34, l_35, l_36, l_37, l_40, l_41, l_43, l_44, l_48, l_49, l_50, l_57, l_60, l_63, l_64, l_65, l_69, l_91, l_93, l_97, l_101, l_111, l_125, l_126, l_245, l_294, l_500, l_501, l_9999, l_1000000]; omega), fun _ => ⟨hv, fun I1 q1 => ⟨hv, fun I2 q2 => ?_⟩⟩⟩⟩
      rw [i_cl (by omega)] at q1 q2
      subst q1 q2
      refine hQ _ (fun p hq => ?_) (u2_fr hf)
      rw [← hE p hq]
      by_cases e : p = rF M bk 6
      · subst e
        rw [if_pos rfl, wU_off (Or.inl (by omega)), wU_at, wU_at]
        have : rC M bk 6 < 6 := rC_lt M bk 6 (by omega)
        exact ⟨by rw [rV, if_neg (by omega)], by rw [rV, if_neg (by omega)]⟩
      · rw [if_neg e, wU_off (Or.inl (by omega)), wU_off (Or.inr e), wU_off (Or.inr e), wU_off (Or.inr e)]
        exact hp p hq
  | m + 1, i, I', v5, v6, v7, e, hp, hz, hf, h5, h6 => by
    have hi : i < 6 := by omega
    have hP := rP_lt (bk := bk) hi
    have hF := rF_le M bk i (by omega)
    have hC := rC_lt M bk i (by omega)
    have hv : vp_in (nI (rP bk i)) 6 := i_in hP (by decide)
    have ih := vl_X0_rotate h hM hb hs x2 Q hQ m (i + 1)
    obtain ⟨⟨hda, hd6⟩, hna, hn5⟩ := h _ hP
    have hz0 := hz i (Nat.le_refl _) hi
    obtain ⟨ga, gb⟩ := hp _ hP
    rw [hz0, rV, if_pos rfl] at ga gb
    refine ⟨fun h => absurd h (by simp (disch := omega) only [i_le, i_lt, i_eq, i_add, i_sub, i_mul, i_and31, i_and1, i_shl1, i_shr, nI_or, i_cl, i_inP, i_nt, l_0, l_1, l_2, l_3, l_4, l_5, l_6, l_7, l_8, l_9, l_10, l_12, l_18, l_23, l_25, l_28, l_30, l_31, l_33, l_34, l_35, l_36, l_37, l_40, l_41, l_43, l_44, l_48, l_49, l_50, l_57, l_60, l_63, l_64, l_65, l_69, l_91, l_93, l_97, l_101, l_111, l_125, l_126, l_245, l_294, l_500, l_501, l_9999, l_1000000]; omega), fun _ => ?_⟩
    have key : v_X0_rotate_45 k (nI M) x2 (nI bk) Q (v_X0_rotate_25 k (nI M) x2 (nI bk) Q (m + 1)) (nI s) v5 v6 v7 (nI i) (nI (rP bk i)) I' := by
      unfold v_X0_rotate_45 v_X0_rotate_111 v_X0_rotate_119
      rw [i_tb (by omega) (by omega), i_s, i_cl (by omega), ga, hda, gb, hna, i_add, l_5, i_rem (by omega) (by omega) (by omega)]
      refine ⟨fun c => ?_, fun c => ⟨hv, hv, fun c5 => ⟨hv, fun I1 q1 => ⟨hv, fun I2 q2 => ?_⟩⟩, fun c5 => ?_⟩⟩
      · refine ih I' v5 v6 v7 (by omega) ?_ ?_ hf ?_ ?_
        · intro p hq; rw [rM, if_neg (fun h => c h.1)]; exact hp p hq
        · intro j hj hj6; rw [rM, if_neg (fun h => c h.1)]; exact hz j (by omega) hj6
        · rw [rF, if_neg c]; exact h5
        · rw [rF, if_neg c, rC, if_neg c]; exact h6
      · have cF : rF M bk i ≠ 6 := fun e => c5 (by rw [h5, if_pos e])
        obtain ⟨a6, a7⟩ := h6 cF
        subst a6 a7
        subst q1 q2
        refine ih _ v5 _ _ (by omega) ?_ ?_ (u2_fr hf) ?_ ?_
        · intro p hq
          by_cases e : p = rP bk i
          · subst e
            rw [rM, if_pos ⟨c, cF, rfl⟩, wU_off (Or.inl (by omega)), wU_at, wU_at]
            exact ⟨by rw [rV, if_neg (by omega)], by rw [rV, if_neg (by omega)]⟩
          · rw [rM, if_neg (fun h => e h.2.2), wU_off (Or.inl (by omega)), wU_off (Or.inr e), wU_off (Or.inr e), wU_off (Or.inr e)]
            exact hp p hq
        · intro j hj hj6
          rw [rM, if_neg (fun h => by have := rP_inj hj6 hi h.2.2; omega)]
          exact hz j (by omega) hj6
        · rw [rF, if_pos c, if_neg cF]; exact h5
        · intro _; rw [rC, if_pos c]; exact ⟨rfl, rfl⟩
      · have cF : rF M bk i = 6 := by
          apply Decidable.byContradiction
          intro e
          rw [if_neg e] at h5
          rw [h5] at c5
          exact i_m1 (by omega) c5
        refine ih I' _ _ _ (by omega) ?_ ?_ hf ?_ ?_
        · intro p hq; rw [rM, if_neg (fun h => h.2.1 cF)]; exact hp p hq
        · intro j hj hj6; rw [rM, if_neg (fun h => h.2.1 cF)]; exact hz j (by omega) hj6
        · rw [rF, if_pos c, if_pos cF, if_neg (by omega)]
        · intro _; rw [rC, if_pos c]; exact ⟨rfl, rfl⟩
    rcases hb with rfl | rfl
    · refine ⟨fun _ => key, fun h => absurd rfl h⟩
    · refine ⟨fun h => absurd h (by decide), fun _ => ?_⟩
      rw [l_5, i_sub (by omega)]
      exact key
theorem vc_X0_rotate (k : Nat) (x1 x2 x3 : Int32) (I : wI) (hp : pre_X0_rotate k x1 x2 x3 I) : v_X0_rotate k x1 x2 x3 I (post_X0_rotate k x1 x2 x3 I) := by
  obtain ⟨h, ⟨M, hM, rfl⟩, ⟨s, hs, rfl⟩, hb⟩ := hp
  have fin : ∀ (bk w : Nat), bk = 0 ∨ bk = 1 → (w = if bk = 0 then s else 5 - s) → v_X0_rotate_11 k (nI M) (nI s) (nI bk) (post_X0_rotate k (nI M) (nI s) (nI bk) I) (nI w) I := by
    intro bk w hb hw
    refine ⟨7, vl_X0_rotate h hM hb (by subst hw; split <;> omega) (nI s) _ ?_ 6 0 I _ _ _ rfl (fun p hq => ⟨rfl, rfl⟩) (fun _ _ _ => rfl) (fun _ _ _ => rfl) rfl (fun h => absurd rfl h)⟩
    intro I' h1 h2
    refine ⟨fun p hq => ?_, h2⟩
    obtain ⟨a1, a2⟩ := h1 p hq
    obtain ⟨⟨b1, _⟩, b2, b3⟩ := h p hq
    rw [a1, a2, i_nt (by omega), i_nt (by omega), i_nt (by omega), mvD, mvN, if_pos hq, if_pos hq, ← hw]
    have hS := src_lt hM hb hq
    by_cases c : tb M p = 1
    · simp only [if_pos c, rV, if_neg (show ¬ src M bk p = 7 by omega), true_and]
    · simp only [if_neg c, rV, if_true, b1, b2, true_and, src]
  rcases hb with rfl | rfl
  · exact ⟨fun _ => fin 0 s (Or.inl rfl) rfl, fun h => absurd rfl h⟩
  · refine ⟨fun h => absurd h (by decide), fun _ => ?_⟩
    rw [l_5, i_sub (by omega)]
    exact fin 1 (5 - s) (Or.inr rfl) rfl
/-! ===== keys ===== -/
theorem vc_X1_maskOf (k : Nat) (x1 : Int32) (I : wI) (hp : pre_X1_maskOf k x1 I) : v_X1_maskOf k x1 I (post_X1_maskOf k x1 I) := by
  obtain ⟨p, hp, rfl⟩ := hp
  exact ⟨not_lt0 (by omega), fun _ => ⟨fun h => absurd h (by simp (disch := omega) only [i_le, i_lt, i_eq, i_add, i_sub, i_mul, i_and31, i_and1, i_shl1, i_shr, nI_or, i_cl, i_inP, i_nt, l_0, l_1, l_2, l_3, l_4, l_5, l_6, l_7, l_8, l_9, l_10, l_12, l_18, l_23, l_25, l_28, l_30, l_31, l_33, l_34, l_35, l_36, l_37, l_40, l_41, l_43, l_44, l_48, l_49, l_50, l_57, l_60, l_63, l_64, l_65, l_69, l_91, l_93, l_97, l_101, l_111, l_125, l_126, l_245, l_294, l_500, l_501, l_9999, l_1000000]; omega), fun _ => ⟨i_in hp (by decide), rfl⟩⟩⟩
theorem vc_X1_strengthOf (k : Nat) (x1 : Int32) (I : wI) (hp : pre_X1_strengthOf k x1 I) : v_X1_strengthOf k x1 I (post_X1_strengthOf k x1 I) := by
  obtain ⟨p, hp, rfl⟩ := hp
  exact ⟨not_lt0 (by omega), fun _ => ⟨fun h => absurd h (by simp (disch := omega) only [i_le, i_lt, i_eq, i_add, i_sub, i_mul, i_and31, i_and1, i_shl1, i_shr, nI_or, i_cl, i_inP, i_nt, l_0, l_1, l_2, l_3, l_4, l_5, l_6, l_7, l_8, l_9, l_10, l_12, l_18, l_23, l_25, l_28, l_30, l_31, l_33, l_34, l_35, l_36, l_37, l_40, l_41, l_43, l_44, l_48, l_49, l_50, l_57, l_60, l_63, l_64, l_65, l_69, l_91, l_93, l_97, l_101, l_111, l_125, l_126, l_245, l_294, l_500, l_501, l_9999, l_1000000]; omega), fun _ => ⟨i_in hp (by decide), rfl⟩⟩⟩
theorem vc_X1_shape (k : Nat) (x1 x2 x3 : Int32) (I : wI) (hp : pre_X1_shape k x1 x2 x3 I) : v_X1_shape k x1 x2 x3 I (post_X1_shape k x1 x2 x3 I) := by
  obtain ⟨p, hp, rfl⟩ := hp
  exact ⟨not_lt0 (by omega), fun _ => ⟨fun h => absurd h (by simp (disch := omega) only [i_le, i_lt, i_eq, i_add, i_sub, i_mul, i_and31, i_and1, i_shl1, i_shr, nI_or, i_cl, i_inP, i_nt, l_0, l_1, l_2, l_3, l_4, l_5, l_6, l_7, l_8, l_9, l_10, l_12, l_18, l_23, l_25, l_28, l_30, l_31, l_33, l_34, l_35, l_36, l_37, l_40, l_41, l_43, l_44, l_48, l_49, l_50, l_57, l_60, l_63, l_64, l_65, l_69, l_91, l_93, l_97, l_101, l_111, l_125, l_126, l_245, l_294, l_500, l_501, l_9999, l_1000000]; omega), fun _ => ⟨i_in hp (by decide), fun I1 h1 => ⟨i_in hp (by decide), fun I2 h2 => by rw [h2, h1]; rfl⟩⟩⟩⟩
theorem vl_X1_keysAt {k p : Nat} {I : wI} (h : okK I k) (hp : p < 6) : ∀ m i : Nat, i + m = 5 → v_X1_keysAt_4 k (nI p) I (post_X1_keysAt k (nI p) I) (m + 1) (nI (bits (kaB I k p) i)) (nI i)
  | 0, i, e => by
    obtain rfl : i = 5 := by omega
    exact ⟨fun _ => by unfold post_X1_keysAt; rw [i_nt (by omega)], fun h => absurd (Int32.le_refl _) h⟩
  | m + 1, i, e => by
    have hi : i < 5 := by omega
    obtain ⟨⟨hd, hd6⟩, hn, hn5⟩ := h i hi
    have ih := vl_X1_keysAt h hp m (i + 1) (by omega)
    have h2 := p2_6 (show i < 6 by omega)
    rw [bits_succ] at ih
    have hcl : I (k + 1) (nI i).toNatClampNeg = nI (nt (I (k + 1) i)) := by rw [i_cl (by omega)]; exact hd
    refine ⟨fun h => absurd h (by simp (disch := omega) only [i_le, i_lt, i_eq, i_add, i_sub, i_mul, i_and31, i_and1, i_shl1, i_shr, nI_or, i_cl, i_inP, i_nt, l_0, l_1, l_2, l_3, l_4, l_5, l_6, l_7, l_8, l_9, l_10, l_12, l_18, l_23, l_25, l_28, l_30, l_31, l_33, l_34, l_35, l_36, l_37, l_40, l_41, l_43, l_44, l_48, l_49, l_50, l_57, l_60, l_63, l_64, l_65, l_69, l_91, l_93, l_97, l_101, l_111, l_125, l_126, l_245, l_294, l_500, l_501, l_9999, l_1000000]; omega), fun _ => ⟨i_in hi (by decide), ?_⟩⟩
    rw [hcl, i_tb (by omega) (by omega)]
    unfold v_X1_keysAt_29
    rw [i_s]
    refine ⟨fun c => ?_, fun c => ?_⟩
    · rw [kaB, decide_eq_false c] at ih
      simpa only [ne_eq, not_true_eq_false, not_false_eq_true, or_true, true_or, or_false, false_or, or_self, and_self, decide_true, decide_false, if_true, if_false, reduceIte, Bool.false_eq_true, false_implies, true_implies, implies_true, true_and, and_true, false_and, and_false, forall_eq, forall_const] using ih
    · rw [kaB, decide_eq_true c] at ih
      simp only [ne_eq, not_true_eq_false, not_false_eq_true, or_true, true_or, or_false, false_or, or_self, and_self, decide_true, decide_false, if_true, if_false, reduceIte, Bool.false_eq_true, false_implies, true_implies, implies_true, true_and, and_true, false_and, and_false, forall_eq, forall_const] at ih
      rw [show (31 : Int32) = nI 31 from rfl, i_and31 (by omega), l_1, i_shl1 (by omega), nI_or]
      exact ih
theorem vc_X1_keysAt (k : Nat) (x1 : Int32) (I : wI) (hp : pre_X1_keysAt k x1 I) : v_X1_keysAt k x1 I (post_X1_keysAt k x1 I) := by
  obtain ⟨h, p, hp, rfl⟩ := hp
  exact ⟨6, vl_X1_keysAt h hp 5 0 rfl⟩
theorem vc_X1_move (k k1 : Nat) (x2 : Int32) (I : wI) (hp : pre_X1_move k k1 x2 I) : v_X1_move k k1 x2 I (post_X1_move k k1 x2 I) := by
  obtain ⟨hD, hK, v, hv, rfl⟩ := hp
  have h5 : v % 5 < 5 := Nat.mod_lt _ (by decide)
  obtain ⟨⟨a1, a2⟩, b1, b2⟩ := hK _ h5
  refine ⟨⟨v, hv, rfl⟩, fun r1 h1 => ?_⟩
  unfold post_X5_keyOf at h1
  rw [i_nt (by omega)] at h1
  subst h1
  refine ⟨⟨_, h5, rfl⟩, fun r2 h2 => ⟨⟨_, h5, rfl⟩, fun r3 h3 => ⟨⟨v, hv, rfl⟩, fun r4 h4 => ?_⟩⟩⟩
  unfold post_X1_maskOf at h2; unfold post_X1_strengthOf at h3; unfold post_X5_isBack at h4
  rw [i_nt (by omega)] at h2 h3 h4
  subst h2 h3 h4
  have hq : nI (v / 5) = 0 ∨ nI (v / 5) = 1 := by
    have : v / 5 = 0 ∨ v / 5 = 1 := by omega
    rcases this with e | e <;> rw [e]
    · exact Or.inl rfl
    · exact Or.inr rfl
  refine ⟨⟨hD, ⟨_, a2, a1⟩, ⟨_, b2, b1⟩, hq⟩, fun I5 h5 => ?_⟩
  unfold post_X0_rotate at h5
  unfold post_X1_move
  rw [i_nt (show v < 2147483648 by omega)]
  rw [i_nt (show v / 5 < 2147483648 by omega)] at h5
  exact h5
theorem pc6_le (m : Nat) : pc6 m ≤ 6 := by
  have : pc6 m ≤ 6 * 1 := sm_le (fun k _ => by unfold tb; omega)
  exact this
theorem vc_X1_notchesBy (k : Nat) (x1 : Int32) (I : wI) (hp : pre_X1_notchesBy k x1 I) : v_X1_notchesBy k x1 I (post_X1_notchesBy k x1 I) := by
  obtain ⟨hK, v, hv, rfl⟩ := hp
  have h5 : v % 5 < 5 := Nat.mod_lt _ (by decide)
  obtain ⟨⟨a1, a2⟩, b1, b2⟩ := hK _ h5
  refine ⟨⟨v, hv, rfl⟩, fun r1 h1 => ?_⟩
  unfold post_X5_keyOf at h1
  rw [i_nt (by omega)] at h1
  subst h1
  refine ⟨⟨_, h5, rfl⟩, fun r2 h2 => ⟨⟨_, h5, rfl⟩, fun r3 h3 => ?_⟩⟩
  unfold post_X1_strengthOf at h2; unfold post_X1_maskOf at h3
  rw [i_nt (by omega)] at h2 h3
  subst h2 h3
  refine ⟨⟨_, a2, a1⟩, fun r4 h4 => ⟨⟨v, hv, rfl⟩, fun r5 h5 => ?_⟩⟩
  unfold post_J_bitCount at h4; unfold post_X5_isBack at h5
  rw [i_nt (by omega)] at h5
  subst h4 h5
  unfold v_X1_notchesBy_33 post_X1_notchesBy
  rw [i_nt (show v < 2147483648 by omega), b1, i_mul, ← b1]
  refine ⟨fun e => ?_, fun e => ?_⟩
  · rw [l_0, i_eq (by omega) (by omega)] at e
    rw [if_pos (by omega)]
  · rw [l_0, i_eq (by omega) (by omega)] at e
    rw [if_neg (by omega)]
