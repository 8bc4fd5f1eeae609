/-! ===== what would be ===== -/
theorem vc_X5_ifTurned (x1 x2 : Int32) (I : wI) (hp : pre_X5_ifTurned x1 x2 I) : v_X5_ifTurned x1 x2 I (post_X5_ifTurned x1 x2 I) := by
  obtain ⟨h0, hk, b, hb, rfl⟩ := hp
  have hR := h0.1.1
  refine ⟨hk, fun _ => ⟨fun h => absurd h (nI_lt0 (by omega)), fun _ => ⟨fun _ => ⟨⟨by decide, by decide, by decide⟩, fun I1 h1 => ?_⟩, fun h => absurd (show nI b ≤ 1 by rw [l_1, i_le (by omega) (by decide)]; omega) h⟩⟩⟩
  obtain ⟨c, hc, rfl⟩ := hk
  have key : ∀ t : Int32, (t = 0 ∨ t = 1) → nt t = b → v_X5_ifTurned_59 (nI c) (nI b) (post_X5_ifTurned (nI c) (nI b) I) t (nI c) I1 := by
    intro t ht hb'
    refine ⟨⟨⟨c, hc, rfl⟩, ht⟩, fun r1 q1 => ?_⟩
    unfold post_X5_moveOf at q1
    rw [i_nt (by omega), hb'] at q1
    subst q1
    have hv : 5 * b + c < 10 := by omega
    have e1 : ef I1 33 (aD (rowC 1 I)) (aN (rowC 1 I)) := by
      intro p hp
      rw [(h1.1 p hp).1, (h1.1 p hp).2, aD_rc, aN_rc]
      have := okS_D h0.1 p hp
      exact ⟨this.1.1, this.2.1⟩
    have kE := okE_aR hR
    obtain ⟨q6, q7⟩ := fr2_67 (k := 33) h1.2 (by decide)
    refine ⟨⟨ef_D e1 kE (nrm_aD _) (nrm_aN _), okK_fr h0.1 q6 q7, _, hv, rfl⟩, fun I2 h2 => ⟨trivial, fun r3 h3 => ?_⟩⟩
    obtain ⟨g1, g2⟩ := mv_step q6 q7 e1 kE (nrm_aD _) (nrm_aN _) hv h2
    have f2 := fr2_trans h1.2 g2
    have er : rowC 1 I2 = rowC 1 I := rowC_fr (fun c a b => f2 c (by omega) (by omega))
    refine ⟨?_, frX_2 (k := 33) f2 (by decide)⟩
    unfold post_X3_asInSecret at h3
    rw [h3, i_nt (by omega), i_nt (by omega), er]
    refine congrArg nI ?_
    unfold aIf aRt
    have : ∀ f g : Nat → Int32, aAs (aTr (rowC 1 I) (5 * b + c)) f g = aAs (rowC 1 I) f g := by
      intro f g
      unfold aAs
      rw [aTr_o (by omega)]
      split
      · rfl
      · refine sm_cong (fun p hp => ?_)
        rw [aTr_o (by omega), aTr_o (by omega)]
    rw [this]
    refine aAs_cong (fun p hp => ?_)
    rw [aTr_d hp, aTr_n hp]
    exact g1 p hp
  have hb3 : b = 0 ∨ b = 1 := by omega
  rcases hb3 with rfl | rfl
  · exact ⟨fun _ => key 0 (Or.inl rfl) rfl, fun h => absurd h (by decide)⟩
  · exact ⟨fun h => absurd rfl h, fun _ => key 1 (Or.inr rfl) rfl⟩
theorem vc_X5_ifTurnedx (x1 x2 : Int32) (I : wI) (hp : pre_X5_ifTurnedx x1 x2 I) : v_X5_ifTurnedx x1 x2 I (exc_X5_ifTurned x1 x2 I) := by
  obtain ⟨h0, hn⟩ := hp
  refine ⟨fun ok => ⟨ok, fun _ => ⟨fun _ => ⟨frX_refl I, Or.inr ⟨ok, rfl⟩⟩, fun e0 => ⟨fun e1 => absurd ⟨ok, isN_le (n := 1) (by decide) e0 e1⟩ hn, fun _ => ⟨frX_refl I, Or.inr ⟨ok, rfl⟩⟩⟩⟩⟩, fun no => ⟨no, fun E hE => ⟨frX_refl I, Or.inl ⟨no, hE⟩⟩⟩⟩
/-! the pair with the least reach -/
def clM (a : Nat → Int32) (t : Nat) : Nat := pc6 (rcF (wD a (prL (t / 5) (t % 5)) idF) (wN a (prL (t / 5) (t % 5)) zF))
theorem clS_s (a : Nat → Int32) (t : Nat) : clS a (t + 1) = if t / 5 < t % 5 ∧ clM a t < (clS a t).2 then (nI t, clM a t) else clS a t := rfl
theorem clS_le (a : Nat → Int32) : ∀ t, (clS a t).2 ≤ 7
  | 0 => Nat.le_refl _
  | t + 1 => by
    rw [clS_s]
    split
    · show clM a t ≤ 7
      have := pc6_le (rcF (wD a (prL (t / 5) (t % 5)) idF) (wN a (prL (t / 5) (t % 5)) zF))
      unfold clM; omega
    · exact clS_le a t
theorem clS_skip (a : Nat → Int32) {f : Nat} (hf : f < 5) : ∀ j, j ≤ f + 1 → j ≤ 5 → clS a (5 * f + j) = clS a (5 * f)
  | 0, _, _ => rfl
  | j + 1, h, h5 => by
    rw [show 5 * f + (j + 1) = 5 * f + j + 1 by omega, clS_s, if_neg (by omega), clS_skip a hf j (by omega) (by omega)]
theorem vl_X5_closest_17 {I : wI} (h0 : okC I) (Q : Int32 → wI → Prop) (K : Int32 → Int32 → Int32 → wI → Prop) {f : Nat} (hf : f < 5) (hK : ∀ I', frX I I' → K (clS (rowC 1 I) (5 * (f + 1))).1 (nI (clS (rowC 1 I) (5 * (f + 1))).2) (nI (f + 1)) I') :
    ∀ (m j : Nat) (I' : wI), j + m = 5 → f < j → frX I I' → v_X5_closest_17 Q K (m + 1) (clS (rowC 1 I) (5 * f + j)).1 (nI (clS (rowC 1 I) (5 * f + j)).2) (nI f) (nI j) I'
  | 0, j, I', e, hj, hX => by
    obtain rfl : j = 5 := by omega
    refine ⟨fun _ => ?_, fun h => absurd (Int32.le_refl _) h⟩
    rw [i_s]
    exact hK I' hX
  | m + 1, j, I', e, hj, hX => by
    obtain ⟨hA, hC⟩ := absC_frX h0 hX
    have er : rowC 1 I' = rowC 1 I := congrFun hA 0
    refine ⟨fun h => absurd h (by simp (disch := omega) only [i_le, i_lt, i_eq, i_add, i_sub, i_mul, i_and31, i_and1, i_shl1, i_shr, nI_or, i_cl, i_inP, i_nt, l_0, l_1, l_2, l_3, l_4, l_5, l_6, l_7, l_8, l_9, l_10, l_12, l_18, l_23, l_25, l_28, l_30, l_31, l_33, l_34, l_35, l_36, l_37, l_40, l_41, l_43, l_44, l_48, l_49, l_50, l_57, l_60, l_63, l_64, l_65, l_69, l_91, l_93, l_97, l_101, l_111, l_125, l_126, l_245, l_294, l_500, l_501, l_9999, l_1000000]; omega), fun _ => ⟨⟨hC, ⟨f, hf, rfl⟩, j, by omega, rfl⟩, fun I1 h1 => ?_⟩⟩
    unfold post_X5_showPair at h1
    rw [i_nt (by omega), i_nt (by omega), er] at h1
    obtain ⟨g1, g2⟩ := h1
    have kE := okE_w h0.1.1 (prL f j) idF zF (prL_lt hf (by omega)) okE_id nrm_id nrm_z
    have gD := ef_D g1 kE.1 kE.2.1 kE.2.2
    have gd := ef_d g1 kE.1 kE.2.1
    have gn := ef_n g1 kE.1 kE.2.2
    have gX := frX_trans hX (frX_2 (k := 30) g2 (by decide))
    have hl := rcF_lt (dsc I1 30) (ntc I1 30)
    refine ⟨gD, fun r2 h2 => ⟨⟨_, hl, h2⟩, fun r3 h3 => ?_⟩⟩
    unfold post_X0_reach at h2; unfold post_J_bitCount at h3
    rw [h2, i_nt (by omega), gd, gn] at h3
    have eM : clM (rowC 1 I) (5 * f + j) = pc6 (rcF (wD (rowC 1 I) (prL f j) idF) (wN (rowC 1 I) (prL f j) zF)) := by
      unfold clM; rw [show (5 * f + j) / 5 = f by omega, show (5 * f + j) % 5 = j by omega]
    rw [← eM] at h3
    have hM : clM (rowC 1 I) (5 * f + j) ≤ 6 := by rw [eM]; exact pc6_le _
    have ih := vl_X5_closest_17 h0 Q K hf hK m (j + 1) I1 (by omega) (by omega) gX
    rw [show 5 * f + (j + 1) = 5 * f + j + 1 by omega, clS_s] at ih
    have h7 := clS_le (rowC 1 I) (5 * f + j)
    subst h3
    unfold v_X5_closest_58
    rw [i_le (by omega) (by omega), i_s]
    refine ⟨fun c => ?_, fun c => ?_⟩
    · rw [if_neg (by omega)] at ih; exact ih
    · rw [if_pos (by omega)] at ih
      rw [l_5, i_mul, i_add]; exact ih
theorem vl_X5_closest_7 {I : wI} (h0 : okC I) : ∀ (m f : Nat) (I' : wI), f + m = 5 → frX I I' → v_X5_closest_7 (post_X5_closest I) (m + 1) (clS (rowC 1 I) (5 * f)).1 (nI (clS (rowC 1 I) (5 * f)).2) (nI f) I'
  | 0, f, I', e, hX => by
    obtain rfl : f = 5 := by omega
    exact ⟨fun _ => ⟨rfl, hX⟩, fun h => absurd (Int32.le_refl _) h⟩
  | m + 1, f, I', e, hX => by
    refine ⟨fun h => absurd h (by simp (disch := omega) only [i_le, i_lt, i_eq, i_add, i_sub, i_mul, i_and31, i_and1, i_shl1, i_shr, nI_or, i_cl, i_inP, i_nt, l_0, l_1, l_2, l_3, l_4, l_5, l_6, l_7, l_8, l_9, l_10, l_12, l_18, l_23, l_25, l_28, l_30, l_31, l_33, l_34, l_35, l_36, l_37, l_40, l_41, l_43, l_44, l_48, l_49, l_50, l_57, l_60, l_63, l_64, l_65, l_69, l_91, l_93, l_97, l_101, l_111, l_125, l_126, l_245, l_294, l_500, l_501, l_9999, l_1000000]; omega), fun _ => ⟨5 - (f + 1) + 1, ?_⟩⟩
    rw [i_s]
    have := vl_X5_closest_17 h0 (post_X5_closest I) (v_X5_closest_7 (post_X5_closest I) (m + 1)) (f := f) (by omega) (fun I'' hX' => vl_X5_closest_7 h0 m (f + 1) I'' (by omega) hX') (5 - (f + 1)) (f + 1) I' (by omega) (by omega) hX
    rw [clS_skip _ (by omega) (f + 1) (Nat.le_refl _) (by omega)] at this
    exact this
theorem vc_X5_closest (I : wI) (hp : pre_X5_closest I) : v_X5_closest I (post_X5_closest I) := ⟨6, vl_X5_closest_7 hp 5 0 I rfl (frX_refl I)⟩
