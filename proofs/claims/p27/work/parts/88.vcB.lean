/-! ===== the law itself ===== -/
theorem no_at {I : wI} {x y r : Int32} (h : post_L_at x y I r) (hn : ¬ (isN 6 x ∧ isN 5 y)) : (¬ isN 6 x → r = -31) ∧ (isN 6 x → r = -32) := by
  rcases h with ⟨h, _⟩ | ⟨_, E, h2, h3⟩
  · exact absurd h hn
  · exact cdx ne_IO_IA h2 h3
theorem no_key {I I1 : wI} {x y r : Int32} (h : post_L_key x y I r I1) (hn : ¬ (isN 5 x ∧ isN 6 y)) : frX I I1 ∧ (¬ isN 5 x → r = -31) ∧ (isN 5 x → r = -32) := by
  rcases h with ⟨h, _⟩ | ⟨_, E, ⟨h1, h2⟩, h3⟩
  · exact absurd h hn
  · exact ⟨h1, cdx ne_IO_IA h2 h3⟩
theorem no_pair {I I1 : wI} {x y z r : Int32} (h : post_L_pair x y z I r I1) (hn : ¬ ((isN 5 x ∧ isN 5 y) ∧ isN 5 z)) : frX I I1 ∧ (¬ (isN 5 x ∧ isN 5 y) → r = -31) ∧ ((isN 5 x ∧ isN 5 y) → r = -32) := by
  rcases h with ⟨h, _⟩ | ⟨_, E, ⟨h1, h2⟩, h3⟩
  · exact absurd h hn
  · exact ⟨h1, cdx ne_IO_IA h2 h3⟩
theorem no_if {I I1 : wI} {x y r : Int32} (h : post_L_ifTurned x y I r I1) (hn : ¬ (isN 5 x ∧ isN 2 y)) : frX I I1 ∧ (¬ isN 5 x → r = -31) ∧ (isN 5 x → r = -32) := by
  rcases h with ⟨h, _⟩ | ⟨_, E, ⟨h1, h2⟩, h3⟩
  · exact absurd h hn
  · exact ⟨h1, cdx ne_IO_IA h2 h3⟩
theorem n10_10 : ¬ isN 10 10 := by rintro ⟨c, hc, e⟩; have := nI_inj (a := 10) (by decide) (by omega) e; omega
theorem n2_2 : ¬ isN 2 2 := by rintro ⟨c, hc, e⟩; have := nI_inj (a := 2) (by decide) (by omega) e; omega
theorem n6_5 : ¬ isN 5 6 := by rintro ⟨c, hc, e⟩; have := nI_inj (a := 6) (by decide) (by omega) e; omega
theorem y5_0 : isN 5 0 := ⟨0, by decide, rfl⟩
theorem y6_0 : isN 6 0 := ⟨0, by decide, rfl⟩
theorem one_ne : ¬ (1 : Int32) = 0 := by decide
/-- behind the last turn: what isn't there -/
theorem vl_law_end {I : wI} (h0 : invL I) {n : Nat} (hn : n ≤ 2900) {K : Nat → Int32 → wI → Prop} : g_L_law_156 () K n (nI 44) I := by
  refine ⟨by omega, fun _ => ⟨by omega, h0.1, fun r1 p1 => t_y ((no_at p1 (fun q => n6_6 q.1)).1 n6_6) ⟨by omega, h0.1, fun r2 p2 => t_y ((no_at p2 (fun q => n5_5 q.2)).2 y6_0) ⟨by omega, h0.1, fun r3 I4 p3 => ?_⟩⟩⟩, fun c => absurd (Int32.le_refl _) c⟩
  obtain ⟨f3, e3, _⟩ := no_key p3 (fun q => n5_5 q.1)
  obtain ⟨h4, _⟩ := act_X h0 f3
  refine t_y (e3 n5_5) ⟨by omega, h4.1, fun r5 I6 p5 => ?_⟩
  obtain ⟨f5, _, e5⟩ := no_key p5 (fun q => n6_6 q.2)
  obtain ⟨h6, _⟩ := act_X h4 f5
  refine t_y (e5 y5_0) ⟨by omega, h6.1, fun r7 I8 p7 => ?_⟩
  obtain ⟨f7, e7, _⟩ := no_pair p7 (fun q => n5_5 q.2)
  obtain ⟨h8, _⟩ := act_X h6 f7
  refine t_y (e7 (fun q => n5_5 q.2)) ⟨by omega, h8.1, fun r9 I10 p9 => ?_⟩
  obtain ⟨f9, _, e9⟩ := no_pair p9 (fun q => n5_5 q.2)
  obtain ⟨h10, _⟩ := act_X h8 f9
  refine t_y (e9 ⟨y5_0, y5_0⟩) ⟨by omega, h10.1, fun r11 p11 => t_y ?_ ⟨by omega, h10.1, fun r12 I13 p12 => ?_⟩⟩
  · rcases p11 with ⟨q, _⟩ | ⟨_, E, _, _, q⟩
    · exact absurd q n10_10
    · exact q
  have a13 : r12 = -32 ∧ invL I13 := by
    rcases p12 with ⟨q, _⟩ | ⟨_, E, ⟨f, _⟩, _, q⟩
    · exact absurd q n2_2
    · exact ⟨q, (act_X h10 f).1⟩
  refine t_y a13.1 ⟨by omega, a13.2.1, fun r14 I15 p14 => ?_⟩
  obtain ⟨f14, e14, _⟩ := no_if p14 (fun q => n5_5 q.1)
  obtain ⟨h15, _⟩ := act_X a13.2 f14
  refine t_y (e14 n5_5) ⟨by omega, h15.1, fun r16 I17 p16 => ?_⟩
  obtain ⟨f16, _, e16⟩ := no_if p16 (fun q => n2_2 q.2)
  exact t_y (e16 y5_0) ⟨by omega, rfl⟩
/-- one turn of the law -/
theorem vl_law_281 {I : wI} (h0 : invL I) {n t k : Nat} (hn : n ≤ 2900) {Kt : Nat → Int32 → wI → Prop} (hk : 1 ≤ k ∧ k ≤ 4) (hK : ∀ (n' : Nat) (I' : wI), n' ≤ n + 1 → invL I' → Kt n' (nI (t + 1)) I') : v_L_law_281 () Kt n (nI t) (nI k) I := by
  refine ⟨by omega, by omega, ⟨h0, k, hk.1, hk.2, rfl⟩, fun r1 I2 p1 => ?_⟩
  obtain ⟨e1, f1⟩ := p1
  have h2 := (invL_fr h0 f1).1
  refine t_y0 (by rw [e1]; exact one_ne) ⟨by omega, ?_⟩
  rw [i_s]
  exact hK _ I2 (by omega) h2
theorem vl_law_254 {I : wI} (h0 : invL I) {n t : Nat} (ht : t < 44) (hn : n ≤ 2900) {Kt : Nat → Int32 → wI → Prop} (hK : ∀ (n' : Nat) (I' : wI), n' ≤ n + 1 → invL I' → Kt n' (nI (t + 1)) I') : v_L_law_254 () Kt n (nI t) I := by
  refine ⟨by omega, fun _ => ⟨by omega, by rw [i_s]; exact hK n I (by omega) h0⟩, fun _ => ⟨fun _ => vl_law_281 (k := 2) h0 hn (by decide) hK, fun _ => vl_law_281 (k := 4) h0 hn (by decide) hK⟩⟩
theorem vl_law_211 {I : wI} (h0 : invL I) {n t : Nat} {t0 t1 : Int32} (ht : t < 44) (hn : n ≤ 2800) {Kt : Nat → Int32 → wI → Prop} (hK : ∀ (n' : Nat) (I' : wI), n' ≤ n + 36 → invL I' → Kt n' (nI (t + 1)) I') : v_L_law_211 () Kt n (nI t) t0 t1 I := by
  refine ⟨by omega, by omega, h0, fun r1 I2 p1 => ?_⟩
  obtain ⟨e1, h2⟩ := p1
  refine t_n0 (by rw [e1]; exact one_ne) ⟨h2, fun r3 p3 => ?_⟩
  have p3 : r3 = 1 := p3
  refine t_n0 (by rw [p3]; exact one_ne) ⟨fun _ => vl_law_254 h2 ht (by omega) (fun n' I' a b => hK n' I' (by omega) b), fun _ => ⟨by omega, h2, fun r4 I5 p4 => ?_⟩⟩
  obtain ⟨e4, f4⟩ := p4
  exact t_n0 (by rw [e4]; exact one_ne) (vl_law_254 (invL_fr h2 f4).1 ht (by omega) (fun n' I' a b => hK n' I' (by omega) b))
theorem vl_law_156 : ∀ (f t n : Nat) (I : wI), t + f = 44 → invL I → n ≤ 300 + 36 * t → v_L_law_156 () (f + 1) n (nI t) I
  | 0, t, n, I, e, h0, hn => by
    obtain rfl : t = 44 := by omega
    exact vl_law_end h0 (by omega)
  | f + 1, t, n, I, e, h0, hn => by
    have ht : t < 44 := by omega
    show g_L_law_156 ..
    unfold g_L_law_156
    rw [show ((44 : Int32) ≤ nI t) = (44 ≤ t) from i_le (a := 44) (by decide) (by omega), show (2 : Int32) * nI t = nI (2 * t) from i_mul 2 t, i_s]
    have go : ∀ t0 t1 : Int32, v_L_law_211 () (v_L_law_156 () (f + 1)) n (nI t) t0 t1 I := fun t0 t1 => vl_law_211 h0 ht (by omega) (fun n' I' a b => vl_law_156 f (t + 1) n' I' (by omega) b (by omega))
    have go2 : ∀ t0 t1 : Int32, v_L_law_199 () (v_L_law_156 () (f + 1)) n (nI t) t0 t1 I := fun t0 t1 => ⟨by omega, fun _ => go _ _, fun _ => go _ _⟩
    exact ⟨by omega, fun c => absurd c (by omega), fun _ => ⟨isN_nI (by omega), fun r18 _ => ⟨isN_nI (by omega), fun r19 _ => ⟨fun _ => go2 _ _, fun _ => go2 _ _⟩⟩⟩⟩
/-- the keys of the beginning, so far -/
def kyB (I1 I : wI) (i : Nat) : Prop := (∀ c, c ≠ 112 → I c = I1 c) ∧ (∀ c, c < i → I 112 c = rowC 1 sI (18 + c) ∧ I 112 (5 + c) = rowC 1 sI (23 + c)) ∧ ∀ c, c < 5 → I 112 (10 + c) = 0
theorem kyB_inv {I1 I : wI} (p1 : post_L_first 111 sI I1) (h : kyB I1 I 5) : invL I ∧ I 0 4 = 0 ∧ I 0 2 = 0 := by
  obtain ⟨h1, h2, h3⟩ := h
  have k : ∀ c, c ≠ 111 → c ≠ 112 → I c = sI c := fun c a b => by rw [h1 c b]; exact p1.2 c a
  obtain ⟨a1, a2, a3⟩ := lo_use s_okC (I1 := I) (fun c hc => k c (by omega) (by omega))
  obtain ⟨s33, s34, s35, s36, sns, s04, s02⟩ := s_cnt
  refine ⟨⟨a2, ?_⟩, by rw [k 0 (by decide) (by decide)]; exact s04, by rw [k 0 (by decide) (by decide)]; exact s02⟩
  rw [a3]
  have z : ∀ j, j < 15 → I 113 j = 0 := fun j hj => by rw [k 113 (by decide) (by decide)]; exact (s_zero j hj).2
  refine ⟨?_, fun c hc => ⟨(h2 c hc).1, (h2 c hc).2, by rw [s_use c hc]; exact h3 c hc⟩, ⟨by rw [z 0 (by decide), s33], by rw [z 1 (by decide), s35], by rw [z 2 (by decide), s36], 0, by decide, z 3 (by decide), s_stk⟩, fun q => ?_, ?_⟩
  · rw [h1 111 (by decide)]
    exact relD_cx (x := (idF, zF)) (fun p hp => s_pos p hp) p1.1
  · rw [s36] at q; exact absurd q (by decide)
  · rw [s34, sns]; rfl
theorem vl_law_fin {I1 I : wI} (p1 : post_L_first 111 sI I1) (h : kyB I1 I 5) {K : Nat → Int32 → wI → Prop} : g_L_law_36 () K 200 (nI 5) I := by
  obtain ⟨h0, z4, z2⟩ := kyB_inv p1 h
  refine ⟨by decide, fun _ => ⟨h0, fun r1 q1 => ?_⟩, fun c => absurd (Int32.le_refl _) c⟩
  have q1 : r1 = 1 := q1
  refine t_n0 (by rw [q1]; exact one_ne) ⟨by decide, h0, fun r2 I3 q2 => ?_⟩
  obtain ⟨e2, f2⟩ := q2
  have h3 := (invL_fr h0 f2).1
  refine t_n0 (by rw [e2]; exact one_ne) ⟨by decide, ⟨h3, 1, by decide, by decide, rfl⟩, fun r4 I5 q4 => ?_⟩
  obtain ⟨e4, f4⟩ := q4
  have h5 := (invL_fr h3 f4).1
  have z5 : I5 0 = I 0 := by rw [f4.1 0 (by omega), f2.1 0 (by omega)]
  refine t_n0 (by rw [e4]; exact one_ne) ⟨by decide, h5.1, fun r6 I7 q6 => ?_⟩
  have a6 : r6 = -33 ∧ frX I5 I7 := by
    rcases q6 with ⟨q, _⟩ | ⟨_, E, ⟨f, _⟩, _, q⟩
    · exact absurd (by rw [z5]; exact z4) q
    · exact ⟨q, f⟩
  have h7 := (act_X h5 a6.2).1
  have z7 : I7 0 = I 0 := by rw [a6.2.1 0 (by omega), z5]
  refine t_y a6.1 ⟨by decide, h7.1, fun r8 I9 q8 => ?_⟩
  have a8 : r8 = -33 ∧ frX I7 I9 := by
    rcases q8 with ⟨q, _⟩ | ⟨_, E, ⟨f, _⟩, _, q⟩
    · have q : I7 0 2 = 1 := q
      rw [z7, z2] at q; exact absurd q (by decide)
    · exact ⟨q, f⟩
  exact t_n a8.1 ⟨45, vl_law_156 44 0 _ I9 rfl (act_X h7 a8.2).1 (by decide)⟩
theorem vl_law_36 {I1 : wI} (p1 : post_L_first 111 sI I1) : ∀ (f i : Nat) (I : wI), i + f = 5 → kyB I1 I i → v_L_law_36 () (f + 1) 200 (nI i) I
  | 0, i, I, e, h => by
    obtain rfl : i = 5 := by omega
    exact vl_law_fin p1 h
  | f + 1, i, I, e, h => by
    have hi : i < 5 := by omega
    show g_L_law_36 ..
    unfold g_L_law_36
    rw [show ((5 : Int32) ≤ nI i) = (5 ≤ i) from i_le (a := 5) (by decide) (by omega), i_cl (show i < 2147483648 by omega), s_msk i hi]
    refine ⟨by decide, fun c => absurd c (by omega), fun _ => ⟨i_in (by omega) (by decide), fun I10 e10 => ?_⟩⟩
    have step : ∀ t : Int32, t = rowC 1 sI (23 + i) → v_L_law_89 () (v_L_law_36 () (f + 1)) 200 (nI i) t ((5 : Int32) + nI i) I10 := by
      intro t ht
      refine ⟨by decide, by rw [l_5, i_add]; exact i_in (by omega) (by decide), fun I2 e2 => ?_⟩
      rw [l_5, i_add, i_cl (by omega)] at e2
      rw [i_s]
      obtain ⟨k1, k2, k3⟩ := h
      refine vl_law_36 p1 f (i + 1) I2 (by omega) ⟨fun c hc => by rw [e2, e10, wU_ne hc, wU_ne hc]; exact k1 c hc, fun c hc => ?_, fun c hc => by rw [e2, e10, wU_off (Or.inr (by omega)), wU_off (Or.inr (by omega))]; exact k3 c hc⟩
      by_cases ec : c = i
      · subst ec
        exact ⟨by rw [e2, wU_off (Or.inr (by omega)), e10, wU_at], by rw [e2, wU_at, ht]⟩
      · obtain ⟨k4, k5⟩ := k2 c (by omega)
        exact ⟨by rw [e2, e10, wU_off (Or.inr (by omega)), wU_off (Or.inr (by omega))]; exact k4, by rw [e2, e10, wU_off (Or.inr (by omega)), wU_off (Or.inr (by omega))]; exact k5⟩
    have hs := s_str i hi
    rw [show (nI i = (4 : Int32)) = (i = 4) from i_eq (b := 4) (by omega) (by decide)]
    exact ⟨fun c => step _ (by rw [if_neg c] at hs; exact hs), fun c => step _ (by rw [if_pos c] at hs; exact hs)⟩
theorem vc_L_law : v_L_law_29 () 200 sI :=
  ⟨by decide, trivial, fun I1 p1 => ⟨6, vl_law_36 p1 5 0 I1 rfl ⟨fun _ _ => rfl, fun c hc => absurd hc (Nat.not_lt_zero _), fun c hc => by rw [p1.2 112 (by decide)]; exact (s_zero (10 + c) (by omega)).1⟩⟩⟩
