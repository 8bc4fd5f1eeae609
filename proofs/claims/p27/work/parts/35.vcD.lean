/-! ===== calls that save ===== -/
theorem save_row {I I1 : wI} (h : post_X5_save I I1) : rowC 1 I1 = rowC 1 I := rowC_fr (fun c a b => h.2.1 c (by omega) (by omega))
theorem now_use {I I1 I2 : wI} {a : Nat → Int32} (h : post_X5_save I I1) (hf : fr 1 11 I1 I2) (e : rowC 1 I2 = a) (hS : okS 1 I2) : okP I I2 (aNow (aSv (absC I)) a) := by
  obtain ⟨⟨b1, b2, b3⟩, _⟩ := h
  obtain ⟨c1, c2⟩ := absC_now b2 hf hS
  exact ⟨by rw [c1, b1, e], c2, fun c hc => by rw [hf c (by omega), b3 c hc]⟩
theorem mv5 {c : Nat} (b : Nat) (hc : c < 5) : (5 * b + c) % 5 = c := by omega
theorem vc_X5_turnOnce (x1 x2 : Int32) (I : wI) (hp : pre_X5_turnOnce x1 x2 I) : v_X5_turnOnce x1 x2 I (post_X5_turnOnce x1 x2 I) := by
  obtain ⟨h0, ⟨⟨c, hc, rfl⟩, hk⟩, hb⟩ := hp
  have hb2 : nt x2 < 2 := by rcases hb with rfl | rfl <;> decide
  refine ⟨⟨c, hc, rfl⟩, fun _ => ⟨⟨⟨c, hc, rfl⟩, hb⟩, fun r1 h1 => ?_⟩⟩
  unfold post_X5_moveOf at h1
  rw [i_nt (by omega)] at h1 hk
  have hv : 5 * nt x2 + c < 10 := by omega
  refine ⟨⟨h0.1, _, hv, h1⟩, fun r2 h2 => ?_⟩
  unfold post_X3_allows at h2
  rw [h1, i_nt (by omega), mv5 _ hc, hk] at h2
  refine ⟨fun _ => ⟨h0, fun I3 h3 => ⟨⟨h3.1.2.1.1, _, hv, h1⟩, fun I4 h4 => ⟨trivial, fun r5 h5 => ?_⟩⟩⟩, fun e => by rw [h2] at e; exact absurd e (by decide)⟩
  obtain ⟨m1, m2, m3⟩ := h4
  rw [h1, i_nt (by omega), save_row h3] at m1
  refine ⟨?_, ?_⟩
  · rw [h5, i_nt (by omega), ← m1, ← aRt_rc]
  · rw [i_nt (by omega)]
    exact now_use h3 m3 m1 m2
theorem vc_X5_turnOncex (x1 x2 : Int32) (I : wI) (hp : pre_X5_turnOncex x1 x2 I) : v_X5_turnOncex x1 x2 I (exc_X5_turnOnce x1 x2 I) := by
  obtain ⟨h0, hk, hb⟩ := hp
  have hb2 : nt x2 < 2 := by rcases hb with rfl | rfl <;> decide
  refine ⟨fun ok => ⟨ok, fun _ => ⟨⟨ok, hb⟩, fun r1 h1 => ?_⟩⟩, fun no => ⟨no, fun E hE => ⟨frX_refl I, Or.inl ⟨no, hE⟩⟩⟩⟩
  have ok' := ok
  obtain ⟨c, hc, rfl⟩ := ok
  unfold post_X5_moveOf at h1
  rw [i_nt (by omega)] at h1
  have hv : 5 * nt x2 + c < 10 := by omega
  refine ⟨⟨h0.1, _, hv, h1⟩, fun r2 h2 => ?_⟩
  unfold post_X3_allows at h2
  have hk2 : aStk (rowC 1 I) c = true := by
    cases e : aStk (rowC 1 I) c
    · exact absurd ⟨ok', by rw [i_nt (by omega)]; exact e⟩ hk
    · rfl
  rw [h1, i_nt (by omega), mv5 _ hc, hk2] at h2
  exact ⟨fun e => absurd h2 e, fun _ => ⟨frX_refl I, Or.inr ⟨ok', rfl⟩⟩⟩
theorem vc_X5_turn (x1 : Int32) (I : wI) (hp : pre_X5_turn x1 I) : v_X5_turn x1 I (post_X5_turn x1 I) := by
  refine ⟨⟨hp.1, hp.2, Or.inl rfl⟩, fun r1 I2 h => ?_⟩
  unfold post_X5_turnOnce at h
  rw [show 5 * nt 0 + nt x1 = nt x1 by rw [show nt 0 = 0 from rfl]; omega] at h
  exact h
theorem vc_X5_turnx (x1 : Int32) (I : wI) (hp : pre_X5_turnx x1 I) : v_X5_turnx x1 I (exc_X5_turn x1 I) :=
  ⟨fun ok => absurd ok hp.2, fun no => ⟨⟨hp.1, no, Or.inl rfl⟩, fun _ _ h => h⟩⟩
theorem vc_X5_back (x1 : Int32) (I : wI) (hp : pre_X5_back x1 I) : v_X5_back x1 I (post_X5_back x1 I) := by
  refine ⟨⟨hp.1, hp.2, Or.inr rfl⟩, fun r1 I2 h => ?_⟩
  unfold post_X5_turnOnce at h
  rw [show 5 * nt 1 + nt x1 = 5 + nt x1 by rw [show nt 1 = 1 from rfl]] at h
  exact h
theorem vc_X5_backx (x1 : Int32) (I : wI) (hp : pre_X5_backx x1 I) : v_X5_backx x1 I (exc_X5_back x1 I) :=
  ⟨fun ok => absurd ok hp.2, fun no => ⟨⟨hp.1, no, Or.inr rfl⟩, fun _ _ h => h⟩⟩
/-! ===== home ===== -/
theorem aHome_d {a : Nat → Int32} {p : Nat} (h : p < 6) : aHome a p = nI p := by unfold aHome; rw [if_pos h]
theorem aHome_n {a : Nat → Int32} {p : Nat} (h : p < 6) : aHome a (6 + p) = 0 := by unfold aHome; rw [if_neg (by omega), if_pos (by omega)]
theorem aHome_34 {a : Nat → Int32} : aHome a 34 = 0 := rfl
theorem aHome_o {a : Nat → Int32} {j : Nat} (h : 12 ≤ j) (h2 : j ≠ 34) : aHome a j = a j := by unfold aHome; rw [if_neg (by omega), if_neg (by omega), if_neg h2]
theorem idF_pm : pmF idF := fun p hp => ⟨p, hp, by unfold idF; rw [if_pos hp]⟩
theorem idF_lt {p : Nat} (h : p < 6) : idF p < 6 := by unfold idF; rw [if_pos h]; exact h
theorem aD_home (a : Nat → Int32) : aD (aHome a) = idF := by
  funext p; unfold aD idF
  split
  · rename_i h; rw [aHome_d h, i_nt (by omega)]
  · rfl
theorem aN_home (a : Nat → Int32) : aN (aHome a) = zF := by
  funext p; unfold aN zF
  split
  · rename_i h; rw [aHome_n h]; rfl
  · rfl
theorem okR_home {a : Nat → Int32} (h : okR a) : okR (aHome a) := by
  refine okR_of h (fun p hp => ?_) (by rw [aD_home]; exact idF_pm) (fun j h1 h2 => aHome_o h1 (by omega)) ⟨0, by decide, rfl⟩
  rw [aD_home, aN_home, aHome_d hp, aHome_n hp]
  exact ⟨⟨by unfold idF; rw [if_pos hp], idF_lt hp⟩, rfl, by show 0 < 5; decide⟩
theorem rcF_lt (d n : Nat → Nat) : rcF d n < 64 := bits_lt _ 6
theorem vc_X5_home (I : wI) (hp : pre_X5_home I) : v_X5_home I (post_X5_home I) := by
  have h0 : okC I := hp
  refine ⟨h0, fun I1 h1 => ⟨okS_D h1.1.2.1.1, fun r2 h2 => ?_⟩⟩
  unfold post_X0_reach at h2
  have hl := rcF_lt (dsc I1 2) (ntc I1 2)
  have e2 : rcF (dsc I1 2) (ntc I1 2) = aRc (rowC 1 I) := by
    unfold aRc; rw [← save_row h1, aD_rc, aN_rc]
  refine ⟨⟨_, hl, h2⟩, fun r3 h3 => ⟨trivial, fun I4 h4 I5 q5 => ?_⟩⟩
  unfold post_J_bitCount at h3
  rw [h2, i_nt (by omega), e2] at h3
  obtain ⟨g1, g2⟩ := h4
  have ec : ∀ c, c ≠ 1 → c ≠ 3 → c ≠ 4 → I5 c = I1 c := fun c a b d => by rw [q5, wU_ne a, g2 c b d]
  have e34 : ∀ c, c ≠ 1 → I5 c = I4 c := fun c a => by rw [q5, wU_ne a]
  have e1 : ∀ j, j ≠ 7 → I5 1 j = I1 1 j := fun j hj => by rw [q5, wU_off (Or.inr hj), g2 1 (by omega) (by omega)]
  have eR : rowC 1 I5 = aHome (rowC 1 I) := by
    rw [← save_row h1]
    refine row_ext ?_ ?_ ?_ ?_ ?_ ?_ ?_ ?_ ?_ ?_ ?_ ?_ ?_
    · intro p hp; rw [rc_d hp, e34 _ (by omega), aHome_d hp]; exact (g1 p hp).1
    · intro p hp; rw [rc_n hp, e34 _ (by omega), aHome_n hp]; exact (g1 p hp).2
    · intro p hp; rw [rc_s hp, aHome_o (by omega) (by omega), rc_s hp, e1 4 (by omega)]
    · intro p hp; rw [rc_M hp, aHome_o (by omega) (by omega), rc_M hp, ec _ (by omega) (by omega) (by omega)]
    · intro p hp; rw [rc_S hp, aHome_o (by omega) (by omega), rc_S hp, ec _ (by omega) (by omega) (by omega)]
    · intro p hp; rw [rc_u hp, aHome_o (by omega) (by omega), rc_u hp, ec _ (by omega) (by omega) (by omega)]
    · rw [aHome_o (by omega) (by omega), rc_33, rc_33, e1 6 (by omega)]
    · rw [aHome_34, rc_34, q5, wU_at]
    · rw [aHome_o (by omega) (by omega), rc_35, rc_35, e1 8 (by omega)]
    · rw [aHome_o (by omega) (by omega), rc_36, rc_36, e1 3 (by omega)]
    · intro p hp; rw [rc_sd hp, aHome_o (by omega) (by omega), rc_sd hp, e1 3 (by omega), ec _ (by omega) (by omega) (by omega)]
    · intro p hp; rw [rc_sn hp, aHome_o (by omega) (by omega), rc_sn hp, e1 3 (by omega), ec _ (by omega) (by omega) (by omega)]
    · intro j hj; rw [aHome_o (by omega) (by omega), rc_o hj, rc_o hj]
  refine ⟨by rw [h3], now_use h1 (fun c hc => ec c (by omega) (by omega) (by omega)) eR ⟨by rw [eR]; exact okR_home h0.1.1, ?_⟩⟩
  rw [e1 4 (by omega)]
  exact h1.1.2.1.1.2
/-! ===== cut ===== -/
theorem aCut_o {a : Nat → Int32} {c j : Nat} {m s : Int32} (h1 : j ≠ 18 + c) (h2 : j ≠ 23 + c) : aCut a c m s j = a j := by unfold aCut; rw [if_neg h1, if_neg h2]
theorem aCut_M {a : Nat → Int32} {c : Nat} {m s : Int32} : aCut a c m s (18 + c) = m := by unfold aCut; rw [if_pos rfl]
theorem aCut_S {a : Nat → Int32} {c : Nat} {m s : Int32} (hc : c < 5) : aCut a c m s (23 + c) = s := by unfold aCut; rw [if_neg (by omega), if_pos rfl]
theorem okR_cut {a : Nat → Int32} {c : Nat} {m s : Int32} (h : okR a) (hc : c < 5) (hm : isMk m) (hs : isN 5 s) : okR (aCut a c m s) := by
  have eD : aD (aCut a c m s) = aD a := by
    funext p; unfold aD; split
    · rw [aCut_o (by omega) (by omega)]
    · rfl
  have eN : aN (aCut a c m s) = aN a := by
    funext p; unfold aN; split
    · rw [aCut_o (by omega) (by omega)]
    · rfl
  obtain ⟨a1, a2, a3, a4, a5, a6, a7⟩ := h
  refine ⟨fun p hp => ?_, by rw [eD]; exact a2, fun p hp => by rw [aCut_o (by omega) (by omega)]; exact a3 p hp, fun c' hc' => ?_, by rw [aCut_o (by omega) (by omega)]; exact a5, by rw [aCut_o (by omega) (by omega)]; exact a6, fun e p hp => ?_⟩
  · rw [eD, eN, aCut_o (by omega) (by omega), aCut_o (by omega) (by omega)]; exact a1 p hp
  · by_cases e : c' = c
    · subst e
      unfold aM aS
      rw [aCut_M, aCut_S hc']
      obtain ⟨M, hM, rfl, h2⟩ := hm
      obtain ⟨S, hS, rfl⟩ := hs
      rw [i_nt (by omega), i_nt (by omega)]
      exact ⟨⟨rfl, hM, h2⟩, rfl, hS⟩
    · unfold aM aS
      rw [aCut_o (by omega) (by omega), aCut_o (by omega) (by omega)]; exact a4 c' hc'
  · rw [aCut_o (by omega) (by omega)] at e
    rw [aCut_o (by omega) (by omega), aCut_o (by omega) (by omega)]; exact a7 e p hp
theorem vc_X5_cut (x1 x2 x3 : Int32) (I : wI) (hp : pre_X5_cut x1 x2 x3 I) : v_X5_cut x1 x2 x3 I (post_X5_cut x1 x2 x3 I) := by
  obtain ⟨h0, hk, hm, h5⟩ := hp
  refine ⟨hk, fun _ => ⟨trivial, fun r1 h1 => ⟨fun e => ?_, fun _ => ⟨fun e => absurd e (isN_0 (by decide) h5), fun _ => ⟨fun _ => ⟨h0, fun I2 h2 => ⟨hk, fun r3 h3 => ⟨hk, fun I4 h4 => ?_⟩⟩⟩, fun e => absurd (isN_1 (by decide) h5) e⟩⟩⟩⟩⟩
  · rcases h1 with ⟨_, rfl⟩ | ⟨h1, _⟩
    · exact absurd e (by decide)
    · exact absurd hm h1
  obtain ⟨c, hc, rfl⟩ := hk
  unfold post_X1_maskOf at h3; unfold post_X1_shape at h4; unfold post_X5_cut
  rw [i_nt (by omega)] at h3 h4 ⊢
  have ec : ∀ c, c ≠ 6 → c ≠ 7 → I4 c = I2 c := fun c a b => by rw [h4, wU_ne b, wU_ne a]
  have eR : rowC 1 I4 = aCut (rowC 1 I) c x2 x3 := by
    rw [← save_row h2]
    refine row_ext ?_ ?_ ?_ ?_ ?_ ?_ ?_ ?_ ?_ ?_ ?_ ?_ ?_
    · intro p hp; rw [aCut_o (by omega) (by omega), rc_d hp, rc_d hp, ec _ (by omega) (by omega)]
    · intro p hp; rw [aCut_o (by omega) (by omega), rc_n hp, rc_n hp, ec _ (by omega) (by omega)]
    · intro p hp; rw [aCut_o (by omega) (by omega), rc_s hp, rc_s hp, ec _ (by omega) (by omega)]
    · intro p hp
      rw [rc_M hp, h4, wU_ne (by omega)]
      by_cases e : p = c
      · subst e; rw [wU_at, aCut_M]
      · rw [wU_off (Or.inr e), aCut_o (by omega) (by omega), rc_M hp]
    · intro p hp
      rw [rc_S hp, h4]
      by_cases e : p = c
      · subst e; rw [wU_at, aCut_S hp]
      · rw [wU_off (Or.inr e), wU_ne (by omega), aCut_o (by omega) (by omega), rc_S hp]
    · intro p hp; rw [aCut_o (by omega) (by omega), rc_u hp, rc_u hp, ec _ (by omega) (by omega)]
    · rw [aCut_o (by omega) (by omega), rc_33, rc_33, ec _ (by omega) (by omega)]
    · rw [aCut_o (by omega) (by omega), rc_34, rc_34, ec _ (by omega) (by omega)]
    · rw [aCut_o (by omega) (by omega), rc_35, rc_35, ec _ (by omega) (by omega)]
    · rw [aCut_o (by omega) (by omega), rc_36, rc_36, ec _ (by omega) (by omega)]
    · intro p hp; rw [aCut_o (by omega) (by omega), rc_sd hp, rc_sd hp, ec _ (by omega) (by omega), ec _ (by omega) (by omega)]
    · intro p hp; rw [aCut_o (by omega) (by omega), rc_sn hp, rc_sn hp, ec _ (by omega) (by omega), ec _ (by omega) (by omega)]
    · intro j hj; rw [aCut_o (by omega) (by omega), rc_o hj, rc_o hj]
  refine ⟨?_, now_use h2 (fun c hc => ec c (by omega) (by omega)) eR ⟨by rw [eR]; exact okR_cut h0.1.1 hc hm h5, ?_⟩⟩
  · rw [h3, ← save_row h2, rc_M hc]
  · rw [ec _ (by omega) (by omega)]; exact h2.1.2.1.1.2
theorem vc_X5_cutx (x1 x2 x3 : Int32) (I : wI) (hp : pre_X5_cutx x1 x2 x3 I) : v_X5_cutx x1 x2 x3 I (exc_X5_cut x1 x2 x3 I) := by
  obtain ⟨h0, hn⟩ := hp
  refine ⟨fun ok => ⟨ok, fun _ => ⟨trivial, fun r1 h1 => ⟨fun _ => ⟨frX_refl I, Or.inr ⟨ok, rfl⟩⟩, fun e => ⟨fun _ => ⟨frX_refl I, Or.inr ⟨ok, rfl⟩⟩, fun e0 => ⟨fun e1 => ?_, fun _ => ⟨frX_refl I, Or.inr ⟨ok, rfl⟩⟩⟩⟩⟩⟩⟩, fun no => ⟨no, fun E hE => ⟨frX_refl I, Or.inl ⟨no, hE⟩⟩⟩⟩
  rcases h1 with ⟨h1, _⟩ | ⟨_, h1⟩
  · exact absurd ⟨ok, h1, isN_lt (by decide) e0 e1⟩ hn
  · exact absurd h1 e
/-! ===== stick ===== -/
theorem aStick_o {a : Nat → Int32} {p j : Nat} (h : j ≠ 12 + p) : aStick a p j = a j := by unfold aStick; rw [if_neg h]
theorem aStick_p {a : Nat → Int32} {p : Nat} : aStick a p (12 + p) = 1 - a (12 + p) := by unfold aStick; rw [if_pos rfl]
theorem tb_xor : ∀ m, m < 64 → ∀ p, p < 6 → ∀ q, q < 6 → tb (m ^^^ 2 ^ p) q = if q = p then 1 - tb m q else tb m q := by decide +kernel
theorem xor_lt : ∀ m, m < 64 → ∀ p, p < 6 → m ^^^ 2 ^ p < 64 := by decide +kernel
theorem tb_lt (m p : Nat) : tb m p < 2 := Nat.mod_lt _ (by decide)
theorem okR_stick {a : Nat → Int32} {p : Nat} (h : okR a) (hp : p < 6) : okR (aStick a p) := by
  have eD : aD (aStick a p) = aD a := by
    funext q; unfold aD; split
    · rw [aStick_o (by omega)]
    · rfl
  have eN : aN (aStick a p) = aN a := by
    funext q; unfold aN; split
    · rw [aStick_o (by omega)]
    · rfl
  obtain ⟨a1, a2, a3, a4, a5, a6, a7⟩ := h
  refine ⟨fun q hq => ?_, by rw [eD]; exact a2, fun q hq => ?_, fun c hc => ?_, by rw [aStick_o (by omega)]; exact a5, by rw [aStick_o (by omega)]; exact a6, fun e q hq => ?_⟩
  · rw [eD, eN, aStick_o (by omega), aStick_o (by omega)]; exact a1 q hq
  · by_cases e : q = p
    · subst e
      rw [aStick_p]
      rcases a3 q hq with e | e <;> rw [e]
      · exact Or.inr (by decide)
      · exact Or.inl (by decide)
    · rw [aStick_o (by omega)]; exact a3 q hq
  · unfold aM aS
    rw [aStick_o (by omega), aStick_o (by omega)]; exact a4 c hc
  · rw [aStick_o (by omega)] at e
    rw [aStick_o (by omega), aStick_o (by omega)]; exact a7 e q hq
theorem vc_X5_stick (x1 : Int32) (I : wI) (hp : pre_X5_stick x1 I) : v_X5_stick x1 I (post_X5_stick x1 I) := by
  obtain ⟨h0, hk⟩ := hp
  refine ⟨hk, fun _ => ⟨h0, fun I1 h1 I2 q2 => ?_⟩⟩
  obtain ⟨p, hp, rfl⟩ := hk
  obtain ⟨m, hm, em⟩ := h1.1.2.1.1.2
  have h2p := p2_6 hp
  rw [em, show (31 : Int32) = nI 31 from rfl, i_and31 (by omega), l_1, i_shl1 (by omega), nI_xor] at q2
  have hx := xor_lt m hm p hp
  have ec : ∀ c, c ≠ 1 → I2 c = I1 c := fun c a => by rw [q2, wU_ne a]
  have e1 : ∀ j, j ≠ 4 → I2 1 j = I1 1 j := fun j hj => by rw [q2, wU_off (Or.inr hj)]
  have e4 : I2 1 4 = nI (m ^^^ 2 ^ p) := by rw [q2, wU_at]
  have eR : rowC 1 I2 = aStick (rowC 1 I) p := by
    rw [← save_row h1]
    refine row_ext ?_ ?_ ?_ ?_ ?_ ?_ ?_ ?_ ?_ ?_ ?_ ?_ ?_
    · intro q hq; rw [aStick_o (by omega), rc_d hq, rc_d hq, ec _ (by omega)]
    · intro q hq; rw [aStick_o (by omega), rc_n hq, rc_n hq, ec _ (by omega)]
    · intro q hq
      rw [rc_s hq, e4, i_nt (by omega), tb_xor m hm p hp q hq]
      by_cases e : q = p
      · subst e
        have := tb_lt m q
        rw [if_pos rfl, aStick_p, rc_s hq, em, i_nt (by omega), l_1, i_sub (by omega)]
      · rw [if_neg e, aStick_o (by omega), rc_s hq, em, i_nt (by omega)]
    · intro q hq; rw [aStick_o (by omega), rc_M hq, rc_M hq, ec _ (by omega)]
    · intro q hq; rw [aStick_o (by omega), rc_S hq, rc_S hq, ec _ (by omega)]
    · intro q hq; rw [aStick_o (by omega), rc_u hq, rc_u hq, ec _ (by omega)]
    · rw [aStick_o (by omega), rc_33, rc_33, e1 _ (by omega)]
    · rw [aStick_o (by omega), rc_34, rc_34, e1 _ (by omega)]
    · rw [aStick_o (by omega), rc_35, rc_35, e1 _ (by omega)]
    · rw [aStick_o (by omega), rc_36, rc_36, e1 _ (by omega)]
    · intro q hq; rw [aStick_o (by omega), rc_sd hq, rc_sd hq, e1 _ (by omega), ec _ (by omega)]
    · intro q hq; rw [aStick_o (by omega), rc_sn hq, rc_sn hq, e1 _ (by omega), ec _ (by omega)]
    · intro j hj; rw [aStick_o (by omega), rc_o hj, rc_o hj]
  have hS : okS 1 I2 := ⟨by rw [eR]; exact okR_stick h0.1.1 hp, _, hx, e4⟩
  refine ⟨hS, fun r3 h3 => ?_⟩
  unfold post_X5_stick
  rw [i_nt (by omega), ← eR]
  refine ⟨h3, ?_⟩
  rw [eR]
  exact now_use h1 (fun c hc => ec c (by omega)) eR hS
theorem vc_X5_stickx (x1 : Int32) (I : wI) (hp : pre_X5_stickx x1 I) : v_X5_stickx x1 I (exc_X5_stick x1 I) :=
  ⟨fun ok => absurd ok hp.2, fun no => ⟨no, fun E hE => ⟨frX_refl I, hE⟩⟩⟩
/-! ===== learn ===== -/
theorem aLearn_o {a : Nat → Int32} {j : Nat} (h : j < 36 ∨ 49 ≤ j) : aLearn a j = a j := by unfold aLearn; rw [if_neg (by omega), if_neg (by omega)]
theorem aLearn_36 {a : Nat → Int32} : aLearn a 36 = 1 := rfl
theorem aLearn_d {a : Nat → Int32} {p : Nat} (h : p < 6) : aLearn a (37 + p) = a p := by unfold aLearn; rw [if_neg (by omega), if_pos (by omega), show 37 + p - 37 = p by omega]
theorem aLearn_n {a : Nat → Int32} {p : Nat} (h : p < 6) : aLearn a (43 + p) = a (6 + p) := by unfold aLearn; rw [if_neg (by omega), if_pos (by omega), show 43 + p - 37 = 6 + p by omega]
theorem okR_learn {a : Nat → Int32} (h : okR a) : okR (aLearn a) := by
  have eD : aD (aLearn a) = aD a := by
    funext q; unfold aD; split
    · rw [aLearn_o (by omega)]
    · rfl
  have eN : aN (aLearn a) = aN a := by
    funext q; unfold aN; split
    · rw [aLearn_o (by omega)]
    · rfl
  obtain ⟨a1, a2, a3, a4, a5, a6, a7⟩ := h
  refine ⟨fun q hq => ?_, by rw [eD]; exact a2, fun q hq => by rw [aLearn_o (by omega)]; exact a3 q hq, fun c hc => ?_, by rw [aLearn_o (by omega)]; exact a5, Or.inr rfl, fun _ q hq => ?_⟩
  · rw [eD, eN, aLearn_o (by omega), aLearn_o (by omega)]; exact a1 q hq
  · unfold aM aS
    rw [aLearn_o (by omega), aLearn_o (by omega)]; exact a4 c hc
  · rw [aLearn_d hq, aLearn_n hq]
    have := a1 q hq
    unfold aD aN at this
    rw [if_pos hq, if_pos hq] at this
    exact this
theorem vc_X5_learn (I : wI) (hp : pre_X5_learn I) : v_X5_learn I (post_X5_learn I) := by
  have h0 : okC I := hp
  refine ⟨h0, fun I1 h1 => ⟨⟨by decide, by decide, by decide⟩, fun I2 h2 I3 q3 => ?_⟩⟩
  obtain ⟨g1, g2⟩ := h2
  have ec : ∀ c, c ≠ 1 → c ≠ 9 → c ≠ 10 → I3 c = I1 c := fun c a b d => by rw [q3, wU_ne a, g2 c b d]
  have e1 : ∀ j, j ≠ 3 → I3 1 j = I1 1 j := fun j hj => by rw [q3, wU_off (Or.inr hj), g2 1 (by omega) (by omega)]
  have e3 : I3 1 3 = 1 := by rw [q3, wU_at]
  have eR : rowC 1 I3 = aLearn (rowC 1 I) := by
    rw [← save_row h1]
    refine row_ext ?_ ?_ ?_ ?_ ?_ ?_ ?_ ?_ ?_ ?_ ?_ ?_ ?_
    · intro q hq; rw [aLearn_o (by omega), rc_d hq, rc_d hq, ec _ (by omega) (by omega) (by omega)]
    · intro q hq; rw [aLearn_o (by omega), rc_n hq, rc_n hq, ec _ (by omega) (by omega) (by omega)]
    · intro q hq; rw [aLearn_o (by omega), rc_s hq, rc_s hq, e1 4 (by omega)]
    · intro q hq; rw [aLearn_o (by omega), rc_M hq, rc_M hq, ec _ (by omega) (by omega) (by omega)]
    · intro q hq; rw [aLearn_o (by omega), rc_S hq, rc_S hq, ec _ (by omega) (by omega) (by omega)]
    · intro q hq; rw [aLearn_o (by omega), rc_u hq, rc_u hq, ec _ (by omega) (by omega) (by omega)]
    · rw [aLearn_o (by omega), rc_33, rc_33, e1 _ (by omega)]
    · rw [aLearn_o (by omega), rc_34, rc_34, e1 _ (by omega)]
    · rw [aLearn_o (by omega), rc_35, rc_35, e1 _ (by omega)]
    · rw [aLearn_36, rc_36, e3]
    · intro q hq; rw [rc_sd hq, aLearn_d hq, rc_d hq, if_neg (by rw [e3]; decide), q3, wU_ne (by omega)]; exact (g1 q hq).1
    · intro q hq; rw [rc_sn hq, aLearn_n hq, rc_n hq, if_neg (by rw [e3]; decide), q3, wU_ne (by omega)]; exact (g1 q hq).2
    · intro j hj; rw [aLearn_o (by omega), rc_o hj, rc_o hj]
  have hS : okS 1 I3 := ⟨by rw [eR]; exact okR_learn h0.1.1, by rw [e1 4 (by omega)]; exact h1.1.2.1.1.2⟩
  refine ⟨okS_D hS, fun r4 h4 => ⟨?_, now_use h1 (fun c hc => ec c (by omega) (by omega) (by omega)) eR hS⟩⟩
  unfold post_X0_notchSum at h4
  rw [h4, ← aN_rc 1 I3, eR]
  unfold aNS
  refine congrArg nI (sm_cong (fun p hp => ?_))
  unfold aN
  rw [if_pos hp, if_pos hp, aLearn_o (by omega)]
