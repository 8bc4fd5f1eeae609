/-! ===== rows ===== -/
theorem row_ext {a b : Nat → Int32} (h0 : ∀ p, p < 6 → a p = b p) (h1 : ∀ p, p < 6 → a (6 + p) = b (6 + p)) (h2 : ∀ p, p < 6 → a (12 + p) = b (12 + p)) (h3 : ∀ p, p < 5 → a (18 + p) = b (18 + p)) (h4 : ∀ p, p < 5 → a (23 + p) = b (23 + p)) (h5 : ∀ p, p < 5 → a (28 + p) = b (28 + p))
    (h6 : a 33 = b 33) (h7 : a 34 = b 34) (h8 : a 35 = b 35) (h9 : a 36 = b 36) (h10 : ∀ p, p < 6 → a (37 + p) = b (37 + p)) (h11 : ∀ p, p < 6 → a (43 + p) = b (43 + p)) (h12 : ∀ j, 49 ≤ j → a j = b j) : a = b := by
  funext j
  by_cases c : j < 6
  · exact h0 j c
  by_cases c : j < 12
  · have := h1 (j - 6) (by omega); rwa [show 6 + (j - 6) = j by omega] at this
  by_cases c : j < 18
  · have := h2 (j - 12) (by omega); rwa [show 12 + (j - 12) = j by omega] at this
  by_cases c : j < 23
  · have := h3 (j - 18) (by omega); rwa [show 18 + (j - 18) = j by omega] at this
  by_cases c : j < 28
  · have := h4 (j - 23) (by omega); rwa [show 23 + (j - 23) = j by omega] at this
  by_cases c : j < 33
  · have := h5 (j - 28) (by omega); rwa [show 28 + (j - 28) = j by omega] at this
  by_cases c : j < 37
  · have : j = 33 ∨ j = 34 ∨ j = 35 ∨ j = 36 := by omega
    rcases this with rfl | rfl | rfl | rfl <;> assumption
  by_cases c : j < 43
  · have := h10 (j - 37) (by omega); rwa [show 37 + (j - 37) = j by omega] at this
  by_cases c : j < 49
  · have := h11 (j - 43) (by omega); rwa [show 43 + (j - 43) = j by omega] at this
  · exact h12 j (by omega)
theorem rc_o {k : Nat} {I : wI} {j : Nat} (h : 49 ≤ j) : rowC k I j = 0 := by
  unfold rowC
  simp only [if_neg (show ¬ j < 6 by omega), if_neg (show ¬ j < 12 by omega), if_neg (show ¬ j < 18 by omega), if_neg (show ¬ j < 23 by omega), if_neg (show ¬ j < 28 by omega), if_neg (show ¬ j < 33 by omega), if_neg (show ¬ j = 33 by omega), if_neg (show ¬ j = 34 by omega), if_neg (show ¬ j = 35 by omega), if_neg (show ¬ j = 36 by omega), if_neg (show ¬ j < 43 by omega), if_neg (show ¬ j < 49 by omega)]
theorem src_inv0 : ∀ M, M < 64 → ∀ p, p < 6 → src M 0 (src M 1 p) = p ∧ src M 1 (src M 0 p) = p := by decide +kernel
theorem pmF_mv {M bk : Nat} {d : Nat → Nat} (hM : M < 64) (hb : bk = 0 ∨ bk = 1) (h : pmF d) : pmF (mvD M bk d) := by
  intro q hq
  obtain ⟨p, hp, e⟩ := h q hq
  have hl := src_lt0 M hM p hp
  have hi := src_inv0 M hM p hp
  rcases hb with rfl | rfl
  · exact ⟨src M 1 p, hl.2, by unfold mvD; rw [if_pos hl.2, hi.1, e]⟩
  · exact ⟨src M 0 p, hl.1, by unfold mvD; rw [if_pos hl.1, hi.2, e]⟩
theorem mvD_lt {M bk p : Nat} {d : Nat → Nat} (hM : M < 64) (hb : bk = 0 ∨ bk = 1) (h : ∀ q, q < 6 → d q < 6) (hp : p < 6) : mvD M bk d p < 6 := by
  unfold mvD; rw [if_pos hp]; exact h _ (src_lt hM hb hp)
theorem mvN_lt {M s bk p : Nat} {n : Nat → Nat} (h : ∀ q, q < 6 → n q < 5) (hp : p < 6) : mvN M s bk n p < 5 := by
  unfold mvN; rw [if_pos hp]
  split
  · exact Nat.mod_lt _ (by decide)
  · exact h p hp
theorem bk_or {v : Nat} (hv : v < 10) : v / 5 = 0 ∨ v / 5 = 1 := by omega
theorem aTr_d {a : Nat → Int32} {v p : Nat} (h : p < 6) : aTr a v p = nI (mvD (aM a (v % 5)) (v / 5) (aD a) p) := by unfold aTr; rw [if_pos h]
theorem aTr_n {a : Nat → Int32} {v p : Nat} (h : p < 6) : aTr a v (6 + p) = nI (mvN (aM a (v % 5)) (aS a (v % 5)) (v / 5) (aN a) p) := by
  unfold aTr; rw [if_neg (by omega), if_pos (by omega), show 6 + p - 6 = p by omega]
theorem aTr_o {a : Nat → Int32} {v j : Nat} (h : 12 ≤ j) : aTr a v j = a j := by unfold aTr; rw [if_neg (by omega), if_neg (by omega)]
theorem aMv_o {a : Nat → Int32} {v j : Nat} (hv : v < 10) (h : j < 28 ∨ 36 ≤ j) : aMv a v j = aTr a v j := by
  unfold aMv; rw [if_neg (by omega), if_neg (by omega), if_neg (by omega), if_neg (by omega)]
theorem okR_d {a : Nat → Int32} (h : okR a) : ∀ q, q < 6 → aD a q < 6 := fun q hq => (h.1 q hq).1.2
theorem okR_n {a : Nat → Int32} (h : okR a) : ∀ q, q < 6 → aN a q < 5 := fun q hq => (h.1 q hq).2.2
theorem okR_M {a : Nat → Int32} (h : okR a) {c : Nat} (hc : c < 5) : aM a c < 64 := (h.2.2.2.1 c hc).1.2.1
theorem okR_S {a : Nat → Int32} (h : okR a) {c : Nat} (hc : c < 5) : aS a c < 5 := (h.2.2.2.1 c hc).2.2
theorem m5 (v : Nat) : v % 5 < 5 := Nat.mod_lt _ (by decide)
theorem aD_aTr {a : Nat → Int32} {v : Nat} (hR : okR a) (hv : v < 10) : aD (aTr a v) = mvD (aM a (v % 5)) (v / 5) (aD a) := by
  funext p
  by_cases h : p < 6
  · have := mvD_lt (okR_M hR (m5 v)) (bk_or hv) (okR_d hR) h
    show (if p < 6 then nt (aTr a v p) else 0) = _
    rw [if_pos h, aTr_d h, i_nt (by omega)]
  · unfold aD mvD; rw [if_neg h, if_neg h]
theorem aN_aTr {a : Nat → Int32} {v : Nat} (hR : okR a) : aN (aTr a v) = mvN (aM a (v % 5)) (aS a (v % 5)) (v / 5) (aN a) := by
  funext p
  by_cases h : p < 6
  · have := mvN_lt (M := aM a (v % 5)) (s := aS a (v % 5)) (bk := v / 5) (okR_n hR) h
    show (if p < 6 then nt (aTr a v (6 + p)) else 0) = _
    rw [if_pos h, aTr_n h, i_nt (by omega)]
  · unfold aN mvN; rw [if_neg h, if_neg h]
theorem okR_of {a b : Nat → Int32} (hR : okR a) (h0 : ∀ p, p < 6 → (b p = nI (aD b p) ∧ aD b p < 6) ∧ (b (6 + p) = nI (aN b p) ∧ aN b p < 5)) (h1 : pmF (aD b)) (h2 : ∀ j, 12 ≤ j → j < 28 ∨ 36 ≤ j → b j = a j) (h3 : ∃ v, v < 5 ∧ b 34 = nI v) : okR b := by
  refine ⟨h0, h1, fun p hp => ?_, fun c hc => ?_, h3, ?_, ?_⟩
  · rw [h2 _ (by omega) (by omega)]; exact hR.2.2.1 p hp
  · unfold aM aS; rw [h2 _ (by omega) (by omega), h2 _ (by omega) (by omega)]; exact hR.2.2.2.1 c hc
  · rw [h2 36 (by omega) (by omega)]; exact hR.2.2.2.2.2.1
  · intro e p hp
    rw [h2 36 (by omega) (by omega)] at e
    rw [h2 (37 + p) (by omega) (by omega), h2 (43 + p) (by omega) (by omega)]
    exact hR.2.2.2.2.2.2 e p hp
theorem okR_aTr {a : Nat → Int32} {v : Nat} (hR : okR a) (hv : v < 10) : okR (aTr a v) := by
  refine okR_of hR (fun p hp => ?_) ?_ (fun j h _ => aTr_o h) (by rw [aTr_o (by omega)]; exact hR.2.2.2.2.1)
  · rw [aD_aTr hR hv, aN_aTr hR, aTr_d hp, aTr_n hp]
    exact ⟨⟨rfl, mvD_lt (okR_M hR (m5 v)) (bk_or hv) (okR_d hR) hp⟩, rfl, mvN_lt (okR_n hR) hp⟩
  · rw [aD_aTr hR hv]; exact pmF_mv (okR_M hR (m5 v)) (bk_or hv) hR.2.1
theorem aMv_34 {a : Nat → Int32} {v : Nat} (hv : v < 10) : aMv a v 34 = nI (aAcc a v) := by
  unfold aMv; rw [if_neg (by omega), if_neg (by omega), if_pos rfl]
theorem okR_aMv {a : Nat → Int32} {v : Nat} (hR : okR a) (hv : v < 10) : okR (aMv a v) := by
  have hT := okR_aTr hR hv
  have eD : aD (aMv a v) = aD (aTr a v) := by
    funext p; unfold aD; split
    · rw [aMv_o hv (by omega)]
    · rfl
  have eN : aN (aMv a v) = aN (aTr a v) := by
    funext p; unfold aN; split
    · rw [aMv_o hv (by omega)]
    · rfl
  refine okR_of hT (fun p hp => ?_) ?_ (fun j _ h => aMv_o hv h) ⟨_, Nat.mod_lt _ (by decide), aMv_34 hv⟩
  · rw [eD, eN, aMv_o hv (by omega), aMv_o hv (by omega)]; exact hT.1 p hp
  · rw [eD]; exact hT.2.1
theorem aRt_cong {a b : Nat → Int32} (h : ∀ j, j < 12 ∨ 36 ≤ j → a j = b j) : aRt a = aRt b := by
  unfold aRt aAs
  rw [h 36 (by omega)]
  split
  · rfl
  · exact sm_cong (fun p hp => by simp only [h p (by omega), h (6 + p) (by omega), h (37 + p) (by omega), h (43 + p) (by omega)])
/-! ===== a turn of the class ===== -/
theorem acc_C {x w v : Nat} (hw : w < 30) : nI x + (if v < 5 then nI w else -nI w) = nI (if v < 5 then 30 + x + w else 30 + x - w) - nI 30 := by
  split
  · rw [i_sub (by omega), i_add]; congr 1; omega
  · have : nI (30 + x - w) = nI 30 + nI x - nI w := by
      rw [i_add, i_sub (by omega)]
    rw [this, Int32.sub_eq_add_neg, Int32.sub_eq_add_neg, Int32.add_comm (nI 30) (nI x), Int32.add_assoc (nI x), Int32.add_assoc (nI x), Int32.add_comm (nI 30) (-nI w), Int32.add_assoc (-nI w), Int32.add_right_neg, Int32.add_zero]
theorem vc_X3_doMove (k : Nat) (x1 : Int32) (I : wI) (hp : pre_X3_doMove k x1 I) : v_X3_doMove k x1 I (post_X3_doMove k x1 I) := by
  obtain ⟨hS, v, hv, rfl⟩ := hp
  have hR := hS.1
  have h5 : v % 5 < 5 := m5 v
  have hD := okS_D hS
  have hK := okS_K hS
  refine ⟨trivial, fun r1 h1 => ⟨⟨hD, hK, v, hv, rfl⟩, fun I2 h2 => ?_⟩⟩
  obtain ⟨m1, m2⟩ := h2
  have f2 : ∀ c, c ≠ k + 2 → c ≠ k + 3 → I2 c = I c := fun c g1 g2 => m2 c g1 g2
  have hK2 : okK I2 (k + 4) := by
    intro c hc
    rw [f2 _ (by omega) (by omega), f2 _ (by omega) (by omega)]
    exact hK c hc
  refine ⟨⟨hK2, v, hv, rfl⟩, fun r3 h3 => ?_⟩
  unfold post_X1_notchesBy at h3
  rw [i_nt (by omega), f2 (k + 4 + 1) (by omega) (by omega), f2 (k + 4 + 2) (by omega) (by omega), f2 k (by omega) (by omega)] at *
  obtain ⟨x, hx, ex⟩ := hR.2.2.2.2.1
  rw [rc_34] at ex
  have hs5 := (hK _ h5).2.2
  have h3 : r3 = if v < 5 then nI (nt (I (k + 6) (v % 5)) * pc6 (nt (I (k + 5) (v % 5)))) else -nI (nt (I (k + 6) (v % 5)) * pc6 (nt (I (k + 5) (v % 5)))) := h3
  have hw : nt (I (k + 6) (v % 5)) * pc6 (nt (I (k + 5) (v % 5))) < 25 := by
    have h6 := pc6_le (nt (I (k + 5) (v % 5)))
    have := Nat.mul_le_mul (show nt (I (k + 6) (v % 5)) ≤ 4 from Nat.le_of_lt_succ hs5) h6
    omega
  have hA : aAcc (rowC k I) v = (x + (if v < 5 then 1 else 4) * (nt (I (k + 6) (v % 5)) * pc6 (nt (I (k + 5) (v % 5))))) % 5 := by
    unfold aAcc aM aS
    rw [rc_34, ex, i_nt (by omega), rc_M h5, rc_S h5]
  generalize nt (I (k + 6) (v % 5)) * pc6 (nt (I (k + 5) (v % 5))) = w at h3 hw hA
  have hacc : ∀ r4, post_J_floorMod (I k 7 + r3) 5 I2 r4 → r4 = nI (aAcc (rowC k I) v) := by
    intro r4 h4
    rw [hA]
    rw [ex, h3, acc_C (by omega)] at h4
    have := h4 _ (by split <;> omega) rfl
    rw [this]
    congr 1
    split <;> omega
  refine ⟨⟨rfl, ?_⟩, fun r4 h4 I5 q5 I6 q6 => ⟨⟨v, hv, rfl⟩, fun r7 h7 => ?_⟩⟩
  · rw [ex, h3, acc_C (by omega)]; exact ⟨_, by split <;> omega, rfl⟩
  have e4 := hacc r4 h4
  unfold post_X5_keyOf at h7
  rw [i_nt (by omega)] at h7
  subst h7
  refine ⟨not_lt0 (by omega), fun _ => ⟨fun h => absurd h (by simp (disch := omega) only [i_le, i_lt, i_eq, i_add, i_sub, i_mul, i_and31, i_and1, i_shl1, i_shr, nI_or, i_cl, i_inP, i_nt, l_0, l_1, l_2, l_3, l_4, l_5, l_6, l_7, l_8, l_9, l_10, l_12, l_18, l_23, l_25, l_28, l_30, l_31, l_33, l_34, l_35, l_36, l_37, l_40, l_41, l_43, l_44, l_48, l_49, l_50, l_57, l_60, l_63, l_64, l_65, l_69, l_91, l_93, l_97, l_101, l_111, l_125, l_126, l_245, l_294, l_500, l_501, l_9999, l_1000000]; omega), fun _ => ⟨i_in h5 (by decide), i_in h5 (by decide), fun I8 q8 => ?_⟩⟩⟩
  rw [i_cl (by omega)] at q8
  have g : ∀ c, c ≠ k → c ≠ k + 2 → c ≠ k + 3 → c ≠ k + 10 → I8 c = I c := by
    intro c c0 c2 c3 c10
    rw [q8, wU_ne c10, q6, wU_ne c0, q5, wU_ne c0, f2 c c2 c3]
  have g23 : ∀ c, c = k + 2 ∨ c = k + 3 → I8 c = I2 c := by
    intro c hc
    rw [q8, wU_ne (by omega), q6, wU_ne (by omega), q5, wU_ne (by omega)]
  have g0 : ∀ j, j ≠ 6 → j ≠ 7 → I8 k j = I k j := by
    intro j j6 j7
    rw [q8, wU_ne (by omega), q6, wU_off (Or.inr j6), q5, wU_off (Or.inr j7), f2 k (by omega) (by omega)]
  have g6 : I8 k 6 = I k 6 + 1 := by
    rw [q8, wU_ne (by omega), q6, wU_at, q5, wU_off (Or.inr (by omega)), f2 k (by omega) (by omega)]
  have g7 : I8 k 7 = nI (aAcc (rowC k I) v) := by
    rw [q8, wU_ne (by omega), q6, wU_off (Or.inr (by omega)), q5, wU_at, e4]
  have e6 : I6 (k + 10) = I (k + 10) := by rw [q6, wU_ne (by omega), q5, wU_ne (by omega), f2 _ (by omega) (by omega)]
  have g10 : ∀ c, I8 (k + 10) c = if c = v % 5 then I (k + 10) c + 1 else I (k + 10) c := by
    intro c
    rw [q8, e6]
    split
    · rename_i h; rw [h, wU_at]
    · rename_i h; rw [wU_off (Or.inr h), e6]
  -- the row so far, all but the openings
  have row8 : ∀ I' : wI, (∀ c, c ≠ k → I' c = I8 c) → (∀ j, j ≠ 8 → I' k j = I8 k j) → (I' k 8 = if aRt (rowC k I) ≠ 6 ∧ aRt (aTr (rowC k I) v) = 6 then I k 8 + 1 else I k 8) → post_X3_doMove k (nI v) I I' := by
    intro I' i1 i2 i3
    have eR : rowC k I' = aMv (rowC k I) v := by
      refine row_ext ?_ ?_ ?_ ?_ ?_ ?_ ?_ ?_ ?_ ?_ ?_ ?_ ?_
      · intro p hp
        rw [rc_d hp, i1 _ (by omega), g23 _ (Or.inl rfl), aMv_o hv (by omega), aTr_d hp, aD_rc]
        have := (m1 p hp).1
        unfold aM; rw [rc_M h5]; exact this
      · intro p hp
        rw [rc_n hp, i1 _ (by omega), g23 _ (Or.inr rfl), aMv_o hv (by omega), aTr_n hp, aN_rc]
        have := (m1 p hp).2
        unfold aM aS; rw [rc_M h5, rc_S h5]; exact this
      · intro p hp
        rw [aMv_o hv (by omega), aTr_o (by omega), rc_s hp, rc_s hp, i2 4 (by omega), g0 4 (by omega) (by omega)]
      · intro p hp
        rw [aMv_o hv (by omega), aTr_o (by omega), rc_M hp, rc_M hp, i1 _ (by omega), g _ (by omega) (by omega) (by omega) (by omega)]
      · intro p hp
        rw [aMv_o hv (by omega), aTr_o (by omega), rc_S hp, rc_S hp, i1 _ (by omega), g _ (by omega) (by omega) (by omega) (by omega)]
      · intro p hp
        rw [rc_u hp, i1 _ (by omega), g10]
        unfold aMv
        by_cases c : p = v % 5
        · rw [if_pos c, if_pos (by omega), rc_u hp]
        · rw [if_neg c, if_neg (by omega), if_neg (by omega), if_neg (by omega), if_neg (by omega), aTr_o (by omega), rc_u hp]
      · unfold aMv
        rw [if_neg (by omega), if_pos rfl, rc_33, rc_33, i2 6 (by omega), g6]
      · rw [aMv_34 hv, rc_34, i2 7 (by omega), g7]
      · unfold aMv
        rw [if_neg (by omega), if_neg (by omega), if_neg (by omega), if_pos rfl, rc_35, rc_35, i3]
      · rw [aMv_o hv (by omega), aTr_o (by omega), rc_36, rc_36, i2 3 (by omega), g0 3 (by omega) (by omega)]
      · intro p hp
        rw [aMv_o hv (by omega), aTr_o (by omega), rc_sd hp, rc_sd hp, i2 3 (by omega), g0 3 (by omega) (by omega), i1 _ (by omega), g _ (by omega) (by omega) (by omega) (by omega)]
      · intro p hp
        rw [aMv_o hv (by omega), aTr_o (by omega), rc_sn hp, rc_sn hp, i2 3 (by omega), g0 3 (by omega) (by omega), i1 _ (by omega), g _ (by omega) (by omega) (by omega) (by omega)]
      · intro j hj
        rw [aMv_o hv (by omega), aTr_o (by omega), rc_o hj, rc_o hj]
    refine ⟨by rw [i_nt (by omega)]; exact eR, ⟨by rw [eR]; exact okR_aMv hR hv, ?_⟩, ?_⟩
    · rw [i2 4 (by omega), g0 4 (by omega) (by omega)]; exact hS.2
    · intro c hc
      rw [i1 c (by omega), g c (by omega) (by omega) (by omega) (by omega)]
  have eA : aRt (rowC k I8) = aRt (aTr (rowC k I) v) := by
    refine aRt_cong (fun j hj => ?_)
    by_cases c : j < 6
    · rw [rc_d c, g23 _ (Or.inl rfl), aTr_d c, aD_rc]
      have := (m1 j c).1
      unfold aM; rw [rc_M h5]; exact this
    by_cases c : j < 12
    · rw [show j = 6 + (j - 6) by omega, rc_n (by omega), g23 _ (Or.inr rfl), aTr_n (by omega), aN_rc]
      have := (m1 (j - 6) (by omega)).2
      unfold aM aS; rw [rc_M h5, rc_S h5]; exact this
    rw [aTr_o (by omega)]
    by_cases c : j = 36
    · subst c; rw [rc_36, rc_36, g0 3 (by omega) (by omega)]
    by_cases c : j < 43
    · rw [show j = 37 + (j - 37) by omega, rc_sd (by omega), rc_sd (by omega), g0 3 (by omega) (by omega), g _ (by omega) (by omega) (by omega) (by omega)]
    by_cases c : j < 49
    · rw [show j = 43 + (j - 43) by omega, rc_sn (by omega), rc_sn (by omega), g0 3 (by omega) (by omega), g _ (by omega) (by omega) (by omega) (by omega)]
    · rw [rc_o (by omega), rc_o (by omega)]
  unfold post_X3_opens at h1
  refine ⟨fun n => ?_, fun z => ⟨trivial, fun r9 h9 => ?_⟩⟩
  · have : aRt (rowC k I) = 6 := by
      apply Decidable.byContradiction; intro e; rw [if_neg e] at h1; exact n h1
    exact row8 I8 (fun _ _ => rfl) (fun _ _ => rfl) (by rw [if_neg (fun h => h.1 this), g0 8 (by omega) (by omega)])
  · have hz : aRt (rowC k I) ≠ 6 := by
      intro e; rw [if_pos e] at h1; rw [h1] at z; exact absurd z (by decide)
    unfold post_X3_opens at h9
    rw [eA] at h9
    refine ⟨fun z9 => ?_, fun n9 I' q' => ?_⟩
    · have : aRt (aTr (rowC k I) v) ≠ 6 := by
        intro e; rw [if_pos e] at h9; rw [h9] at z9; exact absurd z9 (by decide)
      exact row8 I8 (fun _ _ => rfl) (fun _ _ => rfl) (by rw [if_neg (fun h => this h.2), g0 8 (by omega) (by omega)])
    · have : aRt (aTr (rowC k I) v) = 6 := by
        apply Decidable.byContradiction; intro e; rw [if_neg e] at h9; exact n9 h9
      subst q'
      exact row8 _ (fun c hc => wU_ne hc) (fun j hj => wU_off (Or.inr hj)) (by rw [if_pos ⟨hz, this⟩, wU_at, g0 8 (by omega) (by omega)])
