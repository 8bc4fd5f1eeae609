/-! ===== what turns would bring; the fewest turns, by all rows of turns ===== -/
/-- the discs may be elsewhere, all else is as it was -/
def cB (a b : Nat → Int32) : Prop := okR b ∧ ∀ j, 12 ≤ j → b j = a j
theorem cB_tr {a b : Nat → Int32} {v : Nat} (hv : v < 10) (h : cB a b) : cB a (aTr b v) := ⟨okR_aTr h.1 hv, fun j hj => by rw [aTr_o hj]; exact h.2 j hj⟩
theorem cB_sec {a b : Nat → Int32} (h : cB a b) : secP b = secP a := by
  have e1 : (fun p => if p < 6 then nt (b (37 + p)) else 0) = fun p => if p < 6 then nt (a (37 + p)) else 0 := by
    funext p; rw [h.2 (37 + p) (by omega)]
  have e2 : (fun p => if p < 6 then nt (b (43 + p)) else 0) = fun p => if p < 6 then nt (a (43 + p)) else 0 := by
    funext p; rw [h.2 (43 + p) (by omega)]
  show (_, _) = (_, _)
  rw [e1, e2]
theorem cB_M {a b : Nat → Int32} (h : cB a b) (c : Nat) : aM b c = aM a c := by unfold aM; rw [h.2 (18 + c) (by omega)]
theorem cB_S {a b : Nat → Int32} (h : cB a b) (c : Nat) : aS b c = aS a c := by unfold aS; rw [h.2 (23 + c) (by omega)]
theorem cB_mP {a b : Nat → Int32} (h : cB a b) (v : Nat) (x : DN) : mP b v x = mP a v x := by unfold mP; rw [cB_M h, cB_S h]
theorem cB_stU {a b : Nat → Int32} (h : cB a b) (c : Nat) : ∀ n, stU b c n = stU a c n
  | 0 => rfl
  | n + 1 => by
    show (stU b c n || (decide (tb (aM b c) n = 1) && decide (b (12 + n) = 1))) = (stU a c n || (decide (tb (aM a c) n = 1) && decide (a (12 + n) = 1)))
    rw [cB_stU h c n, cB_M h, h.2 (12 + n) (by omega)]
theorem cB_al {a b : Nat → Int32} (h : cB a b) (v : Nat) : al b v = al a v := by unfold al aStk; rw [cB_stU h]
theorem ah_turn {I0 J J2 : wI} {v : Nat} {b : Nat → Int32} (h0 : invL I0) (hb : cB (rowC 1 I0) b) (g1 : frL I0 J) (g2 : relD (J 115) (posP b)) (g3 : v < 10) : pre_L_doTurn 115 (nI v) J ∧ (post_L_doTurn 115 (nI v) J J2 → frL I0 J2 ∧ relD (J2 115) (posP (aTr b v))) := by
  obtain ⟨q1, q2⟩ := aK_turn (J2 := J2) h0 g1 g2 g3
  refine ⟨q1, fun p => ?_⟩
  obtain ⟨p1, p2⟩ := q2 p
  rw [posP_Tr hb.1 g3, cB_mP hb]
  exact ⟨p1, p2⟩
theorem ah_right {I0 J : wI} {b : Nat → Int32} {r : Int32} (h0 : invL I0) (hb : cB (rowC 1 I0) b) (g1 : frL I0 J) (g2 : relD (J 115) (posP b)) : pre_L_right 115 J ∧ (post_L_right 115 J r → r = nI (aRt b)) := by
  obtain ⟨hJ, eJ, _⟩ := invL_fr h0 g1
  obtain ⟨_, _, _, ⟨_, _, k2, _⟩, k4, _⟩ := hJ
  rw [eJ] at k2 k4
  refine ⟨pre_right k2 k4 g2, fun p => ?_⟩
  rw [right_rt k2 k4 g2 p, aRt_ag hb.1, hb.2 36 (by decide), cB_sec hb]
theorem ah_copy {I0 J J2 : wI} (h0 : invL I0) (g1 : frL I0 J) (p : post_L_copy 111 115 J J2) : frL I0 J2 ∧ relD (J2 115) (posP (rowC 1 I0)) := by
  obtain ⟨hJ, eJ, _⟩ := invL_fr h0 g1
  have hd := hJ.2.1
  rw [eJ] at hd
  exact ⟨frL_trans g1 (frL_K (by decide) p.2), relD_cong p.1 hd⟩
theorem cB_refl {I0 : wI} (h0 : invL I0) : cB (rowC 1 I0) (rowC 1 I0) := ⟨h0.1.1.1, fun _ _ => rfl⟩
/-! the answers -/
theorem op_none {a : Nat → Int32} (h36 : a 36 = 1) (h0 : canB 0 a = false) (h : ∀ j, 1 ≤ j → j ≤ 4 → canB j a = false) (w : Nat) : aOp a w = -1 := by
  have e5 : aOpN a = 5 := fb_no (fun j c d => h j c (by omega))
  unfold aOp
  rw [if_neg (by rw [h36]; decide), h0, if_neg Bool.false_ne_true, e5, if_neg (by decide)]
theorem op_gt {a : Nat → Int32} {k : Nat} (h36 : a 36 = 1) (h0 : canB 0 a = false) (h : ∀ j, 1 ≤ j → j ≤ k → canB j a = false) : aOp a 0 = -1 ∨ ∃ n, k < n ∧ n ≤ 4 ∧ aOp a 0 = nI n := by
  rcases fb_spec (fun n => canB n a) 4 1 with ⟨r, r1, r2, r3, r4, r5⟩ | ⟨r1, r2⟩
  · right
    have e : aOpN a = r := r5
    refine ⟨r, ?_, by omega, ?_⟩
    · apply Decidable.byContradiction
      intro q
      rw [h r r1 (by omega)] at r3; exact absurd r3 (by decide)
    · unfold aOp
      rw [if_neg (by rw [h36]; decide), h0, if_neg Bool.false_ne_true, e, if_pos (by omega), if_pos rfl]
  · exact Or.inl (op_none h36 h0 (fun j c d => r1 j c (by omega)) 0)
theorem op_found {a : Nat → Int32} {n r : Nat} (h36 : a 36 = 1) (h0 : canB 0 a = false) (hn : n + 1 ≤ 4) (h : ∀ j, 1 ≤ j → j < n + 1 → canB j a = false) (hr : r < 10 ^ (n + 1)) (ho : oB (n + 1) r a = true) (hl : ∀ q, q < r → oB (n + 1) q a = false) : aOp a 0 = nI (n + 1) ∧ aOp a 1 = nI (r / 10 ^ n) := by
  have hcan := oB_can (n + 1) r _ ho
  have e5 : aOpN a = n + 1 := fb_eq (by omega) (by omega) hcan (fun j a1 a2 => h j a1 a2)
  have hop : ∀ u, aOp a u = if u = 0 then nI (n + 1) else nI (r / 10 ^ n) := by
    intro u
    unfold aOp
    rw [if_neg (by rw [h36]; decide), h0, if_neg Bool.false_ne_true, e5, if_pos (show n + 1 < 5 by omega), Nat.add_sub_cancel, oB_least hr ho hl]
  exact ⟨by rw [hop, if_pos rfl], by rw [hop, if_neg (by decide)]⟩
theorem m1_lt0 : ¬ (0 : Int32) ≤ -1 := by decide
/-- the row's turns, one by one -/
theorem vl_ah155 {I0 : wI} (h0 : invL I0) (h36 : rowC 1 I0 36 = 1) {many r : Nat} (hm : many ≤ 4) (hm1 : 1 ≤ many) (hr : r < 10 ^ many) {x5 : Int32} {Q : Int32 → wI → Prop} {K95 : Nat → Int32 → Int32 → Int32 → Int32 → wI → Prop} {K124 : Nat → Int32 → Int32 → Int32 → Int32 → Int32 → wI → Prop}
    (hy : oB many r (rowC 1 I0) = true → ∀ I', frL I0 I' → K124 1 (nI many) (nI (r / 10 ^ (many - 1))) (nI (10 ^ many)) (nI many) (nI (r + 1)) I')
    (hn : oB many r (rowC 1 I0) = false → ∀ I', frL I0 I' → K124 1 (-1) (-1) (nI (10 ^ many)) (nI many) (nI (r + 1)) I') : ∀ (m k : Nat) (t : Bool) (b : Nat → Int32) (I' : wI), k + m = many → cB (rowC 1 I0) b → frL I0 I' → relD (I' 115) (posP b) → (t && oB m r b) = oB many r (rowC 1 I0) →
    v_L_isAhead_155 x5 Q K95 K124 (m + 1) 1 (-1) (-1) (nI (10 ^ many)) (nI many) (nI r) (if t then 1 else 0) (nI (10 ^ (m - 1))) (nI k) I'
  | 0, k, t, b, I', e, hb, hf, hd, ho => by
    have hp := p10 hm
    have hp1 := p10 (show many - 1 ≤ 4 by omega)
    have hp0 := p10_0 (many - 1)
    show g_L_isAhead_155 ..
    unfold g_L_isAhead_155
    rw [i_le (by omega) (by omega)]
    have no : oB many r (rowC 1 I0) = false → v_L_isAhead_263 x5 Q K95 K124 1 (-1) (-1) (nI (10 ^ many)) (nI many) (nI r) I' := fun q => ⟨Nat.le_refl _, by rw [i_s]; exact hn q I' hf⟩
    refine ⟨Nat.le_refl _, fun _ => ?_, fun c => absurd c (by omega)⟩
    cases t
    · exact t_n rfl (no (by rw [← ho]; rfl))
    · refine t_n0 (by decide) ⟨(ah_right (r := 0) h0 hb hf hd).1, fun r1 q1 => ?_⟩
      have e1 := (ah_right h0 hb hf hd).2 q1
      have hrl := aRt_le b
      have hob : decide (aRt b = 6) = oB many r (rowC 1 I0) := ho
      rw [e1, l_6, i_le (by omega) (by omega)]
      refine ⟨fun c => ?_, fun c => no (by rw [← hob]; exact decide_eq_false (by omega))⟩
      have hdiv : 10 ^ many / 10 = 10 ^ (many - 1) := by
        obtain ⟨u, rfl⟩ : ∃ u, many = u + 1 := ⟨many - 1, by omega⟩
        rw [Nat.pow_succ, Nat.add_sub_cancel, Nat.mul_div_cancel _ (by decide)]
      rw [l_10, i_div (by omega) (by decide) (by decide), hdiv, i_div (by omega) hp0 (by omega), l_0, i_eq (by omega) (by decide)]
      refine ⟨by omega, Nat.le_refl _, ?_⟩
      rw [i_s]
      exact hy (by rw [← hob]; exact decide_eq_true (by omega)) I' hf
  | m + 1, k, t, b, I', e, hb, hf, hd, ho => by
    have hp := p10 hm
    have hpm := p10 (show m ≤ 4 by omega)
    have hp0 := p10_0 m
    have hdr : r / 10 ^ m ≤ r := Nat.div_le_self _ _
    have hd10 : r / 10 ^ m % 10 < 10 := Nat.mod_lt _ (by decide)
    show g_L_isAhead_155 ..
    unfold g_L_isAhead_155
    rw [i_le (by omega) (by omega), Nat.add_sub_cancel, i_div (by omega) hp0 (by omega), l_10, i_rem (by omega) (by decide) (by decide), l_5, i_rem (by omega) (by decide) (by decide), i_cl (show r / 10 ^ m % 10 % 5 < 2147483648 by omega), show (3 : Int32).toNatClampNeg = 3 from rfl]
    refine ⟨Nat.le_refl _, fun c => absurd c (by omega), fun _ => ⟨by rw [l_0, i_eq (by omega) (by decide)]; omega, ?_⟩⟩
    -- the turn itself
    have step : ∀ u : Bool, u = (t && al b (r / 10 ^ m % 10)) → v_L_isAhead_195 x5 Q K95 K124 (v_L_isAhead_155 x5 Q K95 K124 (m + 1)) 1 (-1) (-1) (nI (10 ^ many)) (nI many) (nI r) (nI (10 ^ m)) (nI k) (nI (r / 10 ^ m % 10)) (if u then 1 else 0) I' := by
      intro u hu
      refine ⟨Nat.le_refl _, (ah_turn (J2 := I') h0 hb hf hd hd10).1, fun I1 p1 => ?_⟩
      obtain ⟨f1, d1⟩ := (ah_turn h0 hb hf hd hd10).2 p1
      have nx : v_L_isAhead_220 x5 Q K95 K124 (v_L_isAhead_155 x5 Q K95 K124 (m + 1)) 1 (-1) (-1) (nI (10 ^ many)) (nI many) (nI r) (if u then 1 else 0) (nI k) (nI (10 ^ (m - 1))) I1 := by
        refine ⟨Nat.le_refl _, ?_⟩
        rw [i_s]
        refine vl_ah155 h0 h36 hm hm1 hr hy hn m (k + 1) u (aTr b (r / 10 ^ m % 10)) I1 (by omega) (cB_tr hd10 hb) f1 d1 ?_
        rw [← ho, hu]
        show (t && al b (r / 10 ^ m % 10) && oB m r (aTr b (r / 10 ^ m % 10))) = (t && (al b (r / 10 ^ m % 10) && oB m r (aTr b (r / 10 ^ m % 10))))
        rw [Bool.and_assoc]
      rw [l_1, i_le (by omega) (by decide)]
      refine ⟨fun c => ?_, fun c => ?_⟩
      · obtain rfl : m = 0 := by
          apply Decidable.byContradiction
          intro q
          obtain ⟨u, rfl⟩ : ∃ u, m = u + 1 := ⟨m - 1, by omega⟩
          have := p10_0 u
          rw [Nat.pow_succ] at c; omega
        exact nx
      · obtain ⟨w, rfl⟩ : ∃ w, m = w + 1 := ⟨m - 1, by
          apply Decidable.byContradiction
          intro q
          obtain rfl : m = 0 := by omega
          exact c (by decide)⟩
        rw [l_10, i_div (by omega) (by decide) (by decide), show 10 ^ (w + 1) / 10 = 10 ^ w by rw [Nat.pow_succ, Nat.mul_div_cancel _ (by decide)]]
        exact nx
    obtain ⟨hJ, eJ, _⟩ := invL_fr h0 hf
    have hst := stk_and hJ.1.1.1 hJ.2.2.1 hJ.2.2.2.1 (m5 (r / 10 ^ m % 10))
    rw [eJ] at hst
    have hal : al b (r / 10 ^ m % 10) = !aStk (rowC 1 I0) (r / 10 ^ m % 10 % 5) := cB_al hb _
    have no : (t && al b (r / 10 ^ m % 10)) = false → v_L_isAhead_194 x5 Q K95 K124 (v_L_isAhead_155 x5 Q K95 K124 (m + 1)) 1 (-1) (-1) (nI (10 ^ many)) (nI many) (nI r) (nI (10 ^ m)) (nI k) (nI (r / 10 ^ m % 10)) I' := fun q => ⟨Nat.le_refl _, step false q.symm⟩
    cases t
    · exact t_n rfl (no rfl)
    · refine t_n0 (by decide) ⟨i_in (by omega) (by decide), i_in (a := 3) (by decide) (by decide), ?_⟩
      rw [hst]
      refine ⟨fun c => no ?_, fun c => step true ?_⟩
      · rw [hal]
        cases hq : aStk (rowC 1 I0) (r / 10 ^ m % 10 % 5)
        · exact absurd hq c
        · rfl
      · rw [hal, c]; rfl
theorem vl_ah124 {I0 : wI} (h0 : invL I0) (h36 : rowC 1 I0 36 = 1) {many : Nat} (hm : many ≤ 4) (hm1 : 1 ≤ many) {x5 : Int32} {Q : Int32 → wI → Prop} {K95 : Nat → Int32 → Int32 → Int32 → Int32 → wI → Prop}
    (hy : ∀ r, r < 10 ^ many → oB many r (rowC 1 I0) = true → (∀ q, q < r → oB many q (rowC 1 I0) = false) → ∀ I', frL I0 I' → K95 1 (nI many) (nI (r / 10 ^ (many - 1))) (nI (10 ^ many)) (nI (many + 1)) I')
    (hn : canB many (rowC 1 I0) = false → ∀ I', frL I0 I' → K95 1 (-1) (-1) (nI (10 ^ many)) (nI (many + 1)) I') : ∀ (m r : Nat) (I' : wI), r + m = 10 ^ many → frL I0 I' → (∀ q, q < r → oB many q (rowC 1 I0) = false) →
    v_L_isAhead_124 x5 Q K95 (m + 1) 1 (-1) (-1) (nI (10 ^ many)) (nI many) (nI r) I'
  | m, r, I', e, hf, hl => by
    have hp := p10 hm
    show g_L_isAhead_124 ..
    unfold g_L_isAhead_124
    rw [i_le (by omega) (by omega)]
    refine ⟨Nat.le_refl _, fun c => ⟨Nat.le_refl _, ?_⟩, fun c => ⟨fun d => absurd d m1_lt0, fun _ => ⟨by show (111 : Nat) ≠ 115; decide, fun I1 p1 => ⟨many + 1, ?_⟩⟩⟩⟩
    · rw [i_s]
      refine hn ?_ I' hf
      cases hc : canB many (rowC 1 I0)
      · rfl
      · obtain ⟨q, hq, ho⟩ := can_oB many _ hc
        rw [hl q (by omega)] at ho; exact absurd ho (by decide)
    · obtain ⟨f1, d1⟩ := ah_copy h0 hf p1
      obtain ⟨m, rfl⟩ : ∃ j, m = j + 1 := ⟨m - 1, by omega⟩
      have hdiv : 10 ^ many / 10 = 10 ^ (many - 1) := by
        obtain ⟨u, rfl⟩ : ∃ u, many = u + 1 := ⟨many - 1, by omega⟩
        rw [Nat.pow_succ, Nat.add_sub_cancel, Nat.mul_div_cancel _ (by decide)]
      rw [l_10, i_div (by omega) (by decide) (by decide), hdiv]
      refine vl_ah155 h0 h36 hm hm1 (by omega) (fun ho I2 f2 => ?_) (fun ho I2 f2 => ?_) many 0 true (rowC 1 I0) I1 (Nat.zero_add _) (cB_refl h0) f1 d1 (Bool.true_and _)
      · -- found: the loop of rows ends
        have hr1 : r + 1 ≤ 10 ^ many := by omega
        have ex : v_L_isAhead_269 x5 Q K95 1 (nI many) (nI (r / 10 ^ (many - 1))) (nI (10 ^ many)) (nI many) I2 := ⟨Nat.le_refl _, by rw [i_s]; exact hy r (by omega) ho hl I2 f2⟩
        refine ⟨Nat.le_refl _, fun _ => ex, fun _ => ⟨fun _ => ex, fun c2 => absurd (by rw [l_0, i_le (by decide) (by omega)]; omega) c2⟩⟩
      · exact vl_ah124 h0 h36 hm hm1 hy hn m (r + 1) I2 (by omega) f2 (fun q hq => by
          by_cases cq : q = r
          · rw [cq]; exact ho
          · exact hl q (by omega))
/-- the end: what the class tells -/
theorem ah_open {I0 J J2 : wI} {w : Nat} {r : Int32} (h0 : invL I0) (g1 : frL I0 J) (hw : w < 2) : pre_X5_openIn (nI w) J ∧ (post_X5_openIn (nI w) J r J2 → frL I0 J2 ∧ r = aOp (rowC 1 I0) w) := by
  obtain ⟨hJ, eJ, _⟩ := invL_fr h0 g1
  refine ⟨⟨hJ.1, isN_nI hw⟩, fun p => ⟨frL_trans g1 (frL_X p.2), ?_⟩⟩
  have := p.1
  rw [eJ, i_nt (by omega)] at this
  exact this
theorem vl_ah275 {I0 : wI} (h0 : invL I0) {most : Nat} (hm : most ≤ 4) {v7 v8 : Int32} {I' : wI} (hf : frL I0 I')
    (h : (v7 = aOp (rowC 1 I0) 0 ∧ v8 = aOp (rowC 1 I0) 1 ∧ (0 ≤ v7 ∨ ¬ rowC 1 I0 36 = 1 ∨ most = 4)) ∨ (v7 = -1 ∧ v8 = -1 ∧ rowC 1 I0 36 = 1 ∧ canB 0 (rowC 1 I0) = false ∧ ∀ j, 1 ≤ j → j ≤ most → canB j (rowC 1 I0) = false)) : v_L_isAhead_275 (nI most) (post_L_isAhead (nI most) I0) 1 v7 v8 I' := by
  refine ⟨Nat.le_refl _, (ah_open (J2 := I') (r := 0) (w := 0) h0 hf (by decide)).1, fun r1 I2 p1 => ?_⟩
  obtain ⟨f2, e1⟩ := (ah_open (w := 0) h0 hf (by decide)).2 p1
  obtain ⟨h2, e2, _⟩ := invL_fr h0 f2
  have eG : I2 113 (2 : Int32).toNatClampNeg = rowC 1 I0 36 := by
    have := h2.2.2.2.1.2.2.1
    rw [e2] at this; exact this
  have fin : ∀ (q1 : v7 = aOp (rowC 1 I0) 0) (q2 : v8 = aOp (rowC 1 I0) 1), v_L_isAhead_319 (nI most) (post_L_isAhead (nI most) I0) 1 v7 v8 r1 I2 := by
    intro q1 q2
    refine ⟨Nat.le_refl _, t_y (by rw [e1, q1]) ⟨(ah_open (J2 := I') (r := 0) (w := 1) h0 f2 (by decide)).1, fun r3 I4 p3 => ?_⟩⟩
    obtain ⟨f4, e3⟩ := (ah_open (w := 1) h0 f2 (by decide)).2 p3
    exact t_y (by rw [e3, q2]) ⟨Nat.le_refl _, Or.inr rfl, rfl, f4⟩
  rw [eG, show ((4 : Int32) ≤ nI most) = (4 ≤ most) from i_le (a := 4) (by decide) (by omega)]
  have yes : v_L_isAhead_313 (nI most) (post_L_isAhead (nI most) I0) 1 I2 := ⟨Nat.le_refl _, Nat.le_refl _, Or.inr rfl, rfl, f2⟩
  rcases h with ⟨q1, q2, q3⟩ | ⟨q1, q2, q3, q4, q5⟩
  · refine ⟨fun _ => fin q1 q2, fun c => ⟨i_in (a := 2) (by decide) (by decide), fun _ => fin q1 q2, fun c1 => ⟨fun _ => fin q1 q2, fun c2 => ?_⟩⟩⟩
    rcases q3 with q | q | q
    · exact absurd q c
    · exact absurd c1 q
    · exact absurd (by omega) c2
  · refine ⟨fun c => absurd (by rw [q1] at c; exact c) m1_lt0, fun _ => ⟨i_in (a := 2) (by decide) (by decide), fun c => absurd q3 c, fun _ => ⟨fun c => ?_, fun c => ?_⟩⟩⟩
    · refine fin ?_ ?_
      · rw [q1]; exact (op_none q3 q4 (fun j a b => q5 j a (by omega)) 0).symm
      · rw [q2]; exact (op_none q3 q4 (fun j a b => q5 j a (by omega)) 1).symm
    · rcases op_gt q3 q4 q5 with q | ⟨n, n1, n2, n3⟩
      · exact t_n (by rw [e1, q]) yes
      · rw [e1, n3]
        refine t_n0 (nI_m1 (by omega)) ?_
        rw [i_le (by omega) (by omega)]
        exact ⟨fun c => absurd c (by omega), fun _ => yes⟩
theorem vl_ah95f {I0 : wI} (h0 : invL I0) {most : Nat} (hm : most ≤ 4) {v7 v8 v9 : Int32} {k f : Nat} (hk : k < 10) {I' : wI} (hf : frL I0 I') (q1 : v7 = aOp (rowC 1 I0) 0) (q2 : v8 = aOp (rowC 1 I0) 1) (q3 : 0 ≤ v7 ∨ ¬ rowC 1 I0 36 = 1) : v_L_isAhead_95 (nI most) (post_L_isAhead (nI most) I0) (f + 1) 1 v7 v8 v9 (nI k) I' := by
  obtain ⟨h2, e2, _⟩ := invL_fr h0 hf
  have eG : I' 113 (2 : Int32).toNatClampNeg = rowC 1 I0 36 := by
    have := h2.2.2.2.1.2.2.1
    rw [e2] at this; exact this
  have ex := vl_ah275 h0 hm hf (Or.inl ⟨q1, q2, q3.elim Or.inl (fun q => Or.inr (Or.inl q))⟩)
  show g_L_isAhead_95 ..
  unfold g_L_isAhead_95
  rw [eG]
  refine ⟨Nat.le_refl _, fun _ => ex, fun _ => ⟨fun _ => ex, fun c => ⟨i_in (a := 2) (by decide) (by decide), fun _ => ex, fun c1 => ?_⟩⟩⟩
  rcases q3 with q | q
  · exact absurd q c
  · exact absurd c1 q
theorem vl_ah95 {I0 : wI} (h0 : invL I0) (h36 : rowC 1 I0 36 = 1) (hn0 : canB 0 (rowC 1 I0) = false) {most : Nat} (hm : most ≤ 4) : ∀ (m k : Nat) (I' : wI), k + m = most + 1 → 1 ≤ k → frL I0 I' → (∀ j, 1 ≤ j → j < k → canB j (rowC 1 I0) = false) → v_L_isAhead_95 (nI most) (post_L_isAhead (nI most) I0) (m + 1) 1 (-1) (-1) (nI (10 ^ (k - 1))) (nI k) I'
  | m, k, I', e, h1, hf, hl => by
    obtain ⟨h2, e2, _⟩ := invL_fr h0 hf
    have eG : I' 113 (2 : Int32).toNatClampNeg = rowC 1 I0 36 := by
      have := h2.2.2.2.1.2.2.1
      rw [e2] at this; exact this
    show g_L_isAhead_95 ..
    unfold g_L_isAhead_95
    rw [eG, i_lt (by omega) (by omega)]
    refine ⟨Nat.le_refl _, fun c => vl_ah275 h0 hm hf (Or.inr ⟨rfl, rfl, h36, hn0, fun j a b => hl j a (by omega)⟩), fun c => ⟨fun d => absurd d m1_lt0, fun _ => ⟨i_in (a := 2) (by decide) (by decide), fun d => absurd h36 d, fun _ => ⟨10 ^ k + 1, ?_⟩⟩⟩⟩
    obtain ⟨m, rfl⟩ : ∃ j, m = j + 1 := ⟨m - 1, by omega⟩
    have hmul : 10 ^ (k - 1) * 10 = 10 ^ k := by
      obtain ⟨u, rfl⟩ : ∃ u, k = u + 1 := ⟨k - 1, by omega⟩
      rw [Nat.add_sub_cancel, Nat.pow_succ]
    rw [l_10, i_mul, hmul]
    refine vl_ah124 h0 h36 (by omega) h1 (fun r hr ho hq I2 f2 => ?_) (fun hc I2 f2 => ?_) (10 ^ k) 0 I' (Nat.zero_add _) hf (fun q hq => absurd hq (Nat.not_lt_zero _))
    · obtain ⟨u, rfl⟩ : ∃ u, k = u + 1 := ⟨k - 1, by omega⟩
      obtain ⟨o1, o2⟩ := op_found h36 hn0 (by omega) hl hr ho hq
      exact vl_ah95f h0 hm (by omega) f2 o1.symm (by rw [Nat.add_sub_cancel]; exact o2.symm) (Or.inl (by rw [l_0, i_le (by decide) (by omega)]; omega))
    · refine vl_ah95 h0 h36 hn0 hm m (k + 1) I2 (by omega) (by omega) f2 (fun j a b => ?_)
      by_cases cj : j = k
      · rw [cj]; exact hc
      · exact hl j a (by omega)
theorem ah_if {I0 J J2 : wI} {v : Nat} {r : Int32} (h0 : invL I0) (g1 : frL I0 J) (hv : v < 10) : pre_X5_ifTurned (nI (v % 5)) (nI (v / 5)) J ∧ (post_X5_ifTurned (nI (v % 5)) (nI (v / 5)) J r J2 → frL I0 J2 ∧ r = nI (aRt (aTr (rowC 1 I0) v))) := by
  obtain ⟨hJ, eJ, _⟩ := invL_fr h0 g1
  refine ⟨⟨hJ.1, isN_nI (m5 v), isN_nI (by omega)⟩, fun p => ⟨frL_trans g1 (frL_X p.2), ?_⟩⟩
  have := p.1
  rw [eJ, i_nt (by omega), i_nt (by omega), show 5 * (v / 5) + v % 5 = v by omega] at this
  exact this
theorem vl_ah9 {I0 : wI} (h0 : invL I0) {most : Nat} (hm : most ≤ 4) (hm1 : 1 ≤ most) : ∀ (m v : Nat) (I' : wI), v + m = 10 → frL I0 I' → v_L_isAhead_9 (nI most) (post_L_isAhead (nI most) I0) (m + 1) 1 (nI v) I'
  | 0, v, I', e, hf => by
    obtain rfl : v = 10 := by omega
    obtain ⟨h2, e2, _⟩ := invL_fr h0 hf
    obtain ⟨_, k0, k1, ⟨_, _, k2, _⟩, k4, _⟩ := h2
    rw [e2] at k0 k2 k4
    have hR : okR (rowC 1 I0) := h0.1.1.1
    refine ⟨Nat.le_refl _, fun _ => ⟨i_in (a := 2) (by decide) (by decide), ?_⟩, fun c => absurd (Int32.le_refl _) c⟩
    rw [show I' 113 (2 : Int32).toNatClampNeg = rowC 1 I0 36 from k2]
    refine ⟨fun c => ⟨Nat.le_refl _, 1, ?_⟩, fun c => ⟨pre_right k2 k4 k0, fun r1 p1 => ?_⟩⟩
    · have h36 : rowC 1 I0 36 = 0 := hR.2.2.2.2.2.1.elim id (fun q => absurd q c)
      have eo : ∀ w, aOp (rowC 1 I0) w = -1 := fun w => by unfold aOp; rw [if_pos h36]
      exact vl_ah95f (k := 1) h0 hm (by decide) hf (eo 0).symm (eo 1).symm (Or.inr c)
    · have e1 : r1 = nI (aRt (rowC 1 I0)) := by rw [aRt_ag hR]; exact right_rt k2 k4 k0 p1
      have hrl := aRt_le (rowC 1 I0)
      rw [e1, l_6, i_eq (by omega) (by decide)]
      refine ⟨fun d => ⟨Nat.le_refl _, most + 1, ?_⟩, fun d => ⟨Nat.le_refl _, 1, ?_⟩⟩
      · exact vl_ah95 h0 c (decide_eq_false d) hm most 1 I' (by omega) (Nat.le_refl _) hf (fun j a b => by omega)
      · have hc : canB 0 (rowC 1 I0) = true := decide_eq_true d
        have eo : aOp (rowC 1 I0) 0 = 0 ∧ aOp (rowC 1 I0) 1 = -1 := by
          constructor
          · unfold aOp; rw [if_neg (by rw [c]; decide), hc, if_pos rfl, if_pos rfl]
          · unfold aOp; rw [if_neg (by rw [c]; decide), hc, if_pos rfl, if_neg (by decide)]
        exact vl_ah95f (k := 1) h0 hm (by decide) hf eo.1.symm eo.2.symm (Or.inl (by decide))
  | m + 1, v, I', e, hf => by
    have hv : v < 10 := by omega
    show g_L_isAhead_9 ..
    unfold g_L_isAhead_9
    rw [l_10, i_le (by decide) (by omega), l_5, i_rem (by omega) (by decide) (by decide), i_div (by omega) (by decide) (by decide)]
    refine ⟨Nat.le_refl _, fun c => absurd c (by omega), fun _ => ⟨by show (111 : Nat) ≠ 115; decide, fun I2 p2 => ?_⟩⟩
    obtain ⟨f2, d2⟩ := ah_copy h0 hf p2
    have hb := cB_refl h0
    refine ⟨(ah_turn (J2 := I2) h0 hb f2 d2 hv).1, fun I3 p3 => ?_⟩
    obtain ⟨f3, d3⟩ := (ah_turn h0 hb f2 d2 hv).2 p3
    refine ⟨(ah_if (J2 := I2) (r := 0) h0 f3 hv).1, fun r4 I5 p5 => ?_⟩
    obtain ⟨f5, e5⟩ := (ah_if h0 f3 hv).2 p5
    have d5 : relD (I5 115) (posP (aTr (rowC 1 I0) v)) := by
      have := p5.2.1 115 (by omega)
      rw [this]; exact d3
    refine ⟨(ah_right (r := 0) h0 (cB_tr hv hb) f5 d5).1, fun r6 p6 => t_n ?_ ?_⟩
    · rw [e5, (ah_right h0 (cB_tr hv hb) f5 d5).2 p6]
    · rw [i_s]
      exact vl_ah9 h0 hm hm1 m (v + 1) I5 (by omega) f5
theorem vc_L_isAhead (x5 : Int32) (I : wI) (hp : pre_L_isAhead x5 I) : v_L_isAhead x5 I (post_L_isAhead x5 I) := by
  obtain ⟨h0, most, h1, h4, rfl⟩ := hp
  exact ⟨Nat.le_refl _, fun I1 e1 => ⟨11, vl_ah9 h0 h4 h1 10 0 I1 rfl (frL_z (Nat.le_refl _) e1)⟩⟩
