/-! ===== keys, pairs, their periods, the closest pair ===== -/
theorem frL_refl (I : wI) : frL I I := ⟨fun _ _ => rfl, rfl⟩
theorem frL_trans {I I1 I2 : wI} (h : frL I I1) (h2 : frL I1 I2) : frL I I2 := ⟨fun c hc => by rw [h2.1 c hc, h.1 c hc], by rw [h2.2, h.2]⟩
theorem frL_X {I I1 : wI} (h : frX I I1) : frL I I1 := ⟨fun c hc => h.1 c (by omega), h.2⟩
theorem frL_K {I I1 : wI} {k : Nat} (hk : 115 ≤ k) (h : frK k I I1) : frL I I1 := ⟨fun c hc => h c (by omega), by rw [h 24 (by omega)]⟩
theorem frL_z {I I1 : wI} {k : Nat} (hk : 115 ≤ k) (h : I1 = zI I k) : frL I I1 := frL_K hk (fun c hc => by rw [h]; exact if_neg hc)
theorem frL_abs {I I1 : wI} (h0 : okC I) (h : frL I I1) : absC I1 = absC I ∧ okC I1 := absC_eq h0 (fun c hc => h.1 c (by omega)) h.2
theorem frL_row {I I1 : wI} (h0 : okC I) (h : frL I I1) : rowC 1 I1 = rowC 1 I := congrFun (frL_abs h0 h).1 0
theorem relG_fr {a : Nat → Int32} {I I1 : wI} (h : I1 113 = I 113) (h0 : relG a I) : relG a I1 := by unfold relG; rw [h]; exact h0
theorem relK_fr {a : Nat → Int32} {I I1 : wI} (h : I1 112 = I 112) (h0 : relK a I) : relK a I1 := by unfold relK; rw [h]; exact h0
theorem relA_fr {a : Nat → Int32} {I I1 : wI} (h1 : I1 111 = I 111) (h2 : I1 112 = I 112) (h3 : I1 113 = I 113) (h4 : I1 114 = I 114) (h0 : relA a I) : relA a I1 := by
  obtain ⟨a1, a2, a3, a4, a5⟩ := h0
  exact ⟨by rw [h1]; exact a1, relK_fr h2 a2, relG_fr h3 a3, by rw [h4]; exact a4, a5⟩
theorem invL_fr {I I1 : wI} (h0 : invL I) (h : frL I I1) : invL I1 ∧ rowC 1 I1 = rowC 1 I ∧ absC I1 = absC I := by
  obtain ⟨e1, e2⟩ := frL_abs h0.1 h
  have e3 := frL_row h0.1 h
  refine ⟨⟨e2, ?_⟩, e3, e1⟩
  rw [e3]
  exact relA_fr (h.1 111 (by omega)) (h.1 112 (by omega)) (h.1 113 (by omega)) (h.1 114 (by omega)) h0.2
theorem okLk_of {a : Nat → Int32} {I : wI} (hR : okR a) (h : relK a I) : okLk I := by
  intro c hc
  obtain ⟨h1, h2, h3⟩ := h c hc
  obtain ⟨⟨a1, a2, a3⟩, a4, a5⟩ := hR.2.2.2.1 c hc
  rw [h1, h2]
  exact ⟨⟨a1, a2, a3⟩, a4, a5⟩
theorem aM_K {a : Nat → Int32} {I : wI} (h : relK a I) {c : Nat} (hc : c < 5) : aM (aK I) c = aM a c := by rw [aM_aK I hc, (h c hc).1]; rfl
theorem aS_K {a : Nat → Int32} {I : wI} (h : relK a I) {c : Nat} (hc : c < 5) : aS (aK I) c = aS a c := by rw [aS_aK I hc, (h c hc).2.1]; rfl
theorem mP_K {a : Nat → Int32} {I : wI} (h : relK a I) (v : Nat) (x : DN) : mP (aK I) v x = mP a v x := by unfold mP; rw [aM_K h (m5 v), aS_K h (m5 v)]
theorem wD_K {a : Nat → Int32} {I : wI} (h : relK a I) : ∀ (l : List Nat) (d : Nat → Nat), wD (aK I) l d = wD a l d
  | [], _ => rfl
  | v :: l, d => by
    show wD (aK I) l (mvD (aM (aK I) (v % 5)) (v / 5) d) = wD a l (mvD (aM a (v % 5)) (v / 5) d)
    rw [aM_K h (m5 v), wD_K h l]
theorem wN_K {a : Nat → Int32} {I : wI} (h : relK a I) : ∀ (l : List Nat) (d : Nat → Nat), wN (aK I) l d = wN a l d
  | [], _ => rfl
  | v :: l, d => by
    show wN (aK I) l (mvN (aM (aK I) (v % 5)) (aS (aK I) (v % 5)) (v / 5) d) = wN a l (mvN (aM a (v % 5)) (aS a (v % 5)) (v / 5) d)
    rw [aM_K h (m5 v), aS_K h (m5 v), wN_K h l]
theorem stU_m {a : Nat → Int32} {c m : Nat} (h : ∀ p, p < 6 → a (12 + p) = nI (tb m p)) : ∀ n, n ≤ 6 → stU a c n = mkU (aM a c) m n
  | 0, _ => rfl
  | n + 1, hn => by
    show (stU a c n || (decide (tb (aM a c) n = 1) && decide (a (12 + n) = 1))) = (mkU (aM a c) m n || (decide (tb (aM a c) n = 1) && decide (tb m n = 1)))
    rw [stU_m h n (by omega), h n (by omega), i_dec (tb_lt m n)]
/-- a key is stuck, by masks -/
theorem stk_and {a : Nat → Int32} {I : wI} (hR : okR a) (hK : relK a I) (hG : relG a I) {c : Nat} (hc : c < 5) : (I 112 c &&& I 113 3 = 0) = (aStk a c = false) := by
  obtain ⟨g0, g1, g2, m, hm, g3, g4⟩ := hG
  have eM : I 112 c = nI (aM a c) := by rw [(hK c hc).1]; exact (hR.2.2.2.1 c hc).1.1
  have hM := okR_M hR hc
  have hl : aM a c &&& m < 64 := Nat.lt_of_le_of_lt Nat.and_le_left hM
  have h1 := mkU_and _ hM m hm
  have h2 : aStk a c = mkU (aM a c) m 6 := stU_m g4 6 (Nat.le_refl _)
  rw [eM, g3, nI_and, l_0, i_eq (by omega) (by decide), h2]
  cases hq : mkU (aM a c) m 6
  · rw [hq] at h1
    exact propext ⟨fun _ => rfl, fun _ => of_decide_eq_true h1⟩
  · rw [hq] at h1
    exact propext ⟨fun q => absurd q (of_decide_eq_false h1), fun q => absurd q (by decide)⟩
theorem dgs_1 : ∀ i, i < 5 → dgs 1 i = [i] := by decide +kernel
theorem dgs_4 : ∀ i, i < 5 → ∀ j, j < 5 → dgs 4 (1000 * i + 100 * j + 10 * (5 + i) + 5 + j) = prL i j := by decide +kernel
/-- the closest pair as the law finds it -/
def clL (a : Nat → Int32) : Nat → Int32 × Nat
  | 0 => (0, 7)
  | t + 1 => if t / 5 < t % 5 ∧ pc6 (rcF (wD a (prL (t / 5) (t % 5)) idF) (wN a (prL (t / 5) (t % 5)) zF)) < (clL a t).2 then (nI t, pc6 (rcF (wD a (prL (t / 5) (t % 5)) idF) (wN a (prL (t / 5) (t % 5)) zF))) else clL a t
theorem clL_S (a : Nat → Int32) : ∀ t, clL a (t + 2) = clS a (t + 2)
  | 0 => by
    have hp := pc6_le (rcF (wD a (prL (1 / 5) (1 % 5)) idF) (wN a (prL (1 / 5) (1 % 5)) zF))
    have e1 : clL a 1 = (0, 7) := by unfold clL; rw [if_neg (fun q => absurd q.1 (by decide))]; rfl
    have e2 : clS a 1 = (-1, 7) := by unfold clS; rw [if_neg (fun q => absurd q.1 (by decide))]; rfl
    show (if _ then _ else clL a 1) = (if _ then _ else clS a 1)
    rw [e1, e2, if_pos ⟨by decide, Nat.lt_of_le_of_lt (pc6_le _) (by decide)⟩, if_pos ⟨by decide, Nat.lt_of_le_of_lt (pc6_le _) (by decide)⟩]
  | t + 1 => by
    have ih := clL_S a t
    show (if _ then _ else clL a (t + 2)) = (if _ then _ else clS a (t + 2))
    rw [ih]
theorem clL_le (a : Nat → Int32) : ∀ t, (clL a t).2 ≤ 7
  | 0 => Nat.le_refl _
  | t + 1 => by
    unfold clL
    split
    · rename_i h
      exact Nat.le_trans (pc6_le _) (by decide)
    · exact clL_le a t
theorem ar_row {i j : Nat} (hi : i < 5) (hj : j < 5) : ((((1000 : Int32) * nI i + (100 : Int32) * nI j) + ((10 : Int32) * ((5 : Int32) + nI i))) + (5 : Int32)) + nI j = nI (1000 * i + 100 * j + 10 * (5 + i) + 5 + j) := by
  rw [show (1000 : Int32) = nI 1000 from rfl, show (100 : Int32) = nI 100 from rfl, l_10, l_5, i_mul, i_mul, i_add, i_add, i_mul, i_add, i_add, i_add]
theorem aK_turn {I0 J J2 : wI} {v : Nat} {x : DN} (h0 : invL I0) (g1 : frL I0 J) (g2 : relD (J 115) x) (g3 : v < 10) : pre_L_doTurn 115 (nI v) J ∧ (post_L_doTurn 115 (nI v) J J2 → frL I0 J2 ∧ relD (J2 115) (mP (rowC 1 I0) v x)) := by
  obtain ⟨hJ, eJ, _⟩ := invL_fr h0 g1
  have kJ : relK (rowC 1 I0) J := by rw [← eJ]; exact hJ.2.2.1
  refine ⟨⟨okLk_of h0.1.1.1 kJ, isN_nI g3, by decide, x, g2⟩, fun p => ⟨frL_trans g1 (frL_K (by decide) p.2), ?_⟩⟩
  have := p.1 x g2
  rw [mP_K kJ, i_nt (by omega)] at this
  exact this
theorem aK_pair {I0 J J2 : wI} {i j w : Nat} {r : Int32} (h0 : invL I0) (hi : i < 5) (hj : j < 5) (g1 : frL I0 J) (g2 : w < 5) : pre_X5_pair (nI i) (nI j) (nI w) J ∧ (post_X5_pair (nI i) (nI j) (nI w) J r J2 → frL I0 J2 ∧ r = aOf (rowC 1 I0) (prL i j) w) := by
  obtain ⟨hJ, eJ, _⟩ := invL_fr h0 g1
  refine ⟨⟨hJ.1, ⟨isN_nI hi, isN_nI hj⟩, isN_nI g2⟩, fun p => ⟨frL_trans g1 (frL_X p.2), ?_⟩⟩
  have := p.1
  rw [eJ, i_nt (by omega), i_nt (by omega), i_nt (by omega)] at this
  exact this
theorem aK_ones {J : wI} {m : Nat} {r : Int32} (hm : m < 64) : pre_L_ones (nI m) J ∧ (post_L_ones (nI m) J r → r = nI (pc6 m)) := by
  refine ⟨isN_nI hm, fun p => ?_⟩
  have p : r = _ := p
  rw [p, i_nt (by omega)]
/-- the reach of a pair -/
def prR (a : Nat → Int32) (i j : Nat) : Nat := rcF (wD a (prL i j) idF) (wN a (prL i j) zF)
theorem clL_s {a : Nat → Int32} {i j : Nat} (hj : j < 5) : clL a (5 * i + (j + 1)) = if i < j ∧ pc6 (prR a i j) < (clL a (5 * i + j)).2 then (nI (5 * i + j), pc6 (prR a i j)) else clL a (5 * i + j) := by
  have hdm : (5 * i + j) / 5 = i ∧ (5 * i + j) % 5 = j := by omega
  show (if (5 * i + j) / 5 < (5 * i + j) % 5 ∧ pc6 (prR a ((5 * i + j) / 5) ((5 * i + j) % 5)) < (clL a (5 * i + j)).2 then (nI (5 * i + j), pc6 (prR a ((5 * i + j) / 5) ((5 * i + j) % 5))) else clL a (5 * i + j)) = _
  rw [hdm.1, hdm.2]
theorem vl_aK330 {a : Nat → Int32} {i j : Nat} (hi : i < 5) (hj : j < 5) {v5 : Int32} {Q : Int32 → wI → Prop} {K18 : Nat → Int32 → Int32 → Int32 → Int32 → wI → Prop} {K162 : Nat → Int32 → Int32 → Int32 → Int32 → Int32 → wI → Prop} {n : Nat} (hn : n ≤ 31) {I' : wI} {t r18 : Int32}
    (hK : K162 n (clL a (5 * i + (j + 1))).1 (nI (clL a (5 * i + (j + 1))).2) v5 (nI i) (nI (j + 1)) I') (ht : r18 = t) : v_L_areKeys_330 Q K18 K162 n (clL a (5 * i + j)).1 (nI (clL a (5 * i + j)).2) v5 (nI i) (nI j) (nI (prR a i j)) t r18 I' := by
  have hm : prR a i j < 64 := rcF_lt _ _
  have hcl := clL_le a (5 * i + j)
  have hpc := pc6_le (prR a i j)
  have nx : ∀ c : Int32 × Nat, c = clL a (5 * i + (j + 1)) → v_L_areKeys_370 Q K18 K162 n c.1 (nI c.2) v5 (nI i) (nI j) I' := by
    intro c hc
    refine ⟨hn, ?_⟩
    rw [i_s, hc]
    exact hK
  have ecl := clL_s (a := a) (i := i) hj
  refine ⟨hn, t_n ht ?_⟩
  rw [i_le (by omega) (by omega)]
  refine ⟨fun c1 => nx _ (by rw [ecl, if_neg (fun q => absurd q.1 (by omega))]), fun c1 => ⟨(aK_ones (r := 0) hm).1, fun r1 q1 => ?_⟩⟩
  rw [(aK_ones hm).2 q1, i_lt (by omega) (by omega)]
  refine ⟨fun c2 => ⟨(aK_ones (r := 0) hm).1, fun r2 q2 => ?_⟩, fun c2 => nx _ (by rw [ecl, if_neg (fun q => c2 q.2)])⟩
  rw [(aK_ones hm).2 q2, l_5, i_mul, i_add]
  exact nx (nI (5 * i + j), pc6 (prR a i j)) (by rw [ecl, if_pos ⟨by omega, c2⟩])
theorem vl_aK162b {I0 : wI} (h0 : invL I0) {i j : Nat} (hi : i < 5) (hj : j < 5) {v5 : Int32} {Q : Int32 → wI → Prop} {K18 : Nat → Int32 → Int32 → Int32 → Int32 → wI → Prop} {K162 : Nat → Int32 → Int32 → Int32 → Int32 → Int32 → wI → Prop} {n : Nat} (hn : n ≤ 31)
    (hK : ∀ I', frL I0 I' → K162 n (clL (rowC 1 I0) (5 * i + (j + 1))).1 (nI (clL (rowC 1 I0) (5 * i + (j + 1))).2) v5 (nI i) (nI (j + 1)) I') {r1 : Int32} (p1 : r1 = nI (perF (wD (rowC 1 I0) (prL i j) idF) (wN (rowC 1 I0) (prL i j) zF))) {I7 : wI} (f7 : frL I0 I7) :
    pre_X5_pair (nI i) (nI j) (0 : Int32) I7 ∧ (∀ r9 : Int32, ∀ I10 : wI, post_X5_pair (nI i) (nI j) (0 : Int32) I7 r9 I10 → ((¬ r9 = nI (prR (rowC 1 I0) i j) → v_L_areKeys_333 Q n I10) ∧ (r9 = nI (prR (rowC 1 I0) i j) → (pre_X5_pair (nI i) (nI j) (1 : Int32) I10 ∧ (∀ r11 : Int32, ∀ I12 : wI, post_X5_pair (nI i) (nI j) (1 : Int32) I10 r11 I12 → (pre_L_ones (nI (prR (rowC 1 I0) i j)) I12 ∧ (∀ r13 : Int32, post_L_ones (nI (prR (rowC 1 I0) i j)) I12 r13 → ((¬ r11 = r13 → v_L_areKeys_333 Q n I12) ∧ (r11 = r13 → (pre_X5_pair (nI i) (nI j) (2 : Int32) I12 ∧ (∀ r14 : Int32, ∀ I15 : wI, post_X5_pair (nI i) (nI j) (2 : Int32) I12 r14 I15 → ((¬ r14 = r1 → v_L_areKeys_333 Q n I15) ∧ (r14 = r1 → (pre_X5_pair (nI i) (nI j) (3 : Int32) I15 ∧ (∀ r16 : Int32, ∀ I17 : wI, post_X5_pair (nI i) (nI j) (3 : Int32) I15 r16 I17 → ((¬ r16 = r1 → v_L_areKeys_333 Q n I17) ∧ (r16 = r1 → (pre_X5_pair (nI i) (nI j) (4 : Int32) I17 ∧ (∀ r18 : Int32, ∀ I19 : wI, post_X5_pair (nI i) (nI j) (4 : Int32) I17 r18 I19 → ((¬ nI (prR (rowC 1 I0) i j) = 0 → v_L_areKeys_330 Q K18 K162 n (clL (rowC 1 I0) (5 * i + j)).1 (nI (clL (rowC 1 I0) (5 * i + j)).2) v5 (nI i) (nI j) (nI (prR (rowC 1 I0) i j)) (0 : Int32) r18 I19) ∧ (nI (prR (rowC 1 I0) i j) = 0 → v_L_areKeys_330 Q K18 K162 n (clL (rowC 1 I0) (5 * i + j)).1 (nI (clL (rowC 1 I0) (5 * i + j)).2) v5 (nI i) (nI j) (nI (prR (rowC 1 I0) i j)) (1 : Int32) r18 I19))))))))))))))))))))) := by
  have hm : prR (rowC 1 I0) i j < 64 := rcF_lt _ _
  refine ⟨(aK_pair (J2 := I7) (r := 0) h0 hi hj f7 (show 0 < 5 by decide)).1, fun r9 I10 p8 => t_y ?_ ?_⟩
  · rw [((aK_pair h0 hi hj f7 (show 0 < 5 by decide)).2 p8).2]; rfl
  have f10 := ((aK_pair h0 hi hj f7 (show 0 < 5 by decide)).2 p8).1
  refine ⟨(aK_pair (J2 := I7) (r := 0) h0 hi hj f10 (show 1 < 5 by decide)).1, fun r11 I12 p9 => ⟨(aK_ones (r := 0) hm).1, fun r13 p10 => t_y ?_ ?_⟩⟩
  · rw [((aK_pair h0 hi hj f10 (show 1 < 5 by decide)).2 p9).2, (aK_ones hm).2 p10]; rfl
  have f12 := ((aK_pair h0 hi hj f10 (show 1 < 5 by decide)).2 p9).1
  refine ⟨(aK_pair (J2 := I7) (r := 0) h0 hi hj f12 (show 2 < 5 by decide)).1, fun r14 I15 p11 => t_y ?_ ?_⟩
  · rw [((aK_pair h0 hi hj f12 (show 2 < 5 by decide)).2 p11).2, p1]; rfl
  have f15 := ((aK_pair h0 hi hj f12 (show 2 < 5 by decide)).2 p11).1
  refine ⟨(aK_pair (J2 := I7) (r := 0) h0 hi hj f15 (show 3 < 5 by decide)).1, fun r16 I17 p12 => t_y ?_ ?_⟩
  · rw [((aK_pair h0 hi hj f15 (show 3 < 5 by decide)).2 p12).2, p1]; rfl
  have f17 := ((aK_pair h0 hi hj f15 (show 3 < 5 by decide)).2 p12).1
  refine ⟨(aK_pair (J2 := I7) (r := 0) h0 hi hj f17 (show 4 < 5 by decide)).1, fun r18 I19 p13 => ?_⟩
  obtain ⟨f19, e18⟩ := (aK_pair h0 hi hj f17 (show 4 < 5 by decide)).2 p13
  have e18 : r18 = if prR (rowC 1 I0) i j = 0 then 1 else 0 := e18
  rw [show (nI (prR (rowC 1 I0) i j) = 0) = (prR (rowC 1 I0) i j = 0) from i_eq (b := 0) (by omega) (by decide)]
  refine ⟨fun c1 => vl_aK330 hi hj hn (hK I19 f19) (by rw [e18, if_neg c1]), fun c1 => vl_aK330 hi hj hn (hK I19 f19) (by rw [e18, if_pos c1])⟩
theorem mP_w (a : Nat → Int32) (v : Nat) (l : List Nat) (x : DN) : (wD a (v :: l) x.1, wN a (v :: l) x.2) = (wD a l (mP a v x).1, wN a l (mP a v x).2) := rfl
theorem pr_mP (a : Nat → Int32) (i j : Nat) : mP a (5 + j) (mP a (5 + i) (mP a j (mP a i (idF, zF)))) = (wD a (prL i j) idF, wN a (prL i j) zF) := by
  unfold prL
  rw [mP_w a i [j, 5 + i, 5 + j] (idF, zF), mP_w a j [5 + i, 5 + j], mP_w a (5 + i) [5 + j], mP_w a (5 + j) []]
  rfl
theorem vl_aK162s {I0 : wI} (h0 : invL I0) {i j : Nat} (hi : i < 5) (hj : j < 5) {v5 : Int32} {Q : Int32 → wI → Prop} {K18 : Nat → Int32 → Int32 → Int32 → Int32 → wI → Prop} {K162 : Nat → Int32 → Int32 → Int32 → Int32 → Int32 → wI → Prop}
    (hK : ∀ I', frL I0 I' → K162 (2 + 6 * i + j + 1) (clL (rowC 1 I0) (5 * i + (j + 1))).1 (nI (clL (rowC 1 I0) (5 * i + (j + 1))).2) v5 (nI i) (nI (j + 1)) I') {I' : wI} (hf : frL I0 I') :
      g_L_areKeys_162 Q K18 K162 (2 + 6 * i + j) (clL (rowC 1 I0) (5 * i + j)).1 (nI (clL (rowC 1 I0) (5 * i + j)).2) v5 (nI i) (nI j) I' := by
  have hR : okR (rowC 1 I0) := h0.1.1.1
  unfold g_L_areKeys_162
  rw [show ((5 : Int32) ≤ nI j) = (5 ≤ j) from i_le (a := 5) (by decide) (by omega), ar_row hi hj]
  refine ⟨by omega, fun c => absurd c (by omega), fun _ => ?_⟩
  obtain ⟨h1, e1, e1a⟩ := invL_fr h0 hf
  have k1 : relK (rowC 1 I0) I' := by rw [← e1]; exact h1.2.2.1
  have hlt : 1000 * i + 100 * j + 10 * (5 + i) + 5 + j < 10000 := by omega
  refine ⟨by omega, ⟨okLk_of hR k1, isN_nI hlt, Or.inr rfl⟩, fun r1 I2 p1 => ⟨trivial, fun I3 p2 => ?_⟩⟩
  obtain ⟨p1, q1⟩ := p1
  rw [i_nt (by omega), show nt 4 = 4 from rfl, dgs_4 i hi j hj, wD_K k1, wN_K k1] at p1
  have f3 : frL I0 I3 := frL_trans (frL_trans hf (frL_K (by decide) q1)) (frL_K (by decide) p2.2)
  refine ⟨(aK_turn (J2 := I3) h0 f3 p2.1 (show i < 10 by omega)).1, fun I4 p3 => ?_⟩
  obtain ⟨f4, d4⟩ := (aK_turn h0 f3 p2.1 (show i < 10 by omega)).2 p3
  refine ⟨(aK_turn (J2 := I3) h0 f4 d4 (show j < 10 by omega)).1, fun I5 p4 => ?_⟩
  obtain ⟨f5, d5⟩ := (aK_turn h0 f4 d4 (show j < 10 by omega)).2 p4
  rw [show (5 : Int32) + nI i = nI (5 + i) from i_add 5 i, show (5 : Int32) + nI j = nI (5 + j) from i_add 5 j]
  refine ⟨(aK_turn (J2 := I3) h0 f5 d5 (show 5 + i < 10 by omega)).1, fun I6 p5 => ?_⟩
  obtain ⟨f6, d6⟩ := (aK_turn h0 f5 d5 (show 5 + i < 10 by omega)).2 p5
  refine ⟨(aK_turn (J2 := I3) h0 f6 d6 (show 5 + j < 10 by omega)).1, fun I7 p6 => ?_⟩
  obtain ⟨f7, d7⟩ := (aK_turn h0 f6 d6 (show 5 + j < 10 by omega)).2 p6
  rw [pr_mP] at d7
  refine ⟨⟨_, d7⟩, fun r8 p7 => ?_⟩
  have e8 := p7 _ d7
  have e8 : r8 = nI (prR (rowC 1 I0) i j) := e8
  subst e8
  exact vl_aK162b h0 hi hj (by omega) hK p1 f7
theorem vl_aK162 {I0 : wI} (h0 : invL I0) {i : Nat} (hi : i < 5) {v5 : Int32} {Q : Int32 → wI → Prop} {K18 : Nat → Int32 → Int32 → Int32 → Int32 → wI → Prop}
    (hK : ∀ I', frL I0 I' → K18 (1 + 6 * (i + 1)) (clL (rowC 1 I0) (5 * (i + 1))).1 (nI (clL (rowC 1 I0) (5 * (i + 1))).2) v5 (nI (i + 1)) I') : ∀ (f j : Nat) (I' : wI), j + f = 5 → frL I0 I' →
      v_L_areKeys_162 Q K18 (f + 1) (2 + 6 * i + j) (clL (rowC 1 I0) (5 * i + j)).1 (nI (clL (rowC 1 I0) (5 * i + j)).2) v5 (nI i) (nI j) I'
  | 0, j, I', e, hf => by
    obtain rfl : j = 5 := by omega
    refine ⟨by omega, fun _ => ?_, fun c => absurd (Int32.le_refl _) c⟩
    rw [i_s, show 2 + 6 * i + 5 = 1 + 6 * (i + 1) by omega, show 5 * i + 5 = 5 * (i + 1) by omega]
    exact hK I' hf
  | f + 1, j, I', e, hf => vl_aK162s h0 hi (by omega) (fun I'' hf' => vl_aK162 h0 hi hK f (j + 1) I'' (by omega) hf') hf
theorem aK_key {I0 J J2 : wI} {i w : Nat} {r : Int32} (h0 : invL I0) (hi : i < 5) (g1 : frL I0 J) (g2 : w < 6) : pre_X5_key (nI i) (nI w) J ∧ (post_X5_key (nI i) (nI w) J r J2 → frL I0 J2 ∧ r = aKey (rowC 1 I0) i w) := by
  obtain ⟨hJ, eJ, _⟩ := invL_fr h0 g1
  refine ⟨⟨hJ.1, isN_nI hi, isN_nI g2⟩, fun p => ⟨frL_trans g1 (frL_X p.2), ?_⟩⟩
  have := p.1
  rw [eJ, i_nt (by omega), i_nt (by omega)] at this
  exact this
theorem aK_row {I0 J : wI} {i : Nat} (h0 : invL I0) (hi : i < 5) (g1 : frL I0 J) : J 112 i = rowC 1 I0 (18 + i) ∧ J 112 (5 + i) = rowC 1 I0 (23 + i) ∧ J 112 (10 + i) = rowC 1 I0 (28 + i) := by
  obtain ⟨hJ, eJ, _⟩ := invL_fr h0 g1
  have := hJ.2.2.1 i hi
  rw [eJ] at this; exact this
/-- stuck keys so far -/
def skF (a : Nat → Int32) (i : Nat) : Nat := sm (fun c => if aStk a c then 1 else 0) i
theorem vl_aK63 {I0 : wI} (h0 : invL I0) {i b : Nat} (hi : i < 5) (hb : b = if aStk (rowC 1 I0) i then 1 else 0) {Q : Int32 → wI → Prop} {K18 : Nat → Int32 → Int32 → Int32 → Int32 → wI → Prop}
    (hK : ∀ I', frL I0 I' → K18 (1 + 6 * (i + 1)) (clL (rowC 1 I0) (5 * (i + 1))).1 (nI (clL (rowC 1 I0) (5 * (i + 1))).2) (nI (skF (rowC 1 I0) (i + 1))) (nI (i + 1)) I') {r4 : Int32} (p1 : r4 = nI (perF (wD (rowC 1 I0) [i] idF) (wN (rowC 1 I0) [i] zF))) {I5 : wI} (f5 : frL I0 I5) :
    v_L_areKeys_63 Q K18 (1 + 6 * i + 1) (clL (rowC 1 I0) (5 * i)).1 (nI (clL (rowC 1 I0) (5 * i)).2) (nI i) r4 (nI b) (nI b) (nI (skF (rowC 1 I0) i)) I5 := by
  have hb2 : b = 0 ∨ b = 1 := by rw [hb]; split; exact Or.inr rfl; exact Or.inl rfl
  refine ⟨by omega, (aK_key (J2 := I5) (r := 0) h0 hi f5 (show 0 < 6 by decide)).1, fun r1 I2 p2 => ⟨i_in (by omega) (by decide), ?_⟩⟩
  obtain ⟨f2, e2⟩ := (aK_key h0 hi f5 (show 0 < 6 by decide)).2 p2
  rw [i_cl (show i < 2147483648 by omega)]
  refine t_y (by rw [e2, (aK_row h0 hi f2).1]; rfl) ⟨(aK_key (J2 := I5) (r := 0) h0 hi f2 (show 1 < 6 by decide)).1, fun r3 I4 p3 => ⟨by rw [l_5, i_add]; exact i_in (by omega) (by decide), ?_⟩⟩
  obtain ⟨f4, e4⟩ := (aK_key h0 hi f2 (show 1 < 6 by decide)).2 p3
  rw [show ((5 : Int32) + nI i).toNatClampNeg = 5 + i by rw [l_5, i_add, i_cl (by omega)]]
  refine t_y (by rw [e4, (aK_row h0 hi f4).2.1]; rfl) ⟨(aK_key (J2 := I5) (r := 0) h0 hi f4 (show 2 < 6 by decide)).1, fun r5 I6 p4 => ?_⟩
  obtain ⟨f6, e6⟩ := (aK_key h0 hi f4 (show 2 < 6 by decide)).2 p4
  refine t_y (by rw [e6, p1]; rfl) ⟨(aK_key (J2 := I5) (r := 0) h0 hi f6 (show 3 < 6 by decide)).1, fun r7 I8 p5 => ?_⟩
  obtain ⟨f8, e8⟩ := (aK_key h0 hi f6 (show 3 < 6 by decide)).2 p5
  refine t_y (by rw [e8, p1]; rfl) ⟨(aK_key (J2 := I5) (r := 0) h0 hi f8 (show 4 < 6 by decide)).1, fun r9 I10 p6 => ?_⟩
  obtain ⟨f10, e10⟩ := (aK_key h0 hi f8 (show 4 < 6 by decide)).2 p6
  have e10 : r9 = if aStk (rowC 1 I0) i then 1 else 0 := e10
  have e10b : r9 = nI b := by
    rw [e10, hb]
    split <;> rfl
  have go : ∀ t : Int32, r9 = t → v_L_areKeys_137 Q K18 (1 + 6 * i + 1) (clL (rowC 1 I0) (5 * i)).1 (nI (clL (rowC 1 I0) (5 * i)).2) (nI (skF (rowC 1 I0) i) + nI b) (nI i) t r9 I10 := by
    intro t ht
    refine ⟨by omega, t_y ht ⟨(aK_key (J2 := I5) (r := 0) h0 hi f10 (show 5 < 6 by decide)).1, fun r1 I2 p7 => ⟨by rw [l_10, i_add]; exact i_in (by omega) (by decide), ?_⟩⟩⟩
    obtain ⟨f12, e12⟩ := (aK_key h0 hi f10 (show 5 < 6 by decide)).2 p7
    rw [show ((10 : Int32) + nI i).toNatClampNeg = 10 + i by rw [l_10, i_add, i_cl (by omega)]]
    refine t_n (by rw [e12, (aK_row h0 hi f12).2.2]; rfl) ⟨6, ?_⟩
    rw [i_add, show 1 + 6 * i + 1 = 2 + 6 * i + 0 by omega]
    refine vl_aK162 h0 hi (fun I' hf' => ?_) 5 0 I2 rfl f12
    have := hK I' hf'
    have e : skF (rowC 1 I0) (i + 1) = skF (rowC 1 I0) i + b := by rw [hb]; rfl
    rw [e] at this
    exact this
  rcases hb2 with rfl | rfl
  · exact t_n rfl (go 0 e10b)
  · exact t_n0 (by decide) (go 1 e10b)
theorem vl_aK18s {I0 : wI} (h0 : invL I0) {i : Nat} (hi : i < 5) {Q : Int32 → wI → Prop} {K18 : Nat → Int32 → Int32 → Int32 → Int32 → wI → Prop}
    (hK : ∀ I', frL I0 I' → K18 (1 + 6 * (i + 1)) (clL (rowC 1 I0) (5 * (i + 1))).1 (nI (clL (rowC 1 I0) (5 * (i + 1))).2) (nI (skF (rowC 1 I0) (i + 1))) (nI (i + 1)) I') {I' : wI} (hf : frL I0 I') :
    g_L_areKeys_18 Q K18 (1 + 6 * i) (clL (rowC 1 I0) (5 * i)).1 (nI (clL (rowC 1 I0) (5 * i)).2) (nI (skF (rowC 1 I0) i)) (nI i) I' := by
  have hR : okR (rowC 1 I0) := h0.1.1.1
  obtain ⟨h1, e1, e1a⟩ := invL_fr h0 hf
  unfold g_L_areKeys_18
  rw [show ((5 : Int32) ≤ nI i) = (5 ≤ i) from i_le (a := 5) (by decide) (by omega)]
  refine ⟨by omega, fun c => absurd c (by omega), fun _ => ?_⟩
  have k1 : relK (rowC 1 I0) I' := by rw [← e1]; exact h1.2.2.1
  refine ⟨by omega, ⟨okLk_of hR k1, isN_nI (show i < 10000 by omega), Or.inl rfl⟩, fun r4 I5 p1 => ⟨i_in (by omega) (by decide), i_in (a := 3) (by decide) (by decide), ?_⟩⟩
  obtain ⟨p1, q1⟩ := p1
  rw [i_nt (by omega), show nt 1 = 1 from rfl, dgs_1 i hi, wD_K k1, wN_K k1] at p1
  have f5 : frL I0 I5 := frL_trans hf (frL_K (by decide) q1)
  obtain ⟨h5, e5, e5a⟩ := invL_fr h0 f5
  have k5 : relK (rowC 1 I0) I5 := by rw [← e5]; exact h5.2.2.1
  have g5 : relG (rowC 1 I0) I5 := by rw [← e5]; exact h5.2.2.2.1
  have hst := stk_and hR k5 g5 hi
  rw [i_cl (show i < 2147483648 by omega), show (3 : Int32).toNatClampNeg = 3 from rfl, hst]
  have step : ∀ b : Nat, b = (if aStk (rowC 1 I0) i then 1 else 0) → v_L_areKeys_49 Q K18 (1 + 6 * i + 1) (clL (rowC 1 I0) (5 * i)).1 (nI (clL (rowC 1 I0) (5 * i)).2) (nI (skF (rowC 1 I0) i)) (nI i) r4 (nI b) I5 := by
    intro b hb
    have hb2 : b = 0 ∨ b = 1 := by rw [hb]; split; exact Or.inr rfl; exact Or.inl rfl
    have body := vl_aK63 h0 hi hb (Q := Q) hK p1 f5
    refine ⟨by omega, ?_⟩
    rcases hb2 with rfl | rfl
    · exact t_n rfl body
    · exact t_n0 (by decide) body
  refine ⟨fun z => step 0 (by rw [z]; rfl), fun z => step 1 ?_⟩
  cases hq : aStk (rowC 1 I0) i
  · exact absurd hq z
  · rfl
theorem vl_aK18 {I0 : wI} (h0 : invL I0) : ∀ (f i : Nat) (I' : wI), i + f = 5 → frL I0 I' →
    v_L_areKeys_18 (post_L_areKeys I0) (f + 1) (1 + 6 * i) (clL (rowC 1 I0) (5 * i)).1 (nI (clL (rowC 1 I0) (5 * i)).2) (nI (skF (rowC 1 I0) i)) (nI i) I'
  | 0, i, I', e, hf => by
    obtain rfl : i = 5 := by omega
    obtain ⟨h1, e1, e1a⟩ := invL_fr h0 hf
    refine ⟨by decide, fun _ => ⟨h1.1, fun r1 I2 p1 => t_y ?_ ?_⟩, fun c => absurd (Int32.le_refl _) c⟩
    · rw [p1.1, e1, show aCl (rowC 1 I0) = (clS (rowC 1 I0) 25).1 from rfl, ← clL_S (rowC 1 I0) 23]
    · have f2 := frL_trans hf (frL_X p1.2)
      obtain ⟨h2, e2, e2a⟩ := invL_fr h0 f2
      refine ⟨⟨h2.1, isN_nI (k := 7) (by decide)⟩, fun r3 p3 => t_y ?_ ⟨by decide, Or.inr rfl, rfl, f2⟩⟩
      have p3 : r3 = aCnt (absC I2) 7 := p3
      rw [p3, e2a]; rfl
  | f + 1, i, I', e, hf => vl_aK18s h0 (by omega) (fun I'' hf' => vl_aK18 h0 f (i + 1) I'' (by omega) hf') hf
theorem vc_L_areKeys (I : wI) (hp : pre_L_areKeys I) : v_L_areKeys I (post_L_areKeys I) :=
  ⟨by decide, fun I1 e1 => ⟨6, vl_aK18 hp 5 0 I1 rfl (frL_z (Nat.le_refl _) e1)⟩⟩
