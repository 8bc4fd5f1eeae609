/-! ===== what calls do to the class and to the law's rows ===== -/
theorem sm_mod {f g : Nat → Nat} : ∀ n, (∀ k, k < n → f k % 5 = g k % 5) → sm f n % 5 = sm g n % 5
  | 0, _ => rfl
  | n + 1, h => by
    have ih := sm_mod n (fun k hk => h k (by omega))
    have h2 := h n (by omega)
    rw [sm_succ, sm_succ]
    omega
theorem sm_mul (w : Nat) (f : Nat → Nat) : ∀ n, sm (fun k => w * f k) n = w * sm f n
  | 0 => rfl
  | n + 1 => by rw [sm_succ, sm_succ, sm_mul w f n, Nat.mul_add]
theorem mul5 (s k : Nat) (h : s < 5) : ((5 - s) * k) % 5 = (4 * (s * k)) % 5 := by
  have : s = 0 ∨ s = 1 ∨ s = 2 ∨ s = 3 ∨ s = 4 := by omega
  rcases this with rfl | rfl | rfl | rfl | rfl <;> omega
/-- the account: the notches' sum, told in another way -/
theorem ns_tr {a : Nat → Int32} {v : Nat} (hR : okR a) (hv : v < 10) : aNS (aTr a v) % 5 = (aNS a + (if v < 5 then 1 else 4) * (aS a (v % 5) * pc6 (aM a (v % 5)))) % 5 := by
  have hM := okR_M hR (m5 v)
  have hS := okR_S hR (m5 v)
  have hb := bk_or hv
  unfold aNS
  rw [aN_aTr hR]
  have hp : sm (fun p => aN a (src (aM a (v % 5)) (v / 5) p)) 6 = sm (aN a) 6 :=
    sm_perm (s := src (aM a (v % 5)) (1 - v / 5)) (fun i hi => ⟨src_lt hM hb hi, (src_i2 hM hb hi).2⟩) (fun p hp => ⟨src_lt hM (by omega) hp, (src_i2 hM hb hp).1⟩) (aN a)
  have h1 : sm (mvN (aM a (v % 5)) (aS a (v % 5)) (v / 5) (aN a)) 6 % 5 = sm (fun p => aN a (src (aM a (v % 5)) (v / 5) p) + (if v / 5 = 0 then aS a (v % 5) else 5 - aS a (v % 5)) * tb (aM a (v % 5)) p) 6 % 5 := by
    refine sm_mod 6 (fun p hp => ?_)
    unfold mvN
    rw [if_pos hp]
    rcases tb01 (aM a (v % 5)) p with h | h
    · rw [if_neg (by omega), h, Nat.mul_zero, src_n (by omega)]; rfl
    · rw [if_pos h, h, Nat.mul_one, Nat.mod_mod]
  rw [h1, sm_add, hp, sm_mul]
  show (_ + _ * pc6 (aM a (v % 5))) % 5 = _
  generalize pc6 (aM a (v % 5)) = k
  by_cases c : v < 5
  · rw [if_pos (show v / 5 = 0 by omega), if_pos c, Nat.one_mul]
  · rw [if_neg (show ¬ v / 5 = 0 by omega), if_neg c]
    have := mul5 (aS a (v % 5)) k hS
    omega
theorem aMv_u {a : Nat → Int32} {v c : Nat} (hc : c < 5) : aMv a v (28 + c) = if c = v % 5 then a (28 + c) + 1 else a (28 + c) := by
  unfold aMv
  by_cases e : c = v % 5
  · rw [if_pos (by omega), if_pos e]
  · rw [if_neg (by omega), if_neg e, if_neg (by omega), if_neg (by omega), if_neg (by omega), aTr_o (by omega)]
theorem aMv_33 {a : Nat → Int32} {v : Nat} (hv : v < 10) : aMv a v 33 = a 33 + 1 := by
  unfold aMv; rw [if_neg (by omega), if_pos rfl]
theorem aMv_35 {a : Nat → Int32} {v : Nat} (hv : v < 10) : aMv a v 35 = if aRt a ≠ 6 ∧ aRt (aTr a v) = 6 then a 35 + 1 else a 35 := by
  unfold aMv; rw [if_neg (by omega), if_neg (by decide), if_neg (by decide), if_pos rfl]
theorem aMv_k {a : Nat → Int32} {v j : Nat} (hv : v < 10) (h1 : 12 ≤ j) (h : j < 28 ∨ 36 ≤ j) : aMv a v j = a j := by rw [aMv_o hv h, aTr_o h1]
theorem posP_cong {a b : Nat → Int32} (h : ∀ j, j < 12 → a j = b j) : posP a = posP b := by
  have e1 : aD a = aD b := by funext p; unfold aD; by_cases c : p < 6; rw [if_pos c, if_pos c, h p (by omega)]; rw [if_neg c, if_neg c]
  have e2 : aN a = aN b := by funext p; unfold aN; by_cases c : p < 6; rw [if_pos c, if_pos c, h (6 + p) (by omega)]; rw [if_neg c, if_neg c]
  unfold posP; rw [e1, e2]
theorem aNS_cong {a b : Nat → Int32} (h : ∀ j, j < 12 → a j = b j) : aNS a = aNS b := by
  have e : (posP a).2 = (posP b).2 := by rw [posP_cong h]
  show sm (posP a).2 6 = sm (posP b).2 6
  rw [e]
theorem secP_cong {a b : Nat → Int32} (h : ∀ j, 36 ≤ j → a j = b j) : secP a = secP b := by
  have e1 : (fun p => if p < 6 then nt (a (37 + p)) else 0) = fun p => if p < 6 then nt (b (37 + p)) else 0 := by
    funext p; rw [h (37 + p) (by omega)]
  have e2 : (fun p => if p < 6 then nt (a (43 + p)) else 0) = fun p => if p < 6 then nt (b (43 + p)) else 0 := by
    funext p; rw [h (43 + p) (by omega)]
  show (_, _) = (_, _)
  rw [e1, e2]
/-- the class's cells are as they were -/
def loC (I I1 : wI) : Prop := ∀ c, c < 111 → I1 c = I c
theorem lo_use {I I1 : wI} (h0 : okC I) (h : loC I I1) : absC I1 = absC I ∧ okC I1 ∧ rowC 1 I1 = rowC 1 I := by
  obtain ⟨a, b⟩ := absC_eq h0 (fun c hc => h c (by omega)) (by rw [h 24 (by omega)])
  exact ⟨a, b, congrFun a 0⟩
theorem act_fin {I1 I2 : wI} {A : Nat → Nat → Int32} {a : Nat → Int32} (h : okP I1 I2 (aNow A a)) (hr : relA a I1) : invL I2 := by
  obtain ⟨h1, h2, h3⟩ := h
  have e : rowC 1 I2 = a := congrFun h1 0
  refine ⟨h2, ?_⟩
  rw [e]
  exact relA_fr (h3 111 (by decide)) (h3 112 (by decide)) (h3 113 (by decide)) (h3 114 (by decide)) hr
theorem act_X {I I1 : wI} (h0 : invL I) (h : frX I I1) : invL I1 ∧ rowC 1 I1 = rowC 1 I := ⟨(invL_fr h0 (frL_X h)).1, (invL_fr h0 (frL_X h)).2.1⟩
/-! calls that are refused -/
theorem cdx {E E1 E2 : String} {A : Prop} {r c1 c2 : Int32} (ne : E1 ≠ E2) (hx : (¬ A ∧ E = E1) ∨ (A ∧ E = E2)) (hE : (E = E1 ∧ r = c1) ∨ (E = E2 ∧ r = c2)) : (¬ A → r = c1) ∧ (A → r = c2) := by
  rcases hx with ⟨a, e⟩ | ⟨a, e⟩ <;> rcases hE with ⟨e2, h⟩ | ⟨e2, h⟩
  · exact ⟨fun _ => h, fun q => absurd q a⟩
  · exact absurd (e.symm.trans e2) ne
  · exact absurd (e2.symm.trans e) ne
  · exact ⟨fun q => absurd a q, fun _ => h⟩
theorem ne_IO_IS : wIO ≠ wIS := by decide
theorem ne_IO_IA : wIO ≠ wIA := by decide
theorem no_turn {I I1 : wI} {x r : Int32} (h : post_L_turn x I r I1) (hn : ¬ fK I x) : frX I I1 ∧ (¬ isN 5 x → r = -31) ∧ (isN 5 x → r = -33) := by
  rcases h with ⟨h, _⟩ | ⟨_, E, ⟨h1, h2⟩, h3⟩
  · exact absurd h hn
  · exact ⟨h1, cdx ne_IO_IS h2 h3⟩
theorem no_back {I I1 : wI} {x r : Int32} (h : post_L_back x I r I1) (hn : ¬ fK I x) : frX I I1 ∧ (¬ isN 5 x → r = -31) ∧ (isN 5 x → r = -33) := by
  rcases h with ⟨h, _⟩ | ⟨_, E, ⟨h1, h2⟩, h3⟩
  · exact absurd h hn
  · exact ⟨h1, cdx ne_IO_IS h2 h3⟩
theorem no_cut {I I1 : wI} {x y z r : Int32} (h : post_L_cut x y z I r I1) (hn : ¬ (isN 5 x ∧ okCut y z)) : frX I I1 ∧ (¬ isN 5 x → r = -31) ∧ (isN 5 x → r = -32) := by
  rcases h with ⟨h, _⟩ | ⟨_, E, ⟨h1, h2⟩, h3⟩
  · exact absurd h hn
  · exact ⟨h1, cdx ne_IO_IA h2 h3⟩
theorem n5_5 : ¬ isN 5 5 := by rintro ⟨c, hc, e⟩; have := nI_inj (a := 5) (by decide) (by omega) e; omega
theorem n5_m1 : ¬ isN 5 (-1) := by rintro ⟨c, hc, e⟩; exact nI_m1 (t := c) (by omega) e.symm
theorem n6_6 : ¬ isN 6 6 := by rintro ⟨c, hc, e⟩; have := nI_inj (a := 6) (by decide) (by omega) e; omega
/-! ===== a turn ===== -/
theorem relA_mv {a : Nat → Int32} {I I1 : wI} {v : Nat} (hR : okR a) (hv : v < 10) (h : relA a I) (h1 : relD (I1 111) (posP (aTr a v))) (h2 : ∀ j, j < 15 → I1 112 j = if j = 10 + v % 5 then I 112 j + 1 else I 112 j) (h30 : I1 113 0 = I 113 0 + 1) (h31 : I1 113 1 = if aRt a ≠ 6 ∧ aRt (aTr a v) = 6 then I 113 1 + 1 else I 113 1) (h32 : I1 113 2 = I 113 2) (h33 : I1 113 3 = I 113 3) (h4 : I1 114 = I 114) : relA (aMv a v) I1 := by
  obtain ⟨hD, hK, ⟨g0, g1, g2, m, hm, g3, g4⟩, hS, hA⟩ := h
  have hv5 := m5 v
  refine ⟨?_, fun c hc => ?_, ⟨?_, ?_, ?_, m, hm, by rw [h33]; exact g3, fun p hp => ?_⟩, fun q => ?_, ?_⟩
  · rw [posP_cong (b := aTr a v) (fun j hj => aMv_o hv (by omega))]; exact h1
  · obtain ⟨k1, k2, k3⟩ := hK c hc
    refine ⟨?_, ?_, ?_⟩
    · rw [h2 c (by omega), if_neg (by omega), aMv_k hv (by omega) (by omega)]; exact k1
    · rw [h2 (5 + c) (by omega), if_neg (by omega), aMv_k hv (by omega) (by omega)]; exact k2
    · rw [h2 (10 + c) (by omega), aMv_u hc, k3]
      by_cases e : c = v % 5
      · rw [if_pos (by omega), if_pos e]
      · rw [if_neg (by omega), if_neg e]
  · rw [h30, aMv_33 hv, g0]
  · rw [h31, aMv_35 hv, g1]
  · rw [h32, aMv_k hv (by omega) (by omega)]; exact g2
  · rw [aMv_k hv (by omega) (by omega)]; exact g4 p hp
  · rw [h4, secP_cong (b := a) (fun j hj => aMv_k hv (by omega) (by omega))]
    exact hS (by rw [aMv_k hv (by omega) (by omega)] at q; exact q)
  · rw [aMv_34 hv, aNS_cong (b := aTr a v) (fun j hj => aMv_o hv (by omega)), ns_tr hR hv]
    unfold aAcc
    have hl : aNS a % 5 < 5 := Nat.mod_lt _ (by decide)
    rw [hA, i_nt (by omega)]
    congr 1
    omega
theorem vl_act61 {I0 I' : wI} {x1 x2 t : Int32} {n : Nat} (hn : n ≤ 2) (h0 : invL I') (ht : t = -33) : v_L_act_61 x1 x2 (post_L_act x1 x2 I0) n t I' := by
  refine ⟨by omega, t_y ht ⟨by omega, h0.1, fun r1 I2 p1 => ?_⟩⟩
  obtain ⟨f1, e1, _⟩ := no_turn p1 (fun q => n5_5 q.1)
  obtain ⟨h2, _⟩ := act_X h0 f1
  refine t_y (e1 n5_5) ⟨by omega, h2.1, fun r3 I4 p3 => ?_⟩
  obtain ⟨f3, e3, _⟩ := no_back p3 (fun q => n5_m1 q.1)
  obtain ⟨h4, _⟩ := act_X h2 f3
  exact t_y (e3 n5_m1) ⟨by omega, Or.inr rfl, rfl, h4⟩
theorem aRt_mv {a : Nat → Int32} {v : Nat} (hv : v < 10) : aRt (aMv a v) = aRt (aTr a v) := aRt_cong (fun j hj => aMv_o hv (by omega))
theorem vl_act174 {I0 I' : wI} {x1 x2 : Int32} {v : Nat} {t : Int32} {r : Int32} (h0 : invL I0) (hv : v < 10) (hst : aStk (rowC 1 I0) (v % 5) = false) (hlo : loC I0 I') (hr : r = nI (aRt (aTr (rowC 1 I0) v)))
    (h1 : relD (I' 111) (posP (aTr (rowC 1 I0) v))) (h2 : ∀ j, j < 15 → I' 112 j = if j = 10 + v % 5 then I0 112 j + 1 else I0 112 j) (h30 : I' 113 0 = I0 113 0 + 1) (h31 : I' 113 1 = I0 113 1) (ht : t = if aRt (rowC 1 I0) ≠ 6 ∧ aRt (aTr (rowC 1 I0) v) = 6 then 1 else 0) (h32 : I' 113 2 = I0 113 2) (h33 : I' 113 3 = I0 113 3) (h4 : I' 114 = I0 114) :
    v_L_act_174 x1 x2 (post_L_act x1 x2 I0) 0 (nI v) r t (I' 113 1) 1 I' := by
  have hR : okR (rowC 1 I0) := h0.1.1.1
  refine ⟨by decide, i_in (a := 1) (by decide) (by decide), fun I1 e1 => ?_⟩
  have e1 : I1 = wU I' 113 1 (I' 113 1 + t) := e1
  have l1 : loC I0 I1 := fun c hc => by rw [e1, wU_ne (by omega)]; exact hlo c hc
  obtain ⟨a1, a2, a3⟩ := lo_use h0.1 l1
  have hrel : relA (aMv (rowC 1 I0) v) I1 := by
    refine relA_mv hR hv h0.2 ?_ (fun j hj => ?_) ?_ ?_ ?_ ?_ ?_
    · rw [e1, wU_ne (by decide)]; exact h1
    · rw [e1, wU_ne (by decide)]; exact h2 j hj
    · rw [e1, wU_off (Or.inr (by decide))]; exact h30
    · rw [e1, wU_at, h31, ht]
      by_cases c : aRt (rowC 1 I0) ≠ 6 ∧ aRt (aTr (rowC 1 I0) v) = 6
      · rw [if_pos c, if_pos c]
      · rw [if_neg c, if_neg c, Int32.add_zero]
    · rw [e1, wU_off (Or.inr (by decide))]; exact h32
    · rw [e1, wU_off (Or.inr (by decide))]; exact h33
    · rw [e1, wU_ne (by decide)]; exact h4
  have fin : ∀ r2 I3, r2 = nI (aRt (aMv (rowC 1 I0) v)) → okP I1 I3 (aNow (aSv (absC I1)) (aMv (rowC 1 I0) v)) → v_L_act_199 x1 x2 (post_L_act x1 x2 I0) (0 + 1) r r2 I3 := by
    intro r2 I3 q1 q2
    refine ⟨by decide, t_y ?_ ⟨by decide, Or.inr rfl, rfl, act_fin q2 hrel⟩⟩
    rw [q1, hr, aRt_mv hv]
  rw [show ((5 : Int32) ≤ nI v) = (5 ≤ v) from i_le (a := 5) (by decide) (by omega)]
  refine ⟨fun c => ⟨by decide, a2, fun r2 I3 p => ?_⟩, fun c => ⟨by decide, a2, fun r2 I3 p => ?_⟩⟩
  · rw [show nI v - 5 = nI (v - 5) from i_sub (b := 5) c] at p
    have hf : fK I1 (nI (v - 5)) := ⟨isN_nI (by omega), by rw [i_nt (by omega), a3, show v - 5 = v % 5 by omega]; exact hst⟩
    rcases p with ⟨_, p1, p2⟩ | ⟨p, _⟩
    · rw [a3, i_nt (by omega), show 5 + (v - 5) = v by omega] at p1 p2
      exact fin r2 I3 p1 p2
    · exact absurd hf p
  · have hf : fK I1 (nI v) := ⟨isN_nI (by omega), by rw [i_nt (by omega), a3]; rw [show v % 5 = v by omega] at hst; exact hst⟩
    rcases p with ⟨_, p1, p2⟩ | ⟨p, _⟩
    · rw [a3, i_nt (by omega)] at p1 p2
      exact fin r2 I3 p1 p2
    · exact absurd hf p
theorem vl_act110 {I0 : wI} {x1 x2 : Int32} {v : Nat} {t : Int32} (h0 : invL I0) (hv : v < 10) (hst : aStk (rowC 1 I0) (v % 5) = false) (ht : t = if aRt (rowC 1 I0) = 6 then 1 else 0) : v_L_act_110 x1 x2 (post_L_act x1 x2 I0) 0 (nI v) t I0 := by
  have hR : okR (rowC 1 I0) := h0.1.1.1
  have hd : relD (I0 111) (posP (rowC 1 I0)) := h0.2.1
  have hK := h0.2.2.1
  have hG2 : I0 113 2 = rowC 1 I0 36 := h0.2.2.2.1.2.2.1
  have hS := h0.2.2.2.2.1
  refine ⟨by decide, ⟨okLk_of hR hK, isN_nI hv, by decide, _, hd⟩, fun I1 p1 => ?_⟩
  have d1 := p1.1 _ hd
  rw [mP_K hK, i_nt (by omega), ← posP_Tr hR hv] at d1
  have f1 : ∀ c, c ≠ 111 → I1 c = I0 c := p1.2
  have hb := cB_tr hv (cB_refl h0)
  have g2 : I1 113 2 = rowC 1 I0 36 := by rw [f1 113 (by decide)]; exact hG2
  have s1 : rowC 1 I0 36 = 1 → relD (I1 114) (secP (rowC 1 I0)) := fun q => by rw [f1 114 (by decide)]; exact hS q
  refine ⟨pre_right g2 s1 d1, fun r2 p2 => ⟨i_in (a := 0) (by decide) (by decide), i_in (a := 0) (by decide) (by decide), fun I3 e3 => ?_⟩⟩
  have er : r2 = nI (aRt (aTr (rowC 1 I0) v)) := by
    rw [right_rt g2 s1 d1 p2, aRt_ag hb.1, hb.2 36 (by decide), cB_sec hb]
  have e3 : I3 = wU I1 113 0 (I1 113 0 + 1) := e3
  rw [l_5, i_rem (by omega) (by decide) (by decide), l_10, i_add, i_cl (show 10 + v % 5 < 2147483648 by omega)]
  refine ⟨i_in (by omega) (by decide), i_in (by omega) (by decide), fun I4 e4 => ⟨i_in (a := 1) (by decide) (by decide), ?_⟩⟩
  have lo4 : loC I0 I4 := fun c hc => by rw [e4, e3, wU_ne (by omega), wU_ne (by omega)]; exact f1 c (by omega)
  have go : ∀ t2 : Int32, t2 = (if aRt (rowC 1 I0) ≠ 6 ∧ aRt (aTr (rowC 1 I0) v) = 6 then 1 else 0) → v_L_act_174 x1 x2 (post_L_act x1 x2 I0) 0 (nI v) r2 t2 (I4 113 1) 1 I4 := by
    intro t2 ht2
    refine vl_act174 h0 hv hst lo4 er ?_ (fun j hj => ?_) ?_ ?_ ht2 ?_ ?_ ?_
    · rw [e4, e3, wU_ne (by decide), wU_ne (by decide)]; exact d1
    · by_cases e : j = 10 + v % 5
      · rw [if_pos e, e4, e, wU_at, e3, wU_ne (by decide), f1 112 (by decide)]
      · rw [if_neg e, e4, wU_off (Or.inr e), e3, wU_ne (by decide), f1 112 (by decide)]
    · rw [e4, wU_ne (by decide), e3, wU_at, f1 113 (by decide)]
    · rw [e4, wU_ne (by decide), e3, wU_off (Or.inr (by decide)), f1 113 (by decide)]
    · rw [e4, wU_ne (by decide), e3, wU_off (Or.inr (by decide)), f1 113 (by decide)]
    · rw [e4, wU_ne (by decide), e3, wU_off (Or.inr (by decide)), f1 113 (by decide)]
    · rw [e4, wU_ne (by decide), e3, wU_ne (by decide), f1 114 (by decide)]
  have hrl := aRt_le (aTr (rowC 1 I0) v)
  have e6 : (r2 = 6) = (aRt (aTr (rowC 1 I0) v) = 6) := by rw [er, l_6]; exact i_eq (by omega) (by decide)
  show (¬ t = 0 → v_L_act_173 _ _ _ _ _ _ (I4 113 1) _ _) ∧ (t = 0 → (¬ r2 = 6 → v_L_act_173 _ _ _ _ _ _ (I4 113 1) _ _) ∧ (r2 = 6 → v_L_act_174 _ _ _ _ _ _ _ (I4 113 1) _ _))
  rw [e6]
  refine ⟨fun c => ⟨by decide, go 0 ?_⟩, fun c => ⟨fun d => ⟨by decide, go 0 (by rw [if_neg (fun q => d q.2)])⟩, fun d => go 1 ?_⟩⟩
  · rw [if_neg]
    intro q
    rw [ht, if_neg q.1] at c; exact c rfl
  · rw [if_pos]
    refine ⟨fun q => ?_, d⟩
    rw [ht, if_pos q] at c; exact absurd c (by decide)
/-! ===== home ===== -/
def awF (r : Nat → Int32) (i : Nat) : Nat := sm (fun i => if r i = nI i ∧ r (6 + i) = nI 0 then 0 else 1) i
theorem aw_pc {r : Nat → Int32} {x : DN} (h : relD r x) : awF r 6 = pc6 (rcF x.1 x.2) := by
  have e := hm_pc x
  have e2 : awF r 6 + hmF x = 6 := by
    unfold awF hmF
    rw [← relD_sum h (fun p => if x.1 p = p ∧ x.2 p = 0 then 1 else 0), ← sm_add]
    have e3 : sm (fun k => (if r k = nI k ∧ r (6 + k) = nI 0 then 0 else 1) + (if x.1 (psF r k) = psF r k ∧ x.2 (psF r k) = 0 then 1 else 0)) 6 = sm (fun _ => 1) 6 := by
      refine sm_cong (fun i hi => ?_)
      obtain ⟨a1, a2, a3, a4⟩ := relD_ps h hi
      have h5 := (h.2 _ a1).2.1
      rw [a2]
      have key : (r i = nI i ∧ r (6 + i) = nI 0) ↔ (i = psF r i ∧ x.2 (psF r i) = 0) := by
        rw [a3, a4]
        constructor
        · intro ⟨q1, q2⟩; exact ⟨(nI_inj (by omega) (by omega) q1).symm, nI_inj (by omega) (by omega) q2⟩
        · intro ⟨q1, q2⟩; exact ⟨by rw [← q1], by rw [q2]⟩
      by_cases c : r i = nI i ∧ r (6 + i) = nI 0
      · rw [if_pos c, if_pos (key.1 c)]
      · rw [if_neg c, if_neg (fun q => c (key.2 q))]
    rw [e3]; rfl
  omega
theorem ct_3 {I : wI} {r : Int32} (h : post_X5_count 3 I r) : r = nI (6 - pc6 (aRc (rowC 1 I))) := by
  have h : r = aCnt (absC I) (nt 3) := h
  have e1 : nt 3 = 3 := rfl
  have e2 : aCnt (absC I) 3 = nI (6 - pc6 (aRc (absC I 0))) := rfl
  have e3 : absC I 0 = rowC 1 I := absC_0
  rw [h, e1, e2, e3]
theorem relA_home {a : Nat → Int32} {I0 I1 : wI} (h : relA a I0) (p1 : relD (I1 111) (idF, zF)) (p2 : frK 111 I0 I1) : relA (aHome a) I1 := by
  obtain ⟨hD, hK, ⟨g0, g1, g2, m, hm, g3, g4⟩, hS, hA⟩ := h
  have ho : ∀ j, 12 ≤ j → j ≠ 34 → aHome a j = a j := fun j h1 h2 => aHome_o h1 h2
  have e1 : posP (aHome a) = (idF, zF) := by unfold posP; rw [aD_home, aN_home]
  have e5 : aNS (aHome a) = 0 := by unfold aNS; rw [aN_home]; rfl
  refine ⟨by rw [e1]; exact p1, fun c hc => ?_, ⟨?_, ?_, ?_, m, hm, ?_, fun p hp => ?_⟩, fun q => ?_, ?_⟩
  · rw [p2 112 (by decide), ho _ (by omega) (by omega), ho _ (by omega) (by omega), ho _ (by omega) (by omega)]; exact hK c hc
  · rw [p2 113 (by decide), ho _ (by omega) (by omega)]; exact g0
  · rw [p2 113 (by decide), ho _ (by omega) (by omega)]; exact g1
  · rw [p2 113 (by decide), ho _ (by omega) (by omega)]; exact g2
  · rw [p2 113 (by decide)]; exact g3
  · rw [ho _ (by omega) (by omega)]; exact g4 p hp
  · rw [p2 114 (by decide), secP_cong (b := a) (fun j hj => ho j (by omega) (by omega))]
    exact hS (by rw [ho _ (by omega) (by omega)] at q; exact q)
  · rw [e5, aHome_34]; rfl
theorem vl_act223 {I0 : wI} {x1 x2 : Int32} (h0 : invL I0) : ∀ (f i : Nat), i + f = 6 → v_L_act_223 x1 x2 (post_L_act x1 x2 I0) (f + 1) 0 (nI (awF (I0 111) i)) (nI i) I0
  | 0, i, e => by
    obtain rfl : i = 6 := by omega
    have hd : relD (I0 111) (posP (rowC 1 I0)) := h0.2.1
    have ew := aw_pc hd
    have ew : awF (I0 111) 6 = pc6 (aRc (rowC 1 I0)) := ew
    have hp := pc6_le (aRc (rowC 1 I0))
    rw [ew]
    generalize hk : pc6 (aRc (rowC 1 I0)) = k at hp
    refine ⟨by decide, fun _ => ⟨fun _ => ⟨trivial, fun I1 p1 => ?_⟩, fun _ => ⟨⟨h0.1, isN_nI (k := 3) (by decide)⟩, fun r4 p4 => ?_⟩⟩, fun c => absurd (Int32.le_refl _) c⟩
    · have lo : loC I0 I1 := fun c hc => p1.2 c (by omega)
      obtain ⟨a1, a2, a3⟩ := lo_use h0.1 lo
      refine ⟨a2, fun r2 I3 p => ?_⟩
      obtain ⟨p2, p3⟩ := p
      rw [a3] at p2 p3
      rw [hk] at p2
      have hf := act_fin p3 (relA_home h0.2 p1.1 p1.2)
      exact t_y p2 ⟨by decide, Or.inr rfl, rfl, hf⟩
    · have e4 := ct_3 p4
      rw [hk] at e4
      rw [e4, show (6 : Int32) - nI (6 - k) = nI (6 - (6 - k)) from i_sub (a := 6) (by omega), show 6 - (6 - k) = k by omega]
      exact t_y rfl ⟨by decide, Or.inr rfl, rfl, h0⟩
  | f + 1, i, e => by
    have hi : i < 6 := by omega
    have hd : relD (I0 111) (posP (rowC 1 I0)) := h0.2.1
    show g_L_act_223 ..
    unfold g_L_act_223
    rw [show ((6 : Int32) ≤ nI i) = (6 ≤ i) from i_le (a := 6) (by decide) (by omega), i_cl (show i < 2147483648 by omega), show ((6 : Int32) + nI i).toNatClampNeg = 6 + i by rw [l_6, i_add, i_cl (by omega)]]
    have hin : vp_in ((6 : Int32) + nI i) 12 := by rw [l_6, i_add]; exact i_in (by omega) (by decide)
    have ih := vl_act223 (x1 := x1) (x2 := x2) h0 f (i + 1) (by omega)
    have nx : ∀ w, awF (I0 111) (i + 1) = awF (I0 111) i + w → v_L_act_256 x1 x2 (post_L_act x1 x2 I0) (v_L_act_223 x1 x2 (post_L_act x1 x2 I0) (f + 1)) 0 (nI i) (nI w) (nI (awF (I0 111) i)) I0 := by
      intro w hw
      refine ⟨by decide, ?_⟩
      rw [i_add, i_s, ← hw]
      exact ih
    have no : ¬ (I0 111 i = nI i ∧ I0 111 (6 + i) = nI 0) → v_L_act_251 x1 x2 (post_L_act x1 x2 I0) (v_L_act_223 x1 x2 (post_L_act x1 x2 I0) (f + 1)) 0 (nI i) (nI (awF (I0 111) i)) I0 := by
      intro hn
      refine ⟨by decide, nx 1 ?_⟩
      unfold awF
      rw [sm_succ, if_neg hn]
    refine ⟨by decide, fun c => absurd c (by omega), fun _ => ⟨i_in (by omega) (by decide), fun c => no (fun q => c q.1), fun c => ⟨hin, fun d => nx 0 ?_, fun d => no (fun q => d q.2)⟩⟩⟩
    unfold awF
    rw [sm_succ, if_pos ⟨c, d⟩]
/-! ===== a key is cut anew ===== -/
theorem vl_cut {I0 I8 : wI} {x1 x2 : Int32} {c M s : Nat} (h0 : invL I0) (hc : c < 5) (hM : M < 64) (hM2 : 2 ≤ pc6 M) (hs : s < 5) (e8 : I8 = wU (wU I0 112 c (nI M)) 112 (5 + c) (nI s)) : pre_L_cut (nI c) (nI M) (nI s) I8 ∧ ∀ (r9 : Int32) (I10 : wI), post_L_cut (nI c) (nI M) (nI s) I8 r9 I10 → r9 = I0 112 c ∧ invL I10 := by
  have lo : loC I0 I8 := fun k hk => by rw [e8, wU_ne (by omega), wU_ne (by omega)]
  obtain ⟨a1, a2, a3⟩ := lo_use h0.1 lo
  refine ⟨a2, fun r9 I10 p => ?_⟩
  have ok : isN 5 (nI c) ∧ okCut (nI M) (nI s) := ⟨isN_nI hc, ⟨M, hM, rfl, hM2⟩, isN_nI hs⟩
  obtain ⟨hD, hK, ⟨g0, g1, g2, m, hm, g3, g4⟩, hS, hA⟩ := h0.2
  rcases p with ⟨_, p1, p2⟩ | ⟨p, _⟩
  · rw [a3, i_nt (by omega)] at p1 p2
    refine ⟨by rw [p1]; exact ((hK c hc).1).symm, act_fin p2 ⟨?_, fun k hk => ?_, ⟨?_, ?_, ?_, m, hm, ?_, fun p hp => ?_⟩, fun q => ?_, ?_⟩⟩
    · rw [posP_cong (b := rowC 1 I0) (fun j hj => aCut_o (by omega) (by omega)), e8, wU_ne (by decide), wU_ne (by decide)]; exact hD
    · obtain ⟨k1, k2, k3⟩ := hK k hk
      refine ⟨?_, ?_, ?_⟩
      · rw [e8, wU_off (Or.inr (by omega))]
        by_cases e : k = c
        · rw [e, wU_at, aCut_M]
        · rw [wU_off (Or.inr e), aCut_o (by omega) (by omega)]; exact k1
      · rw [e8]
        by_cases e : k = c
        · rw [e, wU_at, aCut_S hc]
        · rw [wU_off (Or.inr (by omega)), wU_off (Or.inr (by omega)), aCut_o (by omega) (by omega)]; exact k2
      · rw [e8, wU_off (Or.inr (by omega)), wU_off (Or.inr (by omega)), aCut_o (by omega) (by omega)]; exact k3
    · rw [e8, wU_ne (by decide), wU_ne (by decide), aCut_o (by omega) (by omega)]; exact g0
    · rw [e8, wU_ne (by decide), wU_ne (by decide), aCut_o (by omega) (by omega)]; exact g1
    · rw [e8, wU_ne (by decide), wU_ne (by decide), aCut_o (by omega) (by omega)]; exact g2
    · rw [e8, wU_ne (by decide), wU_ne (by decide)]; exact g3
    · rw [aCut_o (by omega) (by omega)]; exact g4 p hp
    · rw [e8, wU_ne (by decide), wU_ne (by decide), secP_cong (b := rowC 1 I0) (fun j hj => aCut_o (by omega) (by omega))]
      exact hS (by rw [aCut_o (by omega) (by omega)] at q; exact q)
    · rw [aCut_o (by omega) (by omega), aNS_cong (b := rowC 1 I0) (fun j hj => aCut_o (by omega) (by omega))]; exact hA
  · exact absurd ok p
/-! ===== a position sticks, or is free again ===== -/
theorem relA_stick {I0 I1 : wI} {p : Nat} (h0 : invL I0) (hp : p < 6) (e1 : I1 = wU I0 113 3 (I0 113 3 ^^^ (1 <<< (nI p &&& 31)))) : relA (aStick (rowC 1 I0) p) I1 := by
  obtain ⟨hD, hK, ⟨g0, g1, g2, m, hm, g3, g4⟩, hS, hA⟩ := h0.2
  have e3 : I1 113 3 = nI (m ^^^ 2 ^ p) := by rw [e1, wU_at, g3, l_31, i_and31 (by omega), l_1, i_shl1 (by omega), nI_xor]
  have ho : ∀ j, j ≠ 12 + p → aStick (rowC 1 I0) p j = rowC 1 I0 j := fun j hj => aStick_o hj
  refine ⟨?_, fun c hc => ?_, ⟨?_, ?_, ?_, m ^^^ 2 ^ p, xor_lt m hm p hp, e3, fun q hq => ?_⟩, fun q => ?_, ?_⟩
  · rw [posP_cong (b := rowC 1 I0) (fun j hj => ho j (by omega)), e1, wU_ne (by decide)]; exact hD
  · rw [e1, wU_ne (by decide), ho _ (by omega), ho _ (by omega), ho _ (by omega)]; exact hK c hc
  · rw [e1, wU_off (Or.inr (by decide)), ho _ (by omega)]; exact g0
  · rw [e1, wU_off (Or.inr (by decide)), ho _ (by omega)]; exact g1
  · rw [e1, wU_off (Or.inr (by decide)), ho _ (by omega)]; exact g2
  · rw [tb_xor m hm p hp q hq]
    by_cases e : q = p
    · rw [if_pos e, e, aStick_p, g4 p hp, l_1, i_sub (by have := tb_lt m p; omega)]
    · rw [if_neg e, ho _ (by omega)]; exact g4 q hq
  · rw [e1, wU_ne (by decide), secP_cong (b := rowC 1 I0) (fun j hj => ho j (by omega))]
    exact hS (by rw [ho _ (by omega)] at q; exact q)
  · rw [ho _ (by omega), aNS_cong (b := rowC 1 I0) (fun j hj => ho j (by omega))]; exact hA
theorem vl_act484 {I0 I1 : wI} {x1 x2 : Int32} (h0 : invL I0) (e1 : I1 = wU I0 113 3 (I0 113 3 ^^^ (1 <<< (nI (lowN x2 6) &&& 31)))) : ∀ (f c : Nat), c + f = 5 → v_L_act_484 x1 x2 (post_L_act x1 x2 I0) (f + 1) 0 (nI (skF (aStick (rowC 1 I0) (lowN x2 6)) c)) (nI c) I1
  | 0, c, e => by
    obtain rfl : c = 5 := by omega
    have hp := lowN_lt x2 (n := 6) (by decide)
    have lo : loC I0 I1 := fun k hk => by rw [e1, wU_ne (by omega)]
    obtain ⟨a1, a2, a3⟩ := lo_use h0.1 lo
    have hrel := relA_stick h0 hp e1
    refine ⟨by decide, fun _ => ⟨⟨6, by decide, by decide, rfl⟩, fun r1 p1 => ?_⟩, fun c => absurd (Int32.le_refl _) c⟩
    have p1 : r1 = nI (lowN x2 6) := p1
    subst p1
    refine ⟨by decide, a2, fun r2 I3 p2 => ?_⟩
    rcases p2 with ⟨_, p3, p4⟩ | ⟨p, _⟩
    · rw [a3, i_nt (by omega)] at p3 p4
      have h3 := act_fin p4 hrel
      refine t_y p3 ⟨by decide, h3.1, fun r4 I5 p5 => ?_⟩
      rcases p5 with ⟨q, _⟩ | ⟨_, E, ⟨f1, _⟩, _, q⟩
      · exact absurd q n6_6
      · exact t_y q ⟨by decide, Or.inr rfl, rfl, (act_X h3 f1).1⟩
    · exact absurd (isN_nI hp) p
  | f + 1, c, e => by
    have hc : c < 5 := by omega
    have hp := lowN_lt x2 (n := 6) (by decide)
    have hrel := relA_stick h0 hp e1
    have hR := okR_stick h0.1.1.1 hp
    have hst := stk_and hR hrel.2.1 hrel.2.2.1 hc
    show g_L_act_484 ..
    unfold g_L_act_484
    rw [show ((5 : Int32) ≤ nI c) = (5 ≤ c) from i_le (a := 5) (by decide) (by omega), i_cl (show c < 2147483648 by omega), show (3 : Int32).toNatClampNeg = 3 from rfl, hst]
    have ih := vl_act484 (x1 := x1) h0 e1 f (c + 1) (by omega)
    have nx : ∀ w, w = (if aStk (aStick (rowC 1 I0) (lowN x2 6)) c then 1 else 0) → v_L_act_510 x1 x2 (post_L_act x1 x2 I0) (v_L_act_484 x1 x2 (post_L_act x1 x2 I0) (f + 1)) 0 (nI c) (nI w) (nI (skF (aStick (rowC 1 I0) (lowN x2 6)) c)) I1 := by
      intro w hw
      refine ⟨by decide, ?_⟩
      have e2 : skF (aStick (rowC 1 I0) (lowN x2 6)) (c + 1) = skF (aStick (rowC 1 I0) (lowN x2 6)) c + w := by rw [hw]; rfl
      rw [i_add, i_s, ← e2]
      exact ih
    refine ⟨by decide, fun d => absurd d (by omega), fun _ => ⟨i_in (by omega) (by decide), i_in (a := 3) (by decide) (by decide), fun d => nx 0 (by rw [d]; rfl), fun d => nx 1 ?_⟩⟩
    cases hq : aStk (aStick (rowC 1 I0) (lowN x2 6)) c
    · exact absurd hq d
    · rfl
/-! ===== the secret is learnt ===== -/
theorem secP_learn (a : Nat → Int32) : secP (aLearn a) = posP a := by
  have e1 : (fun p => if p < 6 then nt (aLearn a (37 + p)) else 0) = aD a := by
    funext p; unfold aD
    by_cases c : p < 6
    · rw [if_pos c, if_pos c, aLearn_d c]
    · rw [if_neg c, if_neg c]
  have e2 : (fun p => if p < 6 then nt (aLearn a (43 + p)) else 0) = aN a := by
    funext p; unfold aN
    by_cases c : p < 6
    · rw [if_pos c, if_pos c, aLearn_n c]
    · rw [if_neg c, if_neg c]
  show (_, _) = (_, _)
  rw [e1, e2]
theorem vl_act573 {I0 : wI} {x1 x2 : Int32} (h0 : invL I0) : ∀ (f i : Nat), i + f = 6 → v_L_act_573 x1 x2 (post_L_act x1 x2 I0) (f + 1) 0 (nI (sm (fun i => aN (rowC 1 I0) (psF (I0 111) i)) i)) (nI i) I0
  | 0, i, e => by
    obtain rfl : i = 6 := by omega
    obtain ⟨hD, hK, ⟨g0, g1, g2, m, hm, g3, g4⟩, hS, hA⟩ := h0.2
    have en : sm (fun i => aN (rowC 1 I0) (psF (I0 111) i)) 6 = aNS (rowC 1 I0) := relD_sum hD (aN (rowC 1 I0))
    rw [en]
    refine ⟨by decide, fun _ => ⟨by show (111 : Nat) ≠ 114; decide, fun I1 p1 => ⟨i_in (a := 2) (by decide) (by decide), fun I2 e2 => ?_⟩⟩, fun c => absurd (Int32.le_refl _) c⟩
    have e2 : I2 = wU I1 113 2 1 := e2
    have lo : loC I0 I2 := fun k hk => by rw [e2, wU_ne (by omega)]; exact p1.2 k (by omega)
    obtain ⟨a1, a2, a3⟩ := lo_use h0.1 lo
    have k : ∀ c, c ≠ 113 → c ≠ 114 → I2 c = I0 c := fun c c1 c2 => by rw [e2, wU_ne c1]; exact p1.2 c c2
    have k3 : ∀ j, j ≠ 2 → I2 113 j = I0 113 j := fun j hj => by rw [e2, wU_off (Or.inr hj), p1.2 113 (by decide)]
    refine ⟨a2, fun r3 I4 p => ?_⟩
    obtain ⟨p3, p4⟩ := p
    rw [a3] at p3 p4
    refine t_y p3 ⟨by decide, Or.inr rfl, rfl, act_fin p4 ⟨?_, fun c hc => ?_, ⟨?_, ?_, ?_, m, hm, ?_, fun p hp => ?_⟩, fun q => ?_, ?_⟩⟩
    · rw [posP_cong (b := rowC 1 I0) (fun j hj => aLearn_o (by omega)), k 111 (by decide) (by decide)]; exact hD
    · rw [k 112 (by decide) (by decide), aLearn_o (by omega), aLearn_o (by omega), aLearn_o (by omega)]; exact hK c hc
    · rw [k3 0 (by decide), aLearn_o (by omega)]; exact g0
    · rw [k3 1 (by decide), aLearn_o (by omega)]; exact g1
    · rw [e2, wU_at]; rfl
    · rw [k3 3 (by decide)]; exact g3
    · rw [aLearn_o (by omega)]; exact g4 p hp
    · rw [secP_learn, e2, wU_ne (by decide)]
      exact relD_cong p1.1 hD
    · rw [aLearn_o (by omega), aNS_cong (b := rowC 1 I0) (fun j hj => aLearn_o (by omega))]; exact hA
  | f + 1, i, e => by
    have hi : i < 6 := by omega
    have hd : relD (I0 111) (posP (rowC 1 I0)) := h0.2.1
    obtain ⟨b1, b2, b3, b4⟩ := relD_ps hd hi
    show g_L_act_573 ..
    unfold g_L_act_573
    rw [show ((6 : Int32) ≤ nI i) = (6 ≤ i) from i_le (a := 6) (by decide) (by omega), show ((6 : Int32) + nI i).toNatClampNeg = 6 + i by rw [l_6, i_add, i_cl (by omega)], b4, i_add, i_s]
    exact ⟨by decide, fun c => absurd c (by omega), fun _ => ⟨by rw [l_6, i_add]; exact i_in (by omega) (by decide), vl_act573 h0 f (i + 1) (by omega)⟩⟩
theorem and63 (x : Int32) : ∃ M, M < 64 ∧ x &&& 63 = nI M := by
  refine ⟨(x &&& 63).toBitVec.toNat, ?_, ?_⟩
  · show (x.toBitVec &&& (63#32)).toNat < _
    rw [BitVec.toNat_and]
    exact Nat.lt_of_le_of_lt Nat.and_le_right (by decide)
  · apply Int32.toBitVec_inj.1
    show _ = BitVec.ofNat 32 _
    rw [BitVec.ofNat_toNat, BitVec.setWidth_eq]
theorem n64 : ¬ isMk 64 := by rintro ⟨M, hM, e, _⟩; have := nI_inj (a := 64) (by decide) (by omega) e; omega
theorem vc_L_act (x1 x2 : Int32) (I : wI) (hp : pre_L_act x1 x2 I) : v_L_act x1 x2 I (post_L_act x1 x2 I) := by
  have h0 : invL I := hp
  have hR : okR (rowC 1 I) := h0.1.1.1
  obtain ⟨hD, hK, hG, hS, hA⟩ := id h0.2
  have g2 := hG.2.2.1
  have lowp : ∀ (x : Int32) (n : Nat), 0 < n → n ≤ 16 → pre_L_low x (nI n) I := fun x n a b => ⟨n, a, b, rfl⟩
  have lowe : ∀ (x : Int32) (n : Nat) (r : Int32), n ≤ 16 → post_L_low x (nI n) I r → r = nI (lowN x n) := fun x n r a q => by
    have q : r = nI (lowN x (nt (nI n))) := q
    rw [q, i_nt (by omega)]
  have h16 := lowN_lt x1 (n := 16) (by decide)
  refine ⟨lowp x1 16 (by decide) (by decide), fun r1 p1 => ?_⟩
  have p1 := lowe x1 16 r1 (by decide) p1
  subst p1
  refine ⟨fun c => ⟨fun c1 => ⟨fun c2 => ⟨fun c3 => ?_, fun c3 => ?_⟩, fun c2 => ?_⟩, fun c1 => ?_⟩, fun c => ?_⟩
  · -- learn
    have go : v_L_act_567 x1 x2 (post_L_act x1 x2 I) 0 I := ⟨by decide, 7, vl_act573 h0 6 0 rfl⟩
    exact ⟨i_in (a := 2) (by decide) (by decide), fun _ => go, fun _ => ⟨fun _ => go, fun _ => ⟨rfl, h0⟩⟩⟩
  · -- stick
    refine ⟨i_in (a := 3) (by decide) (by decide), lowp x2 6 (by decide) (by decide), fun r2 p2 => ⟨i_in (a := 3) (by decide) (by decide), fun I3 e3 => ⟨6, ?_⟩⟩⟩
    have p2 := lowe x2 6 r2 (by decide) p2
    subst p2
    exact vl_act484 h0 e3 5 0 rfl
  · -- cut
    obtain ⟨M, hM, eM⟩ := and63 (x2 >>> ((3 : Int32) &&& 31))
    rw [eM]
    refine ⟨lowp x2 5 (by decide) (by decide), fun r4 p4 => ⟨lowp _ 5 (by decide) (by decide), fun r5 p5 => ⟨isN_nI hM, fun r6 p6 => ?_⟩⟩⟩
    have p4 := lowe x2 5 r4 (by decide) p4
    have p5 := lowe _ 5 r5 (by decide) p5
    have hc := lowN_lt x2 (n := 5) (by decide)
    have hs := lowN_lt (x2 >>> ((9 : Int32) &&& 31)) (n := 5) (by decide)
    generalize lowN x2 5 = k at p4 hc
    generalize lowN (x2 >>> ((9 : Int32) &&& 31)) 5 = s at p5 hs
    have p6 : r6 = nI (pc6 (nt (nI M))) := p6
    rw [i_nt (by omega)] at p6
    have hpc := pc6_le M
    subst p4 p5 p6
    rw [show ((2 : Int32) ≤ nI (pc6 M)) = (2 ≤ pc6 M) from i_le (a := 2) (by decide) (by omega), i_cl (show k < 2147483648 by omega), show ((5 : Int32) + nI k).toNatClampNeg = 5 + k by rw [l_5, i_add, i_cl (by omega)]]
    refine ⟨fun d => ⟨i_in (by omega) (by decide), i_in (by omega) (by decide), fun I7 e7 => ⟨by rw [l_5, i_add]; exact i_in (by omega) (by decide), fun I8 e8 => ⟨by decide, ?_⟩⟩⟩, fun d => ?_⟩
    · obtain ⟨q1, q2⟩ := vl_cut (x1 := x1) (x2 := x2) h0 hc hM d hs (I8 := I8) (by rw [e8, e7])
      refine ⟨q1, fun r9 I10 p9 => ?_⟩
      obtain ⟨q3, q4⟩ := q2 r9 I10 p9
      exact t_y q3 ⟨by decide, Or.inr rfl, rfl, q4⟩
    · have nM : ¬ isMk (nI M) := by
        rintro ⟨M2, hM2, e, h2⟩
        have := nI_inj (by omega) (by omega) e
        rw [← this] at h2; exact d h2
      refine ⟨by decide, h0.1, fun r11 I12 p11 => ?_⟩
      obtain ⟨f1, _, s1⟩ := no_cut p11 (fun q => nM q.2.1)
      obtain ⟨h1, _⟩ := act_X h0 f1
      refine t_y (s1 (isN_nI hc)) ⟨by decide, h1.1, fun r13 I14 p13 => ?_⟩
      obtain ⟨f2, s2, _⟩ := no_cut p13 (fun q => n5_5 q.1)
      obtain ⟨h2, _⟩ := act_X h1 f2
      refine t_y (s2 n5_5) ⟨by decide, h2.1, fun r15 I16 p15 => ?_⟩
      obtain ⟨f3, _, s3⟩ := no_cut p15 (fun q => n64 q.2.1)
      obtain ⟨h3, _⟩ := act_X h2 f3
      refine t_y (s3 (isN_nI hc)) ⟨by decide, h3.1, fun r17 I18 p17 => ?_⟩
      obtain ⟨f4, _, s4⟩ := no_cut p17 (fun q => n5_5 q.2.2)
      obtain ⟨h4, _⟩ := act_X h3 f4
      exact t_y (s4 (isN_nI hc)) ⟨by decide, Or.inr rfl, rfl, h4⟩
  · -- home
    exact ⟨7, vl_act223 h0 6 0 rfl⟩
  · -- a turn
    refine ⟨lowp x2 10 (by decide) (by decide), fun r19 p19 => ?_⟩
    have p19 := lowe x2 10 r19 (by decide) p19
    have hv := lowN_lt x2 (n := 10) (by decide)
    generalize lowN x2 10 = v at p19 hv
    subst p19
    have hst := stk_and hR hK hG (m5 v)
    rw [l_5, i_rem (by omega) (by decide) (by decide), i_cl (show v % 5 < 2147483648 by omega), show (3 : Int32).toNatClampNeg = 3 from rfl, hst, i_le (by decide) (by omega)]
    refine ⟨i_in (by omega) (by decide), i_in (a := 3) (by decide) (by decide), fun d => ⟨pre_right g2 hS hD, fun r20 p20 => ?_⟩, fun d => ?_⟩
    · have e20 : r20 = nI (aRt (rowC 1 I)) := by rw [aRt_ag hR]; exact right_rt g2 hS hD p20
      have hrl := aRt_le (rowC 1 I)
      rw [e20, l_6, i_eq (by omega) (by decide)]
      exact ⟨fun q => vl_act110 h0 hv d (by rw [if_neg q]), fun q => vl_act110 h0 hv d (by rw [if_pos q])⟩
    · refine ⟨fun q => ⟨by decide, h0.1, fun r21 I22 p21 => ?_⟩, fun q => ⟨by decide, h0.1, fun r23 I24 p23 => ?_⟩⟩
      · rw [i_sub q] at p21
        have hno : ¬ fK I (nI (v - 5)) := fun z => d (by have := z.2; rw [i_nt (by omega), show v - 5 = v % 5 by omega] at this; exact this)
        obtain ⟨f1, _, s1⟩ := no_back p21 hno
        exact vl_act61 (by decide) (act_X h0 f1).1 (s1 (isN_nI (by omega)))
      · have hno : ¬ fK I (nI v) := fun z => d (by have := z.2; rw [i_nt (by omega)] at this; rw [show v % 5 = v by omega]; exact this)
        obtain ⟨f1, _, s1⟩ := no_turn p23 hno
        exact vl_act61 (by decide) (act_X h0 f1).1 (s1 (isN_nI (by omega)))
