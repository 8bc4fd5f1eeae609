/-! ===== the class's opener ===== -/
theorem okD_W {I : wI} {k : Nat} (h : okD I k) : okW (at_ I k) :=
  ⟨fun p hp => (h p hp).1.2, fun p hp => (h p hp).2.2, fun p hp => by show (if p < 6 then _ else 0) = 0; rw [if_neg (by omega)], fun p hp => by show (if p < 6 then _ else 0) = 0; rw [if_neg (by omega)]⟩
theorem at_fr {I I' : wI} {k : Nat} (h1 : I' (k + 1) = I (k + 1)) (h2 : I' (k + 2) = I (k + 2)) : at_ I' k = at_ I k := by unfold at_ dsc ntc; rw [h1, h2]
theorem okD_fr {I I' : wI} {k : Nat} (h1 : I' (k + 1) = I (k + 1)) (h2 : I' (k + 2) = I (k + 2)) (h : okD I k) : okD I' k := by
  intro p hp
  have e := at_fr h1 h2
  have e1 : dsc I' k = dsc I k := congrArg Prod.fst e
  have e2 : ntc I' k = ntc I k := congrArg Prod.snd e
  rw [e1, e2, h1, h2]; exact h p hp
theorem at_cp {I I1 : wI} {k k1 : Nat} (h : post_X0_copyFrom k k1 I I1) (hD : okD I k1) : at_ I1 k = at_ I k1 ∧ okD I1 k := by
  have e1 : dsc I1 k = dsc I k1 := by
    funext p; unfold dsc; split
    · rename_i hp; rw [(h.1 p hp).1]
    · rfl
  have e2 : ntc I1 k = ntc I k1 := by
    funext p; unfold ntc; split
    · rename_i hp; rw [(h.1 p hp).2]
    · rfl
  refine ⟨by unfold at_; rw [e1, e2], fun p hp => ?_⟩
  rw [e1, e2, (h.1 p hp).1, (h.1 p hp).2]; exact hD p hp
theorem at_mv {I0 I1 I2 : wI} {k v : Nat} (hR : okR (rowC 1 I0)) (h6 : I1 6 = I0 6) (h7 : I1 7 = I0 7) (hD : okD I1 k) (hv : v < 10) (h : post_X1_move 5 k (nI v) I1 I2) : at_ I2 k = mP (rowC 1 I0) v (at_ I1 k) ∧ okD I2 k := by
  have hx := okD_W hD
  have hM := okR_M hR (m5 v)
  have hS := okR_S hR (m5 v)
  have g : ∀ p, p < 6 → I2 (k + 1) p = nI ((mP (rowC 1 I0) v (at_ I1 k)).1 p) ∧ I2 (k + 2) p = nI ((mP (rowC 1 I0) v (at_ I1 k)).2 p) := by
    intro p hp
    have := h.1 p hp
    rw [i_nt (by omega)] at this
    show I2 (k + 1) p = nI (mvD (aM (rowC 1 I0) (v % 5)) (v / 5) (dsc I1 k) p) ∧ I2 (k + 2) p = nI (mvN (aM (rowC 1 I0) (v % 5)) (aS (rowC 1 I0) (v % 5)) (v / 5) (ntc I1 k) p)
    unfold aM aS
    rw [rc_M (m5 v), rc_S (m5 v)]
    rw [show (5 + 1 : Nat) = 6 from rfl, show (5 + 2 : Nat) = 7 from rfl, h6, h7] at this
    exact this
  have hy := okW_mP hR hv hx
  have e1 : dsc I2 k = (mP (rowC 1 I0) v (at_ I1 k)).1 := by
    funext p; unfold dsc; split
    · rename_i hp; have := hy.1 p hp; rw [(g p hp).1, i_nt (by omega)]
    · rename_i hp; rw [hy.2.2.1 p (by omega)]
  have e2 : ntc I2 k = (mP (rowC 1 I0) v (at_ I1 k)).2 := by
    funext p; unfold ntc; split
    · rename_i hp; have := hy.2.1 p hp; rw [(g p hp).2, i_nt (by omega)]
    · rename_i hp; rw [hy.2.2.2 p (by omega)]
  refine ⟨Prod.ext e1 e2, fun p hp => ?_⟩
  rw [e1, e2]
  exact ⟨⟨(g p hp).1, hy.1 p hp⟩, (g p hp).2, hy.2.1 p hp⟩
theorem al_use {I I' : wI} {v : Nat} (h0 : okC I) (hX : frX I I') (hv : v < 10) : pre_X3_allows 1 (nI v) I' ∧ ∀ r, post_X3_allows 1 (nI v) I' r → r = if al (rowC 1 I) v = true then 1 else 0 := by
  obtain ⟨a1, a2⟩ := absC_frX h0 hX
  have e : rowC 1 I' = rowC 1 I := congrFun a1 0
  refine ⟨⟨a2.1, v, hv, rfl⟩, fun r h => ?_⟩
  unfold post_X3_allows at h
  rw [e, i_nt (by omega)] at h
  rw [h]
  unfold al
  cases aStk (rowC 1 I) (v % 5) <;> rfl
theorem cm_use {I I' I2 : wI} {ks kd v : Nat} (h0 : okC I) (hX : frX I I') (hD : okD I' ks) (hv : v < 10) (hkd : 25 ≤ kd) (hkd2 : kd ≤ 42) (h2 : post_X0_copyFrom kd ks I' I2) :
    pre_X1_move 5 kd (nI v) I2 ∧ ∀ I3, post_X1_move 5 kd (nI v) I2 I3 → at_ I3 kd = mP (rowC 1 I) v (at_ I' ks) ∧ okD I3 kd ∧ fr2 I' I3 (kd + 1) (kd + 2) := by
  obtain ⟨c1, c2⟩ := at_cp h2 hD
  have q6 : I2 6 = I 6 := by rw [h2.2 6 (by omega) (by omega), hX.1 6 (by omega)]
  have q7 : I2 7 = I 7 := by rw [h2.2 7 (by omega) (by omega), hX.1 7 (by omega)]
  refine ⟨⟨c2, okK_fr h0.1 q6 q7, v, hv, rfl⟩, fun I3 h3 => ?_⟩
  obtain ⟨m1, m2⟩ := at_mv h0.1.1 q6 q7 c2 hv h3
  exact ⟨by rw [m1, c1], m2, fr2_trans h2.2 h3.2⟩
def oCs : List Nat := [36, 37, 38, 40, 41, 43, 44]
theorem frO_X {I I' : wI} {cs : List Nat} (h : frO I I' cs) (hc : ∀ c, c ∈ cs → c ∈ oCs) : frX I I' := by
  have g : ∀ c, c < 36 ∨ 45 ≤ c → I' c = I c := by
    intro c hcc
    refine h c (fun q => ?_)
    have := hc c q
    unfold oCs at this
    simp only [List.mem_cons, List.not_mem_nil, or_false] at this
    omega
  exact ⟨fun c hc => g c (by omega), by rw [g 24 (by omega)]⟩
theorem frO_refl (I : wI) (cs : List Nat) : frO I I cs := fun _ _ => rfl
theorem fr36_refl (I : wI) (cs : List Nat) : fr36 I I cs := fun _ _ => rfl
theorem frO_trans {I I1 I2 : wI} {as bs cs : List Nat} (h : frO I I1 as) (h2 : frO I1 I2 bs) (ha : ∀ c, c ∈ as → c ∈ cs) (hb : ∀ c, c ∈ bs → c ∈ cs) : frO I I2 cs := fun c hc => by rw [h2 c (fun q => hc (hb c q)), h c (fun q => hc (ha c q))]
theorem fr36_trans {I I1 I2 : wI} {as bs cs : List Nat} (h : fr36 I I1 as) (h2 : fr36 I1 I2 bs) (ha : ∀ c, c ∈ as → c ∈ cs) (hb : ∀ c, c ∈ bs → c ∈ cs) : fr36 I I2 cs := fun c hc => by rw [h2 c (fun q => hc (hb c q)), h c (fun q => hc (ha c q))]
theorem fr2_O {I I' : wI} {a b : Nat} {cs : List Nat} (h : fr2 I I' a b) (ha : a ∈ cs) (hb : b ∈ cs) : frO I I' cs := fun c hc => h c (fun q => hc (by rw [q]; exact ha)) (fun q => hc (by rw [q]; exact hb))
theorem fr36_of {I I' : wI} {js : List Nat} (h : I' 36 = I 36) : fr36 I I' js := fun j _ => by rw [h]
theorem nl_fr {I I' : wI} {l : List (Nat × Nat)} (h2 : I' 36 2 = I 36 2) (h37 : I' 37 = I 37) (h38 : I' 38 = I 38) : nlR I' l ↔ nlR I l := by unfold nlR; rw [h2, h37, h38]
theorem fp_use {I : wI} {k : Nat} {r : Int32} (h : post_X0_fingerprint k I r) : r = nI (fpP (at_ I k)) := h
theorem gd2_left {A B : List (Nat × Nat)} {j : Nat} (h : j < A.length) : (A ++ B).getD j (0, 0) = A.getD j (0, 0) := by
  rw [List.getD_eq_getElem?_getD, List.getD_eq_getElem?_getD, List.getElem?_append_left h]
theorem gd2_last {A : List (Nat × Nat)} {x : Nat × Nat} : (A ++ [x]).getD A.length (0, 0) = x := by
  rw [List.getD_eq_getElem?_getD, List.getElem?_append_right (Nat.le_refl _), Nat.sub_self]; rfl
theorem vc_X2_list (k k1 : Nat) (x2 : Int32) (I : wI) (hp : pre_X2_list k k1 x2 I) : v_X2_list k k1 x2 I (post_X2_list k k1 x2 I) := by
  obtain ⟨rfl, hD, ⟨t, ht, rfl⟩, l0, hl0, hlt⟩ := hp
  have e2 : I 36 2 = nI l0.length := hl0.2.2.1
  unfold v_X2_list
  rw [e2, show (111 : Int32) = nI 111 from rfl, i_le (by decide) (by omega)]
  refine ⟨fun c => absurd c (nI_lt0 (by omega)), fun _ => ⟨fun c => absurd c (by omega), fun _ => ⟨hD, fun r1 h1 => ⟨i_in hlt (by decide), fun I2 q2 => ?_⟩⟩⟩⟩
  have f2 : I2 36 2 = nI l0.length := by rw [q2, wU_ne (by decide), e2]
  rw [f2]
  refine ⟨i_in hlt (by decide), fun I3 q3 I4 q4 => ?_⟩
  have f3 : I3 36 2 = nI l0.length := by rw [q3, wU_ne (by decide), f2]
  rw [f3, i_s] at q4
  rw [i_cl (by omega)] at q2 q3
  rw [fp_use h1] at q2
  have fo : frO I I4 [36, 37, 38] := by
    intro c hc
    simp only [List.mem_cons, List.not_mem_nil, or_false, not_or] at hc
    rw [q4, wU_ne hc.1, q3, wU_ne hc.2.2, q2, wU_ne hc.2.1]
  refine ⟨fun l hl hlt2 => ?_, fo, fun j hj => by
    simp only [List.mem_singleton] at hj
    rw [q4, wU_off (Or.inr hj), q3, wU_ne (by decide), q2, wU_ne (by decide)]⟩
  have el : l0.length = l.length := nI_inj (by omega) (by omega) (e2.symm.trans hl.2.2.1)
  rw [el] at q2 q3 q4
  have hle : (l ++ [(fpP (at_ I k1), nt (nI t))]).length = l.length + 1 := by rw [List.length_append]; rfl
  rw [i_nt (by omega)] at hle ⊢
  have hf := fpP_lt (okD_W hD)
  refine ⟨by omega, fun e he => ?_, by rw [q4, wU_at, hle], fun i hi => ?_⟩
  · rcases List.mem_append.1 he with h | h
    · exact hl.2.1 e h
    · rw [List.mem_singleton] at h
      rw [h]; exact ⟨hf, ht⟩
  · rw [hle] at hi
    rw [q4, wU_ne (by decide), wU_ne (by decide), q3, wU_ne (by decide)]
    by_cases c : i = l.length
    · subst c
      rw [q2, wU_at, wU_at, gd2_last]
      exact ⟨rfl, rfl⟩
    · rw [wU_off (Or.inr c), q2, wU_off (Or.inr c), wU_ne (by decide), gd2_left (by omega)]
      exact hl.2.2.2 i (by omega)
theorem lk_drop {l : List (Nat × Nat)} {i f : Nat} (h : i < l.length) : lkR (l.drop i) f = if (l.getD i (0, 0)).1 = f then nI (l.getD i (0, 0)).2 else lkR (l.drop (i + 1)) f := by
  rw [List.drop_eq_getElem_cons h, List.getD_eq_getElem?_getD, List.getElem?_eq_getElem h]; rfl
theorem gd2_mem {l : List (Nat × Nat)} {i : Nat} (h : i < l.length) : l.getD i (0, 0) ∈ l := by
  rw [List.getD_eq_getElem?_getD, List.getElem?_eq_getElem h]; exact List.getElem_mem h
theorem vl_X2_lt {I : wI} {k1 : Nat} {f : Nat} (hf : f < 2000000000) (ef : f = fpP (at_ I k1)) {l0 : List (Nat × Nat)} (h0 : nlR I l0) : ∀ (m i : Nat), i + m = l0.length → (∀ l, nlR I l → lkR l f = lkR (l.drop i) f) → v_X2_listedTurns_7 36 k1 I (post_X2_listedTurns 36 k1 I) (m + 1) (nI f) (nI i)
  | m, i, e, hs => by
    have hl := h0.1
    show g_X2_listedTurns_7 ..
    unfold g_X2_listedTurns_7
    rw [h0.2.2.1, i_le (by omega) (by omega), show (111 : Int32) = nI 111 from rfl, i_le (by decide) (by omega)]
    have same : ∀ l, nlR I l → l.length = l0.length := fun l h => nI_inj (by have := h.1; omega) (by omega) (h.2.2.1.symm.trans h0.2.2.1)
    refine ⟨fun c => ?_, fun c => ⟨fun c5 => absurd c5 (by omega), fun c5 => ⟨i_in (by omega) (by decide), ?_⟩⟩⟩
    · intro l h
      rw [← ef, hs l h, List.drop_eq_nil_of_le (by rw [same l h]; exact c)]; rfl
    · obtain ⟨m, rfl⟩ : ∃ k, m = k + 1 := ⟨m - 1, by omega⟩
      have any : ∀ l, nlR I l → (l.getD i (0, 0)).1 = (l0.getD i (0, 0)).1 ∧ (l.getD i (0, 0)).2 = (l0.getD i (0, 0)).2 := by
        intro l h
        have e1 := h.2.2.2 i (by rw [same l h]; omega)
        have e2 := h0.2.2.2 i (by omega)
        have b1 := h.2.1 _ (gd2_mem (show i < l.length by rw [same l h]; omega))
        have b2 := h0.2.1 _ (gd2_mem (show i < l0.length by omega))
        exact ⟨nI_inj (by omega) (by omega) (e1.1.symm.trans e2.1), nI_inj (by omega) (by omega) (e1.2.symm.trans e2.2)⟩
      have b2 := h0.2.1 _ (gd2_mem (show i < l0.length by omega))
      rw [i_cl (by omega), (h0.2.2.2 i (by omega)).1, i_eq (by omega) (by omega), i_s]
      refine ⟨fun c2 => vl_X2_lt hf ef h0 m (i + 1) (by omega) (fun l h => ?_), fun c2 => ⟨i_in (by omega) (by decide), fun l h => ?_⟩⟩
      · rw [hs l h, lk_drop (by rw [same l h]; omega), if_neg (by rw [(any l h).1]; exact c2)]
      · rw [← ef, hs l h, lk_drop (by rw [same l h]; omega), if_pos (by rw [(any l h).1]; exact c2), (any l h).2]
        exact (h0.2.2.2 i (by omega)).2
theorem vc_X2_listedTurns (k k1 : Nat) (I : wI) (hp : pre_X2_listedTurns k k1 I) : v_X2_listedTurns k k1 I (post_X2_listedTurns k k1 I) := by
  obtain ⟨rfl, hD, l0, h0⟩ := hp
  refine ⟨hD, fun r1 h1 => ⟨l0.length + 1, ?_⟩⟩
  rw [fp_use h1]
  exact vl_X2_lt (fpP_lt (okD_W hD)) rfl h0 l0.length 0 (Nat.zero_add _) (fun l _ => rfl)
theorem L2_len (a : Nat → Int32) (x : DN) : ∀ n, (L2 a x n).length ≤ n
  | 0 => Nat.le_refl _
  | n + 1 => by
    show (L2 a x n ++ _).length ≤ n + 1
    have := L2_len a x n
    rw [List.length_append]
    split
    · show _ + 1 ≤ _; omega
    · show _ + 0 ≤ _; omega
theorem L1_len (a : Nat → Int32) : ∀ n, (L1 a n).length ≤ n
  | 0 => Nat.le_refl _
  | n + 1 => by
    show (L1 a n ++ _).length ≤ n + 1
    have := L1_len a n
    rw [List.length_append]
    split
    · show _ + 1 ≤ _; omega
    · show _ + 0 ≤ _; omega
theorem L3_len (a : Nat → Int32) : ∀ n, (L3 a n).length ≤ 10 * n
  | 0 => Nat.le_refl _
  | n + 1 => by
    show (L3 a n ++ _).length ≤ 10 * (n + 1)
    have := L3_len a n
    rw [List.length_append]
    split
    · have := L2_len a (mP a n (secP a)) 10; omega
    · show _ + 0 ≤ _; omega
theorem vl_X2_lbo {I : wI} (h0 : okC I) (hD : okD I 39) {l0 : List (Nat × Nat)} (hl0 : nlR I l0) (hlt : l0.length ≤ 101) : ∀ (m u : Nat) (I' : wI), u + m = 10 → (∀ l, nlR I l → l.length ≤ 101 → nlR I' (l ++ L2 (rowC 1 I) (at_ I 39) u)) → frO I I' [36, 37, 38, 43, 44] → fr36 I I' [2] →
    v_X2_listBehindOne_2 36 1 (post_X2_listBehindOne 36 1 I) (m + 1) (nI u) I'
  | m, u, I', e, hl, hO, h36 => by
    show g_X2_listBehindOne_2 ..
    unfold g_X2_listBehindOne_2
    rw [l_10, i_le (by decide) (by omega)]
    refine ⟨fun c => ?_, fun c => ?_⟩
    · obtain rfl : u = 10 := by omega
      exact ⟨hl, hO, h36⟩
    · obtain ⟨m, rfl⟩ : ∃ k, m = k + 1 := ⟨m - 1, by omega⟩
      have hX : frX I I' := frO_X hO (by decide)
      obtain ⟨p1, p2⟩ := al_use h0 hX (show u < 10 by omega)
      refine ⟨p1, fun r1 h1 => ?_⟩
      rw [p2 r1 h1]
      unfold v_X2_listBehindOne_48
      rw [i_s]
      cases ha : al (rowC 1 I) u
      · refine ⟨fun _ => ?_, fun q => absurd rfl q⟩
        refine vl_X2_lbo h0 hD hl0 hlt m (u + 1) I' (by omega) (fun l a b => ?_) hO h36
        show nlR I' (l ++ (L2 (rowC 1 I) (at_ I 39) u ++ if al (rowC 1 I) u = true then _ else []))
        rw [ha, if_neg Bool.false_ne_true, List.append_nil]; exact hl l a b
      · refine ⟨fun q => absurd q (by decide), fun _ => ⟨by unfold pre_X0_copyFrom dj; decide, fun I2 h2 => ?_⟩⟩
        have e40 : I' 40 = I 40 := hO 40 (by decide)
        have e41 : I' 41 = I 41 := hO 41 (by decide)
        have hD' : okD I' 39 := okD_fr e40 e41 hD
        have eat : at_ I' 39 = at_ I 39 := at_fr e40 e41
        obtain ⟨p3, p4⟩ := cm_use (kd := 42) (v := u) h0 hX hD' (by omega) (by decide) (by decide) h2
        refine ⟨p3, fun I3 h3 => ?_⟩
        obtain ⟨g1, g2, g3⟩ := p4 I3 h3
        rw [eat] at g1
        have nl3 : ∀ l, nlR I l → l.length ≤ 101 → nlR I3 (l ++ L2 (rowC 1 I) (at_ I 39) u) := fun l a b => (nl_fr (by rw [g3 36 (by decide) (by decide)]) (g3 37 (by decide) (by decide)) (g3 38 (by decide) (by decide))).2 (hl l a b)
        have len_ : ∀ l : List (Nat × Nat), l.length ≤ 101 → (l ++ L2 (rowC 1 I) (at_ I 39) u).length < 111 := fun l b => by
          have := L2_len (rowC 1 I) (at_ I 39) u
          rw [List.length_append]; omega
        refine ⟨⟨rfl, g2, ⟨2, by decide, rfl⟩, _, nl3 l0 hl0 hlt, len_ l0 hlt⟩, fun I4 h4 => ?_⟩
        obtain ⟨k1, k2, k3⟩ := h4
        refine vl_X2_lbo h0 hD hl0 hlt m (u + 1) I4 (by omega) (fun l a b => ?_) (frO_trans hO (frO_trans (fr2_O (cs := [43, 44]) g3 (by decide) (by decide)) k2 (cs := [36, 37, 38, 43, 44]) (by decide) (by decide)) (by decide) (by decide)) (fr36_trans h36 (fr36_trans (fr36_of (js := []) (g3 36 (by decide) (by decide))) k3 (cs := [2]) (by decide) (by decide)) (by decide) (by decide))
        have := k1 _ (nl3 l a b) (len_ l b)
        show nlR I4 (l ++ (L2 (rowC 1 I) (at_ I 39) u ++ if al (rowC 1 I) u = true then [(fpP (mP (rowC 1 I) u (at_ I 39)), 2)] else []))
        rw [ha, if_pos rfl, ← List.append_assoc, ← g1]
        exact this
theorem vc_X2_listBehindOne (k k1 : Nat) (I : wI) (hp : pre_X2_listBehindOne k k1 I) : v_X2_listBehindOne k k1 I (post_X2_listBehindOne k k1 I) := by
  obtain ⟨rfl, rfl, h0, hD, l0, hl0, hlt⟩ := hp
  exact ⟨11, vl_X2_lbo h0 hD hl0 hlt 10 0 I rfl (fun l a _ => by show nlR I (l ++ []); rw [List.append_nil]; exact a) (frO_refl _ _) (fr36_refl _ _)⟩
theorem sec_at {I : wI} (h0 : okC I) (h3 : I 1 3 = 1) : at_ I 8 = secP (rowC 1 I) ∧ okD I 8 := by
  have h30 : ¬ I 1 3 = 0 := by rw [h3]; decide
  have hs := h0.1.1.2.2.2.2.2.2 (show rowC 1 I 36 = 1 from h3)
  have e1 : dsc I 8 = (secP (rowC 1 I)).1 := by
    funext p
    show (if p < 6 then nt (I 9 p) else 0) = if p < 6 then nt (rowC 1 I (37 + p)) else 0
    split
    · rename_i hp; rw [rc_sd hp, if_neg h30]
    · rfl
  have e2 : ntc I 8 = (secP (rowC 1 I)).2 := by
    funext p
    show (if p < 6 then nt (I 10 p) else 0) = if p < 6 then nt (rowC 1 I (43 + p)) else 0
    split
    · rename_i hp; rw [rc_sn hp, if_neg h30]
    · rfl
  refine ⟨by unfold at_; rw [e1, e2], fun p hp => ?_⟩
  have := hs p hp
  rw [rc_sd hp, rc_sn hp, if_neg h30, if_neg h30] at this
  show (I 9 p = nI (if p < 6 then nt (I 9 p) else 0) ∧ (if p < 6 then nt (I 9 p) else 0) < 6) ∧ (I 10 p = nI (if p < 6 then nt (I 10 p) else 0) ∧ (if p < 6 then nt (I 10 p) else 0) < 5)
  rw [if_pos hp, if_pos hp]; exact this
theorem now_at {I : wI} (h0 : okC I) : at_ I 2 = posP (rowC 1 I) ∧ okD I 2 := by
  have e1 : dsc I 2 = aD (rowC 1 I) := by
    funext p
    show (if p < 6 then nt (I 3 p) else 0) = if p < 6 then nt (rowC 1 I p) else 0
    split
    · rename_i hp; rw [rc_d hp]
    · rfl
  have e2 : ntc I 2 = aN (rowC 1 I) := by
    funext p
    show (if p < 6 then nt (I 4 p) else 0) = if p < 6 then nt (rowC 1 I (6 + p)) else 0
    split
    · rename_i hp; rw [rc_n hp]
    · rfl
  refine ⟨by unfold at_ posP; rw [e1, e2], fun p hp => ?_⟩
  have := h0.1.1.1 p hp
  rw [rc_d hp, rc_n hp] at this
  rw [e1, e2]; exact this
/-- the list's second round -/
theorem vl_X2_ln70 {I : wI} (h0 : okC I) (h3 : I 1 3 = 1) : ∀ (m v : Nat) (I' : wI), v + m = 10 → nlR I' ([(fpP (secP (rowC 1 I)), 0)] ++ L1 (rowC 1 I) 10 ++ L3 (rowC 1 I) v) → frO I I' [36, 37, 38, 40, 41, 43, 44] → fr36 I I' [2] →
    v_X2_listNear_70 36 1 (post_X2_listNear 36 1 I) (m + 1) (nI v) I'
  | m, v, I', e, hl, hO, h36 => by
    show g_X2_listNear_70 ..
    unfold g_X2_listNear_70
    rw [l_10, i_le (by decide) (by omega)]
    refine ⟨fun c => ?_, fun c => ?_⟩
    · obtain rfl : v = 10 := by omega
      exact ⟨hl, hO, h36⟩
    · obtain ⟨m, rfl⟩ : ∃ k, m = k + 1 := ⟨m - 1, by omega⟩
      have hX : frX I I' := frO_X hO (by decide)
      obtain ⟨p1, p2⟩ := al_use h0 hX (show v < 10 by omega)
      refine ⟨p1, fun r1 h1 => ?_⟩
      rw [p2 r1 h1]
      unfold v_X2_listNear_112
      rw [i_s]
      cases ha : al (rowC 1 I) v
      · refine ⟨fun _ => ?_, fun q => absurd rfl q⟩
        refine vl_X2_ln70 h0 h3 m (v + 1) I' (by omega) ?_ hO h36
        show nlR I' (_ ++ (L3 (rowC 1 I) v ++ if al (rowC 1 I) v = true then _ else []))
        rw [ha, if_neg Bool.false_ne_true, List.append_nil]; exact hl
      · refine ⟨fun q => absurd q (by decide), fun _ => ⟨by unfold pre_X0_copyFrom dj; decide, fun I2 h2 => ?_⟩⟩
        obtain ⟨s1, s2⟩ := sec_at h0 h3
        have e9 : I' 9 = I 9 := hO 9 (by decide)
        have e10 : I' 10 = I 10 := hO 10 (by decide)
        have hD' : okD I' 8 := okD_fr (k := 8) e9 e10 s2
        have eat : at_ I' 8 = secP (rowC 1 I) := by rw [at_fr (k := 8) e9 e10, s1]
        obtain ⟨p3, p4⟩ := cm_use (kd := 39) (v := v) h0 hX hD' (by omega) (by decide) (by decide) h2
        refine ⟨p3, fun I3 h3' => ?_⟩
        obtain ⟨g1, g2, g3⟩ := p4 I3 h3'
        rw [eat] at g1
        have nl3 := (nl_fr (by rw [g3 36 (by decide) (by decide)]) (g3 37 (by decide) (by decide)) (g3 38 (by decide) (by decide))).2 hl
        have len_ : ([(fpP (secP (rowC 1 I)), 0)] ++ L1 (rowC 1 I) 10 ++ L3 (rowC 1 I) v).length ≤ 101 := by
          have a1 := L1_len (rowC 1 I) 10
          have a2 := L3_len (rowC 1 I) v
          rw [List.length_append, List.length_append]
          show 1 + _ + _ ≤ 101
          omega
        have hO3 : frO I I3 [36, 37, 38, 40, 41, 43, 44] := frO_trans hO (fr2_O (cs := [40, 41]) g3 (by decide) (by decide)) (by decide) (by decide)
        obtain ⟨ab, ok3⟩ := absC_frX h0 (frO_X hO3 (by decide))
        have eR : rowC 1 I3 = rowC 1 I := congrFun ab 0
        refine ⟨⟨rfl, rfl, ok3, g2, _, nl3, len_⟩, fun I4 h4 => ?_⟩
        obtain ⟨k1, k2, k3⟩ := h4
        refine vl_X2_ln70 h0 h3 m (v + 1) I4 (by omega) ?_ (frO_trans hO3 k2 (by decide) (by decide)) (fr36_trans h36 (fr36_trans (fr36_of (js := []) (g3 36 (by decide) (by decide))) k3 (cs := [2]) (by decide) (by decide)) (by decide) (by decide))
        have := k1 _ nl3 len_
        show nlR I4 (_ ++ (L3 (rowC 1 I) v ++ if al (rowC 1 I) v = true then L2 (rowC 1 I) (mP (rowC 1 I) v (secP (rowC 1 I))) 10 else []))
        rw [ha, if_pos rfl, ← List.append_assoc, ← g1, ← eR]
        rw [← eR] at this
        exact this
theorem vl_X2_ln16 {I : wI} (h0 : okC I) (h3 : I 1 3 = 1) : ∀ (m v : Nat) (I' : wI), v + m = 10 → nlR I' ([(fpP (secP (rowC 1 I)), 0)] ++ L1 (rowC 1 I) v) → frO I I' [36, 37, 38, 40, 41, 43, 44] → fr36 I I' [2] →
    v_X2_listNear_16 36 1 (post_X2_listNear 36 1 I) (m + 1) (nI v) I'
  | m, v, I', e, hl, hO, h36 => by
    show g_X2_listNear_16 ..
    unfold g_X2_listNear_16
    rw [l_10, i_le (by decide) (by omega)]
    refine ⟨fun c => ?_, fun c => ?_⟩
    · obtain rfl : v = 10 := by omega
      exact ⟨11, vl_X2_ln70 h0 h3 10 0 I' rfl (by show nlR I' (_ ++ []); rw [List.append_nil]; exact hl) hO h36⟩
    · obtain ⟨m, rfl⟩ : ∃ k, m = k + 1 := ⟨m - 1, by omega⟩
      have hX : frX I I' := frO_X hO (by decide)
      obtain ⟨p1, p2⟩ := al_use h0 hX (show v < 10 by omega)
      refine ⟨p1, fun r1 h1 => ?_⟩
      rw [p2 r1 h1]
      unfold v_X2_listNear_62
      rw [i_s]
      cases ha : al (rowC 1 I) v
      · refine ⟨fun _ => ?_, fun q => absurd rfl q⟩
        refine vl_X2_ln16 h0 h3 m (v + 1) I' (by omega) ?_ hO h36
        show nlR I' (_ ++ (L1 (rowC 1 I) v ++ if al (rowC 1 I) v = true then _ else []))
        rw [ha, if_neg Bool.false_ne_true, List.append_nil]; exact hl
      · refine ⟨fun q => absurd q (by decide), fun _ => ⟨by unfold pre_X0_copyFrom dj; decide, fun I2 h2 => ?_⟩⟩
        obtain ⟨s1, s2⟩ := sec_at h0 h3
        have e9 : I' 9 = I 9 := hO 9 (by decide)
        have e10 : I' 10 = I 10 := hO 10 (by decide)
        have hD' : okD I' 8 := okD_fr (k := 8) e9 e10 s2
        have eat : at_ I' 8 = secP (rowC 1 I) := by rw [at_fr (k := 8) e9 e10, s1]
        obtain ⟨p3, p4⟩ := cm_use (kd := 39) (v := v) h0 hX hD' (by omega) (by decide) (by decide) h2
        refine ⟨p3, fun I3 h3' => ?_⟩
        obtain ⟨g1, g2, g3⟩ := p4 I3 h3'
        rw [eat] at g1
        have nl3 := (nl_fr (by rw [g3 36 (by decide) (by decide)]) (g3 37 (by decide) (by decide)) (g3 38 (by decide) (by decide))).2 hl
        have len_ : ([(fpP (secP (rowC 1 I)), 0)] ++ L1 (rowC 1 I) v).length < 111 := by
          have a1 := L1_len (rowC 1 I) v
          rw [List.length_append]
          show 1 + _ < 111
          omega
        have hO3 : frO I I3 [36, 37, 38, 40, 41, 43, 44] := frO_trans hO (fr2_O (cs := [40, 41]) g3 (by decide) (by decide)) (by decide) (by decide)
        refine ⟨⟨rfl, g2, ⟨1, by decide, rfl⟩, _, nl3, len_⟩, fun I4 h4 => ?_⟩
        obtain ⟨k1, k2, k3⟩ := h4
        refine vl_X2_ln16 h0 h3 m (v + 1) I4 (by omega) ?_ (frO_trans hO3 k2 (by decide) (by decide)) (fr36_trans h36 (fr36_trans (fr36_of (js := []) (g3 36 (by decide) (by decide))) k3 (cs := [2]) (by decide) (by decide)) (by decide) (by decide))
        have := k1 _ nl3 len_
        show nlR I4 (_ ++ (L1 (rowC 1 I) v ++ if al (rowC 1 I) v = true then [(fpP (mP (rowC 1 I) v (secP (rowC 1 I))), 1)] else []))
        rw [ha, if_pos rfl, ← List.append_assoc, ← g1]
        exact this
theorem vc_X2_listNear (k k1 : Nat) (I : wI) (hp : pre_X2_listNear k k1 I) : v_X2_listNear k k1 I (post_X2_listNear k k1 I) := by
  obtain ⟨rfl, rfl, h0, h3⟩ := hp
  intro I1 q1
  obtain ⟨s1, s2⟩ := sec_at h0 h3
  have hnil : nlR I1 [] := ⟨by decide, fun e h => absurd h List.not_mem_nil, by rw [q1, wU_at]; rfl, fun i h => absurd h (Nat.not_lt_zero _)⟩
  have e9 : I1 9 = I 9 := by rw [q1, wU_ne (by decide)]
  have e10 : I1 10 = I 10 := by rw [q1, wU_ne (by decide)]
  have hO1 : frO I I1 [36] := fun c hc => by rw [q1, wU_ne (fun q => hc (by rw [q]; decide))]
  have h361 : fr36 I I1 [2] := fun j hj => by rw [q1, wU_off (Or.inr (fun q => hj (by rw [q]; decide)))]
  refine ⟨⟨rfl, okD_fr (k := 8) e9 e10 s2, ⟨0, by decide, rfl⟩, [], hnil, by decide⟩, fun I2 h2 => ⟨11, ?_⟩⟩
  obtain ⟨k1, k2, k3⟩ := h2
  have := k1 [] hnil (by decide)
  rw [show at_ I1 (1 + 7) = secP (rowC 1 I) from (at_fr (k := 8) e9 e10).trans s1] at this
  exact vl_X2_ln16 h0 h3 10 0 I2 rfl (by show nlR I2 ([_] ++ []); rw [List.append_nil]; exact this) (frO_trans hO1 k2 (by decide) (by decide)) (fr36_trans h361 k3 (by decide) (by decide))
theorem vl_X2_ml {I : wI} (h0 : okC I) (hD : okD I 39) {l0 : List (Nat × Nat)} (hl0 : nlR I l0) : ∀ (m u : Nat) (I' : wI), u + m = 10 → (∀ l, nlR I l → ∀ w, w < u → (al (rowC 1 I) w && decide (lkR l (fpP (mP (rowC 1 I) w (at_ I 39))) ≠ -1)) = false) → frO I I' [43, 44] →
    v_X2_meetsList_2 36 1 (post_X2_meetsList 36 1 I) (m + 1) (nI u) I'
  | m, u, I', e, hl, hO => by
    show g_X2_meetsList_2 ..
    unfold g_X2_meetsList_2
    rw [l_10, i_le (by decide) (by omega)]
    refine ⟨fun c => ⟨fun l h => ?_, hO⟩, fun c => ?_⟩
    · have : mt (rowC 1 I) l (at_ I 39) = false := by
        unfold mt
        rw [decide_eq_false_iff_not, fb_lt]
        rintro ⟨w, hw, q⟩
        rw [hl l h w (by omega)] at q; exact absurd q (by decide)
      rw [this]; rfl
    · obtain ⟨m, rfl⟩ : ∃ k, m = k + 1 := ⟨m - 1, by omega⟩
      have hX : frX I I' := frO_X hO (by decide)
      obtain ⟨p1, p2⟩ := al_use h0 hX (show u < 10 by omega)
      refine ⟨p1, fun r1 h1 => ?_⟩
      rw [p2 r1 h1]
      unfold v_X2_meetsList_53
      rw [i_s]
      have nxt : ∀ (I3 : wI), frO I I3 [43, 44] → (∀ l, nlR I l → (al (rowC 1 I) u && decide (lkR l (fpP (mP (rowC 1 I) u (at_ I 39))) ≠ -1)) = false) → v_X2_meetsList_2 36 1 (post_X2_meetsList 36 1 I) (m + 1) (nI (u + 1)) I3 := by
        intro I3 hO3 hu
        refine vl_X2_ml h0 hD hl0 m (u + 1) I3 (by omega) (fun l h w hw => ?_) hO3
        by_cases c : w = u
        · rw [c]; exact hu l h
        · exact hl l h w (by omega)
      cases ha : al (rowC 1 I) u
      · exact ⟨fun _ => nxt I' hO (fun l h => by rw [ha]; rfl), fun q => absurd rfl q⟩
      · refine ⟨fun q => absurd q (by decide), fun _ => ⟨by unfold pre_X0_copyFrom dj; decide, fun I2 h2 => ?_⟩⟩
        have e40 : I' 40 = I 40 := hO 40 (by decide)
        have e41 : I' 41 = I 41 := hO 41 (by decide)
        have hD' : okD I' 39 := okD_fr e40 e41 hD
        have eat : at_ I' 39 = at_ I 39 := at_fr e40 e41
        obtain ⟨p3, p4⟩ := cm_use (kd := 42) (v := u) h0 hX hD' (by omega) (by decide) (by decide) h2
        refine ⟨p3, fun I3 h3 => ?_⟩
        obtain ⟨g1, g2, g3⟩ := p4 I3 h3
        rw [eat] at g1
        have hO3 : frO I I3 [43, 44] := frO_trans hO (fr2_O (cs := [43, 44]) g3 (by decide) (by decide)) (by decide) (by decide)
        have nl3 : ∀ l, nlR I3 l ↔ nlR I l := fun l => nl_fr (by rw [hO3 36 (by decide)]) (hO3 37 (by decide)) (hO3 38 (by decide))
        refine ⟨⟨rfl, g2, l0, (nl3 l0).2 hl0⟩, fun r4 h4 => ?_⟩
        have h4' : ∀ l, nlR I l → r4 = lkR l (fpP (mP (rowC 1 I) u (at_ I 39))) := fun l h => by rw [← g1]; exact h4 l ((nl3 l).2 h)
        refine ⟨fun c4 => nxt I3 hO3 (fun l h => ?_), fun c4 => ⟨fun l h => ?_, hO3⟩⟩
        · rw [← h4' l h, c4, ha]; rfl
        · have : mt (rowC 1 I) l (at_ I 39) = true := by
            unfold mt
            rw [decide_eq_true_iff, fb_lt]
            exact ⟨u, by omega, by rw [← h4' l h, ha, decide_eq_true c4]; rfl⟩
          rw [this]; rfl
theorem vc_X2_meetsList (k k1 : Nat) (I : wI) (hp : pre_X2_meetsList k k1 I) : v_X2_meetsList k k1 I (post_X2_meetsList k k1 I) := by
  obtain ⟨rfl, rfl, h0, hD, l0, hl0⟩ := hp
  exact ⟨11, vl_X2_ml h0 hD hl0 10 0 I rfl (fun _ _ w hw => absurd hw (Nat.not_lt_zero _)) (frO_refl _ _)⟩
theorem vc_X2_tryFirst (k k1 : Nat) (x2 : Int32) (I : wI) (hp : pre_X2_tryFirst k k1 x2 I) : v_X2_tryFirst k k1 x2 I (post_X2_tryFirst k k1 x2 I) := by
  obtain ⟨rfl, rfl, h0, ⟨v, hv, rfl⟩, hfw, l0, hl0⟩ := hp
  obtain ⟨n1, n2⟩ := now_at h0
  refine ⟨by unfold pre_X0_copyFrom dj; decide, fun I1 h1 => ?_⟩
  obtain ⟨p3, p4⟩ := cm_use (kd := 39) (ks := 2) (v := v) h0 (frX_refl I) n2 hv (by decide) (by decide) h1
  refine ⟨p3, fun I2 h2 => ?_⟩
  obtain ⟨g1, g2, g3⟩ := p4 I2 h2
  rw [n1] at g1
  have hO2 : frO I I2 [40, 41] := fr2_O g3 (by decide) (by decide)
  have nlf : ∀ {J : wI}, frO I J [40, 41, 43, 44] → ∀ l, nlR J l ↔ nlR I l := fun h l => nl_fr (by rw [h 36 (by decide)]) (h 37 (by decide)) (h 38 (by decide))
  have hO2' : frO I I2 [40, 41, 43, 44] := fun c hc => hO2 c (fun q => hc (by
    simp only [List.mem_cons, List.not_mem_nil, or_false] at q ⊢; omega))
  refine ⟨⟨rfl, g2, l0, (nlf hO2' l0).2 hl0⟩, fun r3 h3 => ?_⟩
  have h3' : ∀ l, nlR I l → r3 = lkR l (fpP (mP (rowC 1 I) v (posP (rowC 1 I)))) := fun l h => by rw [← g1]; exact h3 l ((nlf hO2' l).2 h)
  have e5 : I2 36 5 = I 36 5 := by rw [hO2 36 (by decide)]
  -- behind the rest
  have k55 : ∀ (R : Int32) (J : wI), frO I J [40, 41, 43, 44] → (∀ l, nlR I l → tfR (rowC 1 I) l v (I 36 5) = R) → v_X2_tryFirst_55 36 1 (nI v) (post_X2_tryFirst 36 1 (nI v) I) R J := by
    intro R J hJ hR
    have e36 : J 36 = I 36 := hJ 36 (by decide)
    have keep_ : ¬ (R ≠ -1 ∧ (I 36 5 = -1 ∨ R + 1 < I 36 5)) → post_X2_tryFirst 36 1 (nI v) I J := by
      intro hn
      refine ⟨fun l h => ?_, frO_trans (cs := [36, 40, 41, 43, 44]) hJ (frO_refl J []) (by decide) (by decide), fr36_of e36⟩
      unfold tfS
      rw [i_nt (by omega), hR l h, if_neg hn, e36]
    have set_ : (R ≠ -1 ∧ (I 36 5 = -1 ∨ R + 1 < I 36 5)) → v_X2_tryFirst_78 36 1 (nI v) (post_X2_tryFirst 36 1 (nI v) I) R J := by
      intro hy I1 q1 I2 q2
      refine ⟨fun l h => ?_, fun c hc => ?_, fun j hj => ?_⟩
      · unfold tfS
        rw [i_nt (by omega), hR l h, if_pos hy, q2, wU_at, wU_off (Or.inr (by decide)), q1, wU_at]
      · have h36 : c ≠ 36 := fun q => hc (by rw [q]; decide)
        rw [q2, wU_ne h36, q1, wU_ne h36]
        exact hJ c (fun q => hc (by simp only [List.mem_cons, List.not_mem_nil, or_false] at q ⊢; omega))
      · simp only [List.mem_cons, List.not_mem_nil, or_false, not_or] at hj
        rw [q2, wU_off (Or.inr hj.2), q1, wU_off (Or.inr hj.1), e36]
    refine ⟨fun c => keep_ (fun q => q.1 c), fun c => ⟨fun c5 => set_ ⟨c, Or.inl (by rw [← e36]; exact c5)⟩, fun c5 => ⟨fun cl => keep_ (fun q => ?_), fun cl => set_ ⟨c, Or.inr (by rw [← e36]; exact Int32.not_le.1 cl)⟩⟩⟩⟩
    rw [e36] at c5 cl
    rcases q.2 with h | h
    · exact c5 h
    · exact Int32.not_lt.2 cl h
  refine ⟨fun c3 => k55 r3 I2 hO2' (fun l h => ?_), fun c3 => ⟨fun c5 => k55 r3 I2 hO2' (fun l h => ?_), fun c5 => ?_⟩⟩
  · unfold tfR
    rw [← h3' l h, if_neg (fun q => c3 q.1)]
  · unfold tfR
    rw [e5] at c5
    rw [← h3' l h, if_neg (fun q => c5 q.2.1)]
  · rw [e5] at c5
    obtain ⟨ab, ok2⟩ := absC_frX h0 (frO_X hO2 (by decide))
    have eR : rowC 1 I2 = rowC 1 I := congrFun ab 0
    refine ⟨⟨rfl, rfl, ok2, g2, l0, (nlf hO2' l0).2 hl0⟩, fun r4 I5 h4 => ?_⟩
    obtain ⟨m1, m2⟩ := h4
    have m1' : ∀ l, nlR I l → r4 = if mt (rowC 1 I) l (mP (rowC 1 I) v (posP (rowC 1 I))) = true then 1 else 0 := fun l h => by
      have := m1 l ((nlf hO2' l).2 h)
      rw [eR, show at_ I2 39 = _ from g1] at this
      exact this
    have hO5 : frO I I5 [40, 41, 43, 44] := frO_trans hO2 m2 (by decide) (by decide)
    refine ⟨fun c4 => k55 r3 I5 hO5 (fun l h => ?_), fun c4 => k55 3 I5 hO5 (fun l h => ?_)⟩
    · have hm : ¬ mt (rowC 1 I) l (mP (rowC 1 I) v (posP (rowC 1 I))) = true := by
        intro q
        have := m1' l h
        rw [q, c4] at this
        exact absurd this (by decide)
      unfold tfR
      rw [← h3' l h, if_neg (fun q => hm q.2.2)]
    · have hm : mt (rowC 1 I) l (mP (rowC 1 I) v (posP (rowC 1 I))) = true := by
        have := m1' l h
        cases hm : mt (rowC 1 I) l (mP (rowC 1 I) v (posP (rowC 1 I)))
        · rw [hm] at this; exact absurd this c4
        · rfl
      unfold tfR
      rw [← h3' l h, if_pos ⟨c3, c5, hm⟩]
theorem tf_fw {a : Nat → Int32} {v : Nat} {s : Int32 × Int32} (h : tfI a v s) : fwOk s.1 := by
  rcases h with ⟨f1, _, _⟩ | ⟨n, u, n3, _, _, _, f1, _⟩
  · exact Or.inl f1
  · exact Or.inr ⟨n + 1, by omega, by omega, f1⟩
theorem vl_X2_search {I I0 : wI} (h0 : okC I) (h3 : I 1 3 = 1) (hn0 : canB 0 (rowC 1 I) = false) (hO0 : frO I I0 [36, 37, 38, 40, 41, 43, 44]) (hl : nlR I0 (nearL (rowC 1 I))) :
    ∀ (m v : Nat) (I' : wI), v + m = 10 → (I' 36 5, I' 36 6) = tfL (rowC 1 I) (nearL (rowC 1 I)) v → frO I0 I' [36, 40, 41, 43, 44] → fr36 I0 I' [5, 6] →
    v_X2_search_38 36 1 (post_X2_search 36 1 I) (m + 1) (nI v) I'
  | m, v, I', e, hT, hO, h36 => by
    have hR := h0.1.1
    have hs : okW (secP (rowC 1 I)) := by rw [← (sec_at h0 h3).1]; exact okD_W (sec_at h0 h3).2
    have hx : okW (posP (rowC 1 I)) := by rw [← (now_at h0).1]; exact okD_W (now_at h0).2
    have hOI : frO I I' [36, 37, 38, 40, 41, 43, 44] := frO_trans hO0 hO (by decide) (by decide)
    show g_X2_search_38 ..
    unfold g_X2_search_38
    rw [l_10, i_le (by decide) (by omega)]
    refine ⟨fun c => ?_, fun c => ?_⟩
    · obtain rfl : v = 10 := by omega
      rw [tf_op hR h3 hn0 hs hx] at hT
      exact ⟨congrArg Prod.fst hT, congrArg Prod.snd hT, hOI⟩
    · obtain ⟨m, rfl⟩ : ∃ k, m = k + 1 := ⟨m - 1, by omega⟩
      have hX : frX I I' := frO_X hOI (by decide)
      obtain ⟨p1, p2⟩ := al_use h0 hX (show v < 10 by omega)
      refine ⟨p1, fun r1 h1 => ?_⟩
      rw [p2 r1 h1]
      unfold v_X2_search_58
      rw [i_s]
      cases ha : al (rowC 1 I) v
      · refine ⟨fun _ => ?_, fun q => absurd rfl q⟩
        refine vl_X2_search h0 h3 hn0 hO0 hl m (v + 1) I' (by omega) ?_ hO h36
        show _ = if al (rowC 1 I) v = true then _ else _
        rw [ha, if_neg Bool.false_ne_true]; exact hT
      · refine ⟨fun q => absurd q (by decide), fun _ => ?_⟩
        obtain ⟨ab, ok'⟩ := absC_frX h0 hX
        have eR : rowC 1 I' = rowC 1 I := congrFun ab 0
        have hfw := tf_fw (tf_all hR hs hx v (by omega))
        rw [← hT] at hfw
        have nl' : nlR I' (nearL (rowC 1 I)) := (nl_fr (h36 2 (by decide)) (hO 37 (by decide)) (hO 38 (by decide))).2 hl
        refine ⟨⟨rfl, rfl, ok', ⟨v, by omega, rfl⟩, hfw, _, nl'⟩, fun I2 h2 => ?_⟩
        obtain ⟨k1, k2, k3⟩ := h2
        refine vl_X2_search h0 h3 hn0 hO0 hl m (v + 1) I2 (by omega) ?_ (frO_trans hO k2 (by decide) (by decide)) (fr36_trans h36 k3 (by decide) (by decide))
        show _ = if al (rowC 1 I) v = true then tfS (rowC 1 I) (nearL (rowC 1 I)) v (tfL (rowC 1 I) (nearL (rowC 1 I)) v) else _
        have := k1 _ nl'
        rw [eR, i_nt (by omega), hT] at this
        rw [ha, if_pos rfl]; exact this
theorem vc_X2_search (k k1 : Nat) (I : wI) (hp : pre_X2_search k k1 I) : v_X2_search k k1 I (post_X2_search k k1 I) := by
  obtain ⟨rfl, rfl, h0⟩ := hp
  intro I1 q1 I2 q2
  have hO2 : frO I I2 [36] := fun c hc => by
    have : c ≠ 36 := fun q => hc (by rw [q]; decide)
    rw [q2, wU_ne this, q1, wU_ne this]
  have f5 : I2 36 5 = -1 := by rw [q2, wU_off (Or.inr (by decide)), q1, wU_at]
  have f6 : I2 36 6 = -1 := by rw [q2, wU_at]
  have e13 : I2 1 3 = I 1 3 := by rw [hO2 1 (by decide)]
  have hb : I 1 3 = 0 ∨ I 1 3 = 1 := h0.1.1.2.2.2.2.2.1
  obtain ⟨ab, ok2⟩ := absC_frX h0 (frO_X hO2 (by decide))
  have eR : rowC 1 I2 = rowC 1 I := congrFun ab 0
  have hO2' : frO I I2 [36, 37, 38, 40, 41, 43, 44] := frO_trans hO2 (frO_refl I2 []) (by decide) (by decide)
  rw [e13]
  refine ⟨fun n0 => ?_, fun y0 => ?_⟩
  · have h3 : I 1 3 = 1 := by
      rcases hb with h | h
      · exact absurd h n0
      · exact h
    have h36 : ¬ rowC 1 I 36 = 0 := n0
    refine ⟨trivial, fun r3 hr3 => ?_⟩
    unfold post_X3_opens at hr3
    rw [eR] at hr3
    by_cases c6 : aRt (rowC 1 I) = 6
    · rw [if_pos c6] at hr3
      rw [hr3]
      refine ⟨fun q => absurd q (by decide), fun _ I5 q5 => ?_⟩
      have hc : canB 0 (rowC 1 I) = true := decide_eq_true c6
      refine ⟨?_, ?_, fun c hc => ?_⟩
      · unfold aOp; rw [if_neg h36, hc, if_pos rfl, if_pos rfl, q5, wU_at]
      · unfold aOp; rw [if_neg h36, hc, if_pos rfl, if_neg (by decide), q5, wU_off (Or.inr (by decide)), f6]
      · rw [q5, wU_ne (fun q => hc (by rw [q]; decide))]; exact hO2' c hc
    · rw [if_neg c6] at hr3
      rw [hr3]
      have hc : canB 0 (rowC 1 I) = false := decide_eq_false c6
      refine ⟨fun _ => ⟨⟨rfl, rfl, ok2, by rw [e13]; exact h3⟩, fun I4 h4 => ?_⟩, fun q => absurd rfl q⟩
      obtain ⟨k1, k2, k3⟩ := h4
      rw [eR] at k1
      exact ⟨11, vl_X2_search h0 h3 hc (frO_trans hO2 k2 (by decide) (by decide)) k1 10 0 I4 rfl (by rw [k3 5 (by decide), k3 6 (by decide), f5, f6]; rfl) (frO_refl _ _) (fr36_refl _ _)⟩
  · have h36 : rowC 1 I 36 = 0 := y0
    refine ⟨?_, ?_, hO2'⟩
    · unfold aOp; rw [if_pos h36, f5]
    · unfold aOp; rw [if_pos h36, f6]
theorem vc_X5_openIn (x1 : Int32) (I : wI) (hp : pre_X5_openIn x1 I) : v_X5_openIn x1 I (post_X5_openIn x1 I) := by
  obtain ⟨h0, w, hw, rfl⟩ := hp
  unfold v_X5_openIn
  rw [l_1, i_le (by omega) (by decide), show (nI w = 0) = (w = 0) from i_eq (b := 0) (by omega) (by decide)]
  refine ⟨fun q => absurd q (nI_lt0 (by omega)), fun _ => ⟨fun _ => ⟨⟨rfl, rfl, h0⟩, fun I1 h1 => ?_⟩, fun q => absurd (by omega) q⟩⟩
  obtain ⟨g1, g2, g3⟩ := h1
  have hX := frO_X g3 (by decide)
  refine ⟨fun n0 => ⟨?_, hX⟩, fun y0 => ⟨?_, hX⟩⟩
  · rw [i_nt (by omega), show w = 1 by omega]; exact g2
  · rw [i_nt (by omega), y0]; exact g1
theorem vc_X5_openInx (x1 : Int32) (I : wI) (hp : pre_X5_openInx x1 I) : v_X5_openInx x1 I (exc_X5_openIn x1 I) := by
  obtain ⟨h0, hn⟩ := hp
  refine ⟨fun _ => ⟨frX_refl I, rfl⟩, fun e0 => ⟨fun e1 => absurd (isN_le (n := 1) (by decide) e0 e1) hn, fun _ => ⟨frX_refl I, rfl⟩⟩⟩
