/-! ===== the model's period ===== -/
theorem perU_300 {d : Nat → Nat} (n : Nat → Nat) (hp : pmF d) {k : Nat} (hk : k ≤ 6) : perU d n k ∣ 300 := (perU_iff d n 300 k).2 (fun p h => its_300 n hp (by omega))
theorem lcm_div {a b : Nat} : a / Nat.gcd a b * b = Nat.lcm a b := by
  show _ = a * b / Nat.gcd a b
  rw [Nat.mul_comm a b, Nat.mul_div_assoc b (Nat.gcd_dvd_left a b), Nat.mul_comm]
theorem vl_X6_period_29 {I : wI} (hR : okR (rowM I)) {Q : Int32 → Prop} {K4 : Int32 → Int32 → Prop} {K21 : Int32 → Int32 → Int32 → Int32 → Int32 → Int32 → Prop} {v1 v3 v4 : Int32} {p a w : Nat} (hp : p < 6) (ha : a < 6) (hw : w = plF (aD (rowM I)) a)
    (hK : K21 v1 (nI p) (v3 + 1) (v4 + nI (aN (rowM I) w)) (nI w) (if w = p then 0 else 1)) : ∀ (f t : Nat), t + f = w → v_X6_period_29 I Q K4 K21 (f + 1) v1 (nI p) v3 v4 (nI a) (nI t)
  | f, t, e => by
    have hpm := hR.2.1
    have hl : w < 6 := by rw [hw]; exact pl_lt hpm ha
    have hdw : aD (rowM I) w = a := by rw [hw]; exact pl_d hpm ha
    have ht : t < 6 := by omega
    have hd := okR_d hR t ht
    show g_X6_period_29 ..
    unfold g_X6_period_29 v_X6_period_82
    rw [show (0 : Int32) + nI t = nI t by rw [l_0, i_add, Nat.zero_add], show (6 : Int32) + nI t = nI (6 + t) by rw [l_6, i_add], i_cl (show t < 2147483648 by omega), i_cl (show 6 + t < 2147483648 by omega), mr_d hR ht, mr_n hR ht, i_eq (by omega) (by omega), i_eq (by omega) (by omega)]
    refine ⟨i_in (by omega) (by decide), fun z => ⟨i_in (by omega) (by decide), ?_⟩, fun z => ?_⟩
    · have et : t = w := by rw [hw]; exact pl_of hpm ht z
      subst et
      refine ⟨fun q => ?_, fun q => ?_⟩
      · rw [if_pos q] at hK; exact hK
      · rw [if_neg q] at hK; exact hK
    · have hne : t ≠ w := fun q => z (by rw [q]; exact hdw)
      obtain ⟨f, rfl⟩ : ∃ g, f = g + 1 := ⟨f - 1, by omega⟩
      rw [i_s]
      exact vl_X6_period_29 hR hp ha hw hK f (t + 1) (by omega)
theorem vl_X6_period_21 {I : wI} (hR : okR (rowM I)) {Q : Int32 → Prop} {K4 : Int32 → Int32 → Prop} {p L : Nat} (hp : p < 6) (hL : L = perU (aD (rowM I)) (aN (rowM I)) p)
    (hK : K4 (nI (perU (aD (rowM I)) (aN (rowM I)) (p + 1))) (nI (p + 1))) : ∀ (f j : Nat), j + f = cL (aD (rowM I)) p →
      v_X6_period_21 I Q K4 (f + 1) (nI L) (nI p) (nI j) (nI (sN (aD (rowM I)) (aN (rowM I)) p j)) (nI (orbM (aD (rowM I)) p j)) (if f = 0 then 0 else 1)
  | f, j, e => by
    have hpm := hR.2.1
    obtain ⟨c1, c2, c3, c4⟩ := cL_sp hpm hp
    have ho := orb_lt hpm hp j
    have hsn : sN (aD (rowM I)) (aN (rowM I)) p j ≤ j * 4 := sm_le (fun i _ => Nat.le_of_lt_succ (okR_n hR _ (orb_lt hpm hp (i + 1))))
    have h300 := perU_300 (aN (rowM I)) hpm (show p ≤ 6 by omega)
    have hLp : 0 < L := by rw [hL]; exact Nat.pos_of_dvd_of_pos h300 (by decide)
    have hLl : L ≤ 300 := by rw [hL]; exact Nat.le_of_dvd (by decide) h300
    cases f with
    | zero =>
      have ej : j = cL (aD (rowM I)) p := by omega
      have hcs : sN (aD (rowM I)) (aN (rowM I)) p j = cS (aD (rowM I)) (aN (rowM I)) p := by rw [ej]; rfl
      have fin : ∀ t, t = itsF (aD (rowM I)) (aN (rowM I)) p → v_X6_period_101 I Q K4 (nI L) (nI p) (nI t) := by
        intro t ht
        have hti := its_300 (aN (rowM I)) hpm hp
        have htl : t ≤ 300 := by rw [ht]; exact Nat.le_of_dvd (by decide) hti
        have htp : 0 < t := by rw [ht]; exact its_pos _ hpm hp
        refine ⟨⟨⟨L, by omega, rfl⟩, t, by omega, rfl⟩, fun r1 h1 => ?_⟩
        unfold post_X6_common at h1
        rw [i_nt (by omega), i_nt (by omega)] at h1
        have hg : 0 < Nat.gcd L t := Nat.gcd_pos_of_pos_left _ hLp
        have hg2 : Nat.gcd L t ≤ L := Nat.gcd_le_left _ hLp
        subst h1
        rw [l_0, i_eq (by omega) (by decide), i_div (by omega) hg (by omega), i_mul, i_s, lcm_div, hL, ht]
        exact ⟨by rw [← hL, ← ht]; omega, hK⟩
      refine ⟨fun _ => ?_, fun h => absurd rfl h⟩
      rw [l_5, i_rem (by omega) (by decide) (by decide), l_0, i_eq (Nat.lt_trans (Nat.mod_lt _ (by decide)) (by decide)) (by decide), i_mul, hcs]
      refine ⟨fun z => fin _ ?_, fun z => fin _ ?_⟩
      · unfold itsF; rw [if_neg z, ej]
      · unfold itsF; rw [if_pos z, ej]
    | succ f =>
      refine ⟨fun h => absurd h (by rw [if_neg (by omega)]; decide), fun _ => ⟨plF (aD (rowM I)) (orbM (aD (rowM I)) p j) + 1, ?_⟩⟩
      have ih := vl_X6_period_21 hR (Q := Q) hp hL hK f (j + 1) (by omega)
      refine vl_X6_period_29 hR hp ho rfl ?_ _ 0 (by omega)
      rw [i_s, i_add]
      have e1 : sN (aD (rowM I)) (aN (rowM I)) p j + aN (rowM I) (plF (aD (rowM I)) (orbM (aD (rowM I)) p j)) = sN (aD (rowM I)) (aN (rowM I)) p (j + 1) := rfl
      rw [e1, ← orb_s]
      have e2 : (if orbM (aD (rowM I)) p (j + 1) = p then (0 : Int32) else 1) = if f = 0 then 0 else 1 := by
        by_cases hf : f = 0
        · rw [if_pos hf, if_pos (by rw [show j + 1 = cL (aD (rowM I)) p by omega]; exact c3)]
        · rw [if_neg hf, if_neg (c4 (j + 1) (by omega) (by omega))]
      rw [e2]; exact ih
theorem vl_X6_period_4 {I : wI} (hR : okR (rowM I)) : ∀ (m p : Nat), p + m = 6 → v_X6_period_4 I (post_X6_period I) (m + 1) (nI (perU (aD (rowM I)) (aN (rowM I)) p)) (nI p)
  | 0, p, e => by
    obtain rfl : p = 6 := by omega
    exact ⟨fun _ => rfl, fun h => absurd (Int32.le_refl _) h⟩
  | m + 1, p, e => by
    have hp : p < 6 := by omega
    have c1 := (cL_sp hR.2.1 hp).1
    refine ⟨fun h => absurd h (by simp (disch := omega) only [i_le, i_lt, i_eq, i_add, i_sub, i_mul, i_and31, i_and1, i_shl1, i_shr, nI_or, i_cl, i_inP, i_nt, l_0, l_1, l_2, l_3, l_4, l_5, l_6, l_7, l_8, l_9, l_10, l_12, l_18, l_23, l_25, l_28, l_30, l_31, l_33, l_34, l_35, l_36, l_37, l_40, l_41, l_43, l_44, l_48, l_49, l_50, l_57, l_60, l_63, l_64, l_65, l_69, l_91, l_93, l_97, l_101, l_111, l_125, l_126, l_245, l_294, l_500, l_501, l_9999, l_1000000]; omega), fun _ => ⟨cL (aD (rowM I)) p + 1, ?_⟩⟩
    have := vl_X6_period_21 hR (Q := post_X6_period I) hp rfl (vl_X6_period_4 hR m (p + 1) (by omega)) (cL (aD (rowM I)) p) 0 (by omega)
    rw [if_neg (by omega)] at this
    exact this
theorem vc_X6_period (I : wI) (hp : pre_X6_period I) : v_X6_period I (post_X6_period I) := ⟨7, vl_X6_period_4 hp 6 0 rfl⟩
/-! ===== trials of the model ===== -/
theorem frT_back {I I1 I2 I3 : wI} (h1 : post_X6_putAside I I1) (h2 : fr1 I1 I2) (h3 : post_X6_putBack I2 I3) : frT I I3 := by
  obtain ⟨a1, a2⟩ := h1
  obtain ⟨b1, b2⟩ := h2
  obtain ⟨c1, c2, c3⟩ := h3
  have e : ∀ c, c ≠ 112 → c ≠ 113 → c ≠ 117 → I3 c = I c := fun c x y z => by rw [c3 c x, b1 c x z, a2 c y]
  have e112 : I3 112 = I 112 := by
    funext j
    by_cases c : j < 49
    · rw [c1 j c, b1 113 (by decide) (by decide), a1 j c]
    · rw [c2 j (by omega), b2 j (by omega), a2 112 (by decide)]
  have e111 := e 111 (by decide) (by decide) (by decide)
  refine ⟨⟨fun c hc => ?_, by rw [e111], by rw [e111], by rw [e111]⟩, by rw [e111]⟩
  by_cases c' : c = 112
  · rw [c', e112]
  · exact e c c' (by omega) (by omega)
theorem fr1_trans {I I1 I2 : wI} (h : fr1 I I1) (h2 : fr1 I1 I2) : fr1 I I2 := ⟨fun c a b => by rw [h2.1 c a b, h.1 c a b], fun j hj => by rw [h2.2 j hj, h.2 j hj]⟩
theorem aside_row {I I1 : wI} (h : post_X6_putAside I I1) : rowM I1 = rowM I := mrow_fr (h.2 112 (by decide))
theorem aM_Fst (a : Nat → Int32) (c : Nat) : aM (aFst a) c = aM a c := by unfold aM; rw [aFst_o (by omega)]
theorem aS_Fst (a : Nat → Int32) (c : Nat) : aS (aFst a) c = aS a c := by unfold aS; rw [aFst_o (by omega)]
theorem aM_Tr (a : Nat → Int32) (v c : Nat) : aM (aTr a v) c = aM a c := by unfold aM; rw [aTr_o (by omega)]
theorem aS_Tr (a : Nat → Int32) (v c : Nat) : aS (aTr a v) c = aS a c := by unfold aS; rw [aTr_o (by omega)]
theorem wD_cong {a b : Nat → Int32} (h : ∀ c, aM a c = aM b c) : ∀ (l : List Nat) (d : Nat → Nat), wD a l d = wD b l d
  | [], _ => rfl
  | v :: l, d => by
    show wD a l (mvD (aM a (v % 5)) (v / 5) d) = wD b l (mvD (aM b (v % 5)) (v / 5) d)
    rw [h, wD_cong h l]
theorem wN_cong {a b : Nat → Int32} (h : ∀ c, aM a c = aM b c) (h2 : ∀ c, aS a c = aS b c) : ∀ (l : List Nat) (d : Nat → Nat), wN a l d = wN b l d
  | [], _ => rfl
  | v :: l, d => by
    show wN a l (mvN (aM a (v % 5)) (aS a (v % 5)) (v / 5) d) = wN b l (mvN (aM b (v % 5)) (aS b (v % 5)) (v / 5) d)
    rw [h, h2, wN_cong h h2 l]
/-- turns, one behind the other -/
def trL (a : Nat → Int32) : List Nat → Nat → Int32
  | [] => a
  | v :: l => trL (aTr a v) l
theorem trL_ok : ∀ (l : List Nat) (a : Nat → Int32), okR a → (∀ v, v ∈ l → v < 10) → okR (trL a l) ∧ aD (trL a l) = wD a l (aD a) ∧ aN (trL a l) = wN a l (aN a)
  | [], a, h, _ => ⟨h, rfl, rfl⟩
  | v :: l, a, h, hl => by
    have hv := hl v List.mem_cons_self
    obtain ⟨h1, h2, h3⟩ := trL_ok l (aTr a v) (okR_aTr h hv) (fun u hu => hl u (List.mem_cons_of_mem _ hu))
    refine ⟨h1, ?_, ?_⟩
    · show aD (trL (aTr a v) l) = wD a l (mvD (aM a (v % 5)) (v / 5) (aD a))
      rw [h2, aD_aTr h hv, wD_cong (fun c => aM_Tr a v c)]
    · show aN (trL (aTr a v) l) = wN a l (mvN (aM a (v % 5)) (aS a (v % 5)) (v / 5) (aN a))
      rw [h3, aN_aTr h, wN_cong (fun c => aM_Tr a v c) (fun c => aS_Tr a v c)]
theorem aD_Fst (a : Nat → Int32) : aD (aFst a) = idF := by
  funext p; unfold aD idF
  split
  · rename_i h; rw [aFst_d h, i_nt (by omega)]
  · rfl
theorem aN_Fst (a : Nat → Int32) : aN (aFst a) = zF := by
  funext p; unfold aN zF
  split
  · rename_i h; rw [aFst_n h]; rfl
  · rfl
theorem okR_Fst {a : Nat → Int32} (h : okR a) : okR (aFst a) := by
  refine okR_of h (fun p hp => ?_) (by rw [aD_Fst]; exact idF_pm) (fun j h1 _ => aFst_o h1) (by rw [aFst_o (by omega)]; exact h.2.2.2.2.1)
  rw [aD_Fst, aN_Fst, aFst_d hp, aFst_n hp]
  exact ⟨⟨by unfold idF; rw [if_pos hp], idF_lt hp⟩, rfl, by show 0 < 5; decide⟩
/-- what a word does, seen on the row -/
theorem trL_first {a : Nat → Int32} (h : okR a) {l : List Nat} (hl : ∀ v, v ∈ l → v < 10) : okR (trL (aFst a) l) ∧ aD (trL (aFst a) l) = wD a l idF ∧ aN (trL (aFst a) l) = wN a l zF := by
  obtain ⟨h1, h2, h3⟩ := trL_ok l (aFst a) (okR_Fst h) hl
  exact ⟨h1, by rw [h2, aD_Fst, wD_cong (fun c => aM_Fst a c)], by rw [h3, aN_Fst, wN_cong (fun c => aM_Fst a c) (fun c => aS_Fst a c)]⟩
theorem vc_X6_keyPeriod (x1 : Int32) (I : wI) (hp : pre_X6_keyPeriod x1 I) : v_X6_keyPeriod x1 I (post_X6_keyPeriod x1 I) := by
  obtain ⟨hR, c, hc, rfl⟩ := hp
  refine ⟨trivial, fun I1 h1 => ⟨trivial, fun I2 h2 => ?_⟩⟩
  have e2 : rowM I2 = aFst (rowM I) := by rw [h2.1, aside_row h1]
  refine ⟨⟨by rw [e2]; exact okR_Fst hR, c, by omega, rfl⟩, fun I3 h3 => ?_⟩
  obtain ⟨m1, m2⟩ := h3
  rw [i_nt (by omega), e2] at m1
  have k := trL_first hR (l := [c]) (fun v hv => by rw [List.mem_singleton] at hv; omega)
  rw [show trL (aFst (rowM I)) [c] = aTr (aFst (rowM I)) c from rfl, ← m1] at k
  refine ⟨k.1, fun r4 h4 => ⟨trivial, fun I5 h5 => ?_⟩⟩
  unfold post_X6_period at h4
  rw [k.2.1, k.2.2] at h4
  unfold post_X6_keyPeriod
  rw [i_nt (by omega)]
  exact ⟨h4, frT_back h1 (fr1_trans h2.2 m2) h5⟩
theorem frT_refl (I : wI) : frT I I := ⟨frS_refl I, rfl⟩
theorem vc_X6_keyNow (x1 x2 : Int32) (I : wI) (hp : pre_X6_keyNow x1 x2 I) : v_X6_keyNow x1 x2 I (post_X6_keyNow x1 x2 I) := by
  obtain ⟨hR, ⟨c, hc, rfl⟩, w, hw, rfl⟩ := hp
  unfold v_X6_keyNow v_X6_keyNow_75 v_X6_keyNow_56 post_X6_keyNow aKey
  rw [i_nt (show c < 2147483648 by omega), i_nt (show w < 2147483648 by omega), show (18 : Int32) + nI c = nI (18 + c) by rw [l_18, i_add], show (23 : Int32) + nI c = nI (23 + c) by rw [l_23, i_add], show (28 : Int32) + nI c = nI (28 + c) by rw [l_28, i_add], i_cl (show 18 + c < 2147483648 by omega), i_cl (show 23 + c < 2147483648 by omega), i_cl (show 28 + c < 2147483648 by omega), mrev I _ (show 18 + c < 49 by omega), mrev I _ (show 23 + c < 49 by omega), mrev I _ (show 28 + c < 49 by omega)]
  refine ⟨fun h => ?_, fun h => ?_, fun h => ?_, fun h => ?_, fun h => ?_, fun h => ?_⟩
  · obtain rfl : w = 0 := nI_inj (by omega) (by decide) h
    exact ⟨i_in (by omega) (by decide), rfl, frT_refl I⟩
  · obtain rfl : w = 1 := nI_inj (by omega) (by decide) h
    exact ⟨i_in (by omega) (by decide), rfl, frT_refl I⟩
  · obtain rfl : w = 2 := nI_inj (by omega) (by decide) h
    refine ⟨⟨hR, c, hc, rfl⟩, fun r1 I2 h2 => ?_⟩
    unfold post_X6_keyPeriod at h2
    rw [i_nt (by omega)] at h2
    exact h2
  · obtain rfl : w = 3 := nI_inj (by omega) (by decide) h
    refine ⟨⟨hR, c, hc, rfl⟩, fun r1 I2 h2 => ?_⟩
    unfold post_X6_keyPeriod at h2
    rw [i_nt (by omega)] at h2
    exact h2
  · obtain rfl : w = 4 := nI_inj (by omega) (by decide) h
    refine ⟨⟨hR, c, hc, rfl⟩, fun r1 h1 => ?_⟩
    unfold post_X6_isStuck at h1
    rw [i_nt (by omega)] at h1
    rw [if_neg (by decide), if_neg (by decide), if_neg (by decide), if_pos rfl]
    cases e : aStk (rowM I) c
    · rw [e] at h1
      exact ⟨fun _ => ⟨rfl, frT_refl I⟩, fun z => absurd h1 z⟩
    · rw [e] at h1
      exact ⟨fun z => by rw [h1] at z; exact absurd z (by decide), fun _ => ⟨rfl, frT_refl I⟩⟩
  · obtain rfl : w = 5 := by
      have : w = 0 ∨ w = 1 ∨ w = 2 ∨ w = 3 ∨ w = 4 ∨ w = 5 := by omega
      rcases this with rfl | rfl | rfl | rfl | rfl | rfl
      · exact absurd rfl h.1
      · exact absurd rfl h.2.1
      · exact absurd rfl h.2.2.1
      · exact absurd rfl h.2.2.2.1
      · exact absurd rfl h.2.2.2.2
      · rfl
    exact ⟨i_in (by omega) (by decide), rfl, frT_refl I⟩
theorem vc_X6_key (x1 x2 : Int32) (I : wI) (hp : pre_X6_key x1 x2 I) : v_X6_key x1 x2 I (post_X6_key x1 x2 I) := by
  have h0 : okM I := hp
  have e5 := in_iff (n := 5) (x := x2) (by decide)
  refine ⟨trivial, fun r1 h1 => ?_⟩
  rcases h1 with ⟨hk, rfl⟩ | ⟨hk, rfl⟩
  · refine ⟨fun _ => ⟨trivial, fun r2 h2 => ?_⟩, fun h => absurd h (by decide)⟩
    rcases h2 with ⟨hs, rfl⟩ | ⟨hs, rfl⟩
    · refine ⟨fun h => absurd h (by decide), fun _ I1 q1 => ?_⟩
      obtain ⟨e0, hS, eR⟩ := thr_use q1
      rw [e0]
      refine ⟨fun _ => ⟨⟨by rw [eR]; exact h0.1, hk, e5.1 hs⟩, fun r2 I3 h2 => ?_⟩, fun h => absurd (Int32.le_refl _) h⟩
      unfold post_X6_keyNow at h2
      rw [eR] at h2
      exact Or.inl ⟨⟨hk, e5.1 hs⟩, ⟨by rw [h2.2.2, e0], frS_trans hS h2.2.1⟩, h2.1⟩
    · refine ⟨fun _ I1 q1 => ?_, fun h => absurd rfl h⟩
      obtain ⟨e0, hS, eR⟩ := thr_use q1
      rw [e0]
      exact ⟨fun h => absurd h (by decide), fun _ => Or.inr (Or.inr ⟨hk, fun q => hs (e5.2 q), thr_fin q1⟩)⟩
  · refine ⟨fun h => absurd rfl h, fun _ I1 q1 => ?_⟩
    obtain ⟨e0, hS, eR⟩ := thr_use q1
    rw [e0]
    exact ⟨fun h => absurd h (by decide), fun _ => Or.inr (Or.inl ⟨hk, thr_fin q1⟩)⟩
theorem vc_X6_pairNow (x1 x2 x3 : Int32) (I : wI) (hp : pre_X6_pairNow x1 x2 x3 I) : v_X6_pairNow x1 x2 x3 I (post_X6_pairNow x1 x2 x3 I) := by
  obtain ⟨hR, ⟨⟨c, hc, rfl⟩, c2, hc2, rfl⟩, w, hw, rfl⟩ := hp
  refine ⟨trivial, fun I1 h1 => ⟨trivial, fun I2 h2 => ?_⟩⟩
  have e2 : rowM I2 = aFst (rowM I) := by rw [h2.1, aside_row h1]
  have R2 := okR_Fst hR
  refine ⟨⟨by rw [e2]; exact R2, c, by omega, rfl⟩, fun I3 h3 => ?_⟩
  obtain ⟨e3, m3⟩ := h3
  rw [i_nt (by omega), e2] at e3
  have R3 := okR_aTr R2 (show c < 10 by omega)
  refine ⟨⟨by rw [e3]; exact R3, c2, by omega, rfl⟩, fun I4 h4 => ?_⟩
  obtain ⟨e4, m4⟩ := h4
  rw [i_nt (by omega), e3] at e4
  have R4 := okR_aTr R3 (show c2 < 10 by omega)
  refine ⟨⟨by rw [e4]; exact R4, 5 + c, by omega, by rw [l_5, i_add]⟩, fun I5 h5 => ?_⟩
  obtain ⟨e5, m5'⟩ := h5
  rw [l_5, i_add, i_nt (by omega), e4] at e5
  have R5 := okR_aTr R4 (show 5 + c < 10 by omega)
  refine ⟨⟨by rw [e5]; exact R5, 5 + c2, by omega, by rw [l_5, i_add]⟩, fun I6 h6 => ?_⟩
  obtain ⟨e6, m6⟩ := h6
  rw [l_5, i_add, i_nt (by omega), e5] at e6
  have k := trL_first hR (prL_lt hc hc2)
  rw [show trL (aFst (rowM I)) (prL c c2) = aTr (aTr (aTr (aTr (aFst (rowM I)) c) c2) (5 + c)) (5 + c2) from rfl, ← e6] at k
  have hF := fr1_trans (fr1_trans (fr1_trans (fr1_trans h2.2 m3) m4) m5') m6
  refine ⟨k.1, fun r7 h7 => ?_⟩
  unfold post_X6_reach aRc at h7
  rw [k.2.1, k.2.2] at h7
  have hl := rcF_lt (wD (rowM I) (prL c c2) idF) (wN (rowM I) (prL c c2) zF)
  unfold v_X6_pairNow_82 post_X6_pairNow aOf
  rw [i_nt (by omega), i_nt (by omega), i_nt (by omega)]
  refine ⟨fun n0 => ⟨fun n1 => ⟨fun n4 => ⟨k.1, fun r8 h8 => ⟨trivial, fun I7 h => ⟨?_, frT_back h1 hF h⟩⟩⟩, fun z4 => ⟨fun nz => ⟨trivial, fun I7 h => ⟨?_, frT_back h1 hF h⟩⟩, fun z => ⟨trivial, fun I7 h => ⟨?_, frT_back h1 hF h⟩⟩⟩⟩, fun z1 => ⟨⟨_, hl, h7⟩, fun r9 h9 => ⟨trivial, fun I7 h => ⟨?_, frT_back h1 hF h⟩⟩⟩⟩, fun z0 => ⟨trivial, fun I7 h => ⟨?_, frT_back h1 hF h⟩⟩⟩
  · unfold post_X6_period at h8
    rw [k.2.1, k.2.2] at h8
    have g0 : w ≠ 0 := fun q => n0 (by rw [q]; rfl)
    have g1 : w ≠ 1 := fun q => n1 (by rw [q]; rfl)
    have g4 : w ≠ 4 := fun q => n4 (by rw [q]; rfl)
    rw [if_neg g0, if_neg g1, if_pos (by omega)]; exact h8
  · obtain rfl : w = 4 := nI_inj (by omega) (by decide) z4
    rw [h7, l_0, i_eq (by omega) (by decide)] at nz
    rw [if_neg (by decide), if_neg (by decide), if_neg (by decide), if_neg nz]
  · obtain rfl : w = 4 := nI_inj (by omega) (by decide) z4
    rw [h7, l_0, i_eq (by omega) (by decide)] at z
    rw [if_neg (by decide), if_neg (by decide), if_neg (by decide), if_pos z]
  · obtain rfl : w = 1 := nI_inj (by omega) (by decide) z1
    unfold post_X6_ones at h9
    rw [h7, i_nt (by omega)] at h9
    exact h9
  · obtain rfl : w = 0 := nI_inj (by omega) (by decide) z0
    exact h7
theorem vc_X6_pair (x1 x2 x3 : Int32) (I : wI) (hp : pre_X6_pair x1 x2 x3 I) : v_X6_pair x1 x2 x3 I (post_X6_pair x1 x2 x3 I) := by
  have h0 : okM I := hp
  have e4 := in_iff (n := 4) (x := x3) (by decide)
  have t1 : ¬ (isN 5 x1 ∧ isN 5 x2) → v_X6_pair_15 x1 x2 x3 (post_X6_pair x1 x2 x3 I) I := by
    intro hn I1 q1
    obtain ⟨e0, hS, eR⟩ := thr_use q1
    rw [e0]
    exact ⟨fun h => absurd h (by decide), fun _ => Or.inr (Or.inl ⟨hn, thr_fin q1⟩)⟩
  refine ⟨trivial, fun r1 h1 => ?_⟩
  rcases h1 with ⟨hk, rfl⟩ | ⟨hk, rfl⟩
  · refine ⟨fun h => absurd h (by decide), fun _ => ⟨trivial, fun r2 h2 => ?_⟩⟩
    rcases h2 with ⟨hk2, rfl⟩ | ⟨hk2, rfl⟩
    · refine ⟨fun _ => ⟨trivial, fun r3 h3 => ?_⟩, fun h => absurd h (by decide)⟩
      rcases h3 with ⟨hs, rfl⟩ | ⟨hs, rfl⟩
      · refine ⟨fun h => absurd h (by decide), fun _ I1 q1 => ?_⟩
        obtain ⟨e0, hS, eR⟩ := thr_use q1
        rw [e0]
        refine ⟨fun _ => ⟨⟨by rw [eR]; exact h0.1, ⟨hk, hk2⟩, e4.1 hs⟩, fun r2 I3 h2 => ?_⟩, fun h => absurd (Int32.le_refl _) h⟩
        unfold post_X6_pairNow at h2
        rw [eR] at h2
        exact Or.inl ⟨⟨⟨hk, hk2⟩, e4.1 hs⟩, ⟨by rw [h2.2.2, e0], frS_trans hS h2.2.1⟩, h2.1⟩
      · refine ⟨fun _ I1 q1 => ?_, fun h => absurd rfl h⟩
        obtain ⟨e0, hS, eR⟩ := thr_use q1
        rw [e0]
        exact ⟨fun h => absurd h (by decide), fun _ => Or.inr (Or.inr ⟨⟨hk, hk2⟩, fun q => hs (e4.2 q), thr_fin q1⟩)⟩
    · exact ⟨fun h => absurd rfl h, fun _ => t1 (fun q => hk2 q.2)⟩
  · exact ⟨fun _ => t1 (fun q => hk q.1), fun h => absurd rfl h⟩
theorem vc_X6_rightIf (x1 x2 : Int32) (I : wI) (hp : pre_X6_rightIf x1 x2 I) : v_X6_rightIf x1 x2 I (post_X6_rightIf x1 x2 I) := by
  obtain ⟨hR, ⟨c, hc, rfl⟩, b, hb, rfl⟩ := hp
  refine ⟨trivial, fun I1 h1 => ?_⟩
  have e1 := aside_row h1
  have hv : 5 * b + c < 10 := by omega
  rw [l_5, i_mul, i_add]
  refine ⟨⟨by rw [e1]; exact hR, _, hv, rfl⟩, fun I2 h2 => ?_⟩
  obtain ⟨e2, m2⟩ := h2
  rw [i_nt (by omega), e1] at e2
  refine ⟨by rw [pre_X6_right, e2]; exact okR_aTr hR hv, fun r3 h3 => ⟨trivial, fun I4 h4 => ?_⟩⟩
  unfold post_X6_right at h3
  rw [e2] at h3
  unfold post_X6_rightIf
  rw [i_nt (by omega), i_nt (by omega)]
  exact ⟨h3, frT_back h1 m2 h4⟩
theorem vc_X6_ifTurned (x1 x2 : Int32) (I : wI) (hp : pre_X6_ifTurned x1 x2 I) : v_X6_ifTurned x1 x2 I (post_X6_ifTurned x1 x2 I) := by
  have h0 : okM I := hp
  have e1 := in_iff (n := 1) (x := x2) (by decide)
  refine ⟨trivial, fun r1 h1 => ?_⟩
  rcases h1 with ⟨hk, rfl⟩ | ⟨hk, rfl⟩
  · refine ⟨fun _ => ⟨trivial, fun r2 h2 => ?_⟩, fun h => absurd h (by decide)⟩
    rcases h2 with ⟨hs, rfl⟩ | ⟨hs, rfl⟩
    · refine ⟨fun h => absurd h (by decide), fun _ I1 q1 => ?_⟩
      obtain ⟨e0, hS, eR⟩ := thr_use q1
      rw [e0]
      refine ⟨fun _ => ⟨⟨by rw [eR]; exact h0.1, hk, e1.1 hs⟩, fun r2 I3 h2 => ?_⟩, fun h => absurd (Int32.le_refl _) h⟩
      unfold post_X6_rightIf at h2
      rw [eR] at h2
      exact Or.inl ⟨⟨hk, e1.1 hs⟩, ⟨by rw [h2.2.2, e0], frS_trans hS h2.2.1⟩, h2.1⟩
    · refine ⟨fun _ I1 q1 => ?_, fun h => absurd rfl h⟩
      obtain ⟨e0, hS, eR⟩ := thr_use q1
      rw [e0]
      exact ⟨fun h => absurd h (by decide), fun _ => Or.inr (Or.inr ⟨hk, fun q => hs (e1.2 q), thr_fin q1⟩)⟩
  · refine ⟨fun h => absurd rfl h, fun _ I1 q1 => ?_⟩
    obtain ⟨e0, hS, eR⟩ := thr_use q1
    rw [e0]
    exact ⟨fun h => absurd h (by decide), fun _ => Or.inr (Or.inl ⟨hk, thr_fin q1⟩)⟩
theorem frT_trans {I I1 I2 : wI} (h : frT I I1) (h2 : frT I1 I2) : frT I I2 := ⟨frS_trans h.1 h2.1, by rw [h2.2, h.2]⟩
theorem frT_row {I I1 : wI} (h : frT I I1) : rowM I1 = rowM I := frS_row h.1
theorem vl_X6_findClosest_17 {I : wI} (hR : okR (rowM I)) (Q : Int32 → wI → Prop) (K : Int32 → Int32 → Int32 → wI → Prop) {f : Nat} (hf : f < 5) (hK : ∀ I', frT I I' → K (clS (rowM I) (5 * (f + 1))).1 (nI (clS (rowM I) (5 * (f + 1))).2) (nI (f + 1)) I') :
    ∀ (m j : Nat) (I' : wI), j + m = 5 → f < j → frT I I' → v_X6_findClosest_17 Q K (m + 1) (clS (rowM I) (5 * f + j)).1 (nI (clS (rowM I) (5 * f + j)).2) (nI f) (nI j) I'
  | 0, j, I', e, hj, hX => by
    obtain rfl : j = 5 := by omega
    refine ⟨fun _ => ?_, fun h => absurd (Int32.le_refl _) h⟩
    rw [i_s]
    exact hK I' hX
  | m + 1, j, I', e, hj, hX => by
    have er := frT_row hX
    refine ⟨fun h => absurd h (by simp (disch := omega) only [i_le, i_lt, i_eq, i_add, i_sub, i_mul, i_and31, i_and1, i_shl1, i_shr, nI_or, i_cl, i_inP, i_nt, l_0, l_1, l_2, l_3, l_4, l_5, l_6, l_7, l_8, l_9, l_10, l_12, l_18, l_23, l_25, l_28, l_30, l_31, l_33, l_34, l_35, l_36, l_37, l_40, l_41, l_43, l_44, l_48, l_49, l_50, l_57, l_60, l_63, l_64, l_65, l_69, l_91, l_93, l_97, l_101, l_111, l_125, l_126, l_245, l_294, l_500, l_501, l_9999, l_1000000]; omega), fun _ => ⟨⟨by rw [er]; exact hR, ⟨⟨f, hf, rfl⟩, j, by omega, rfl⟩, 1, by decide, rfl⟩, fun r1 I2 h2 => ?_⟩⟩
    unfold post_X6_pairNow at h2
    rw [i_nt (by omega), i_nt (by omega), er, show nt (1 : Int32) = 1 from rfl] at h2
    obtain ⟨h2, hX2⟩ := h2
    have gX := frT_trans hX hX2
    have eM : clM (rowM I) (5 * f + j) = pc6 (rcF (wD (rowM I) (prL f j) idF) (wN (rowM I) (prL f j) zF)) := by
      unfold clM; rw [show (5 * f + j) / 5 = f by omega, show (5 * f + j) % 5 = j by omega]
    have h3 : r1 = nI (clM (rowM I) (5 * f + j)) := by rw [h2, eM]; rfl
    have hM : clM (rowM I) (5 * f + j) ≤ 6 := by rw [eM]; exact pc6_le _
    have ih := vl_X6_findClosest_17 hR Q K hf hK m (j + 1) I2 (by omega) (by omega) gX
    rw [show 5 * f + (j + 1) = 5 * f + j + 1 by omega, clS_s] at ih
    have h7 := clS_le (rowM I) (5 * f + j)
    subst h3
    unfold v_X6_findClosest_49
    rw [i_le (by omega) (by omega), i_s]
    refine ⟨fun c => ?_, fun c => ?_⟩
    · rw [if_neg (by omega)] at ih; exact ih
    · rw [if_pos (by omega)] at ih
      rw [l_5, i_mul, i_add]; exact ih
theorem vl_X6_findClosest_7 {I : wI} (hR : okR (rowM I)) : ∀ (m f : Nat) (I' : wI), f + m = 5 → frT I I' → v_X6_findClosest_7 (post_X6_findClosest I) (m + 1) (clS (rowM I) (5 * f)).1 (nI (clS (rowM I) (5 * f)).2) (nI f) I'
  | 0, f, I', e, hX => by
    obtain rfl : f = 5 := by omega
    exact ⟨fun _ => ⟨rfl, hX⟩, fun h => absurd (Int32.le_refl _) h⟩
  | m + 1, f, I', e, hX => by
    refine ⟨fun h => absurd h (by simp (disch := omega) only [i_le, i_lt, i_eq, i_add, i_sub, i_mul, i_and31, i_and1, i_shl1, i_shr, nI_or, i_cl, i_inP, i_nt, l_0, l_1, l_2, l_3, l_4, l_5, l_6, l_7, l_8, l_9, l_10, l_12, l_18, l_23, l_25, l_28, l_30, l_31, l_33, l_34, l_35, l_36, l_37, l_40, l_41, l_43, l_44, l_48, l_49, l_50, l_57, l_60, l_63, l_64, l_65, l_69, l_91, l_93, l_97, l_101, l_111, l_125, l_126, l_245, l_294, l_500, l_501, l_9999, l_1000000]; omega), fun _ => ⟨5 - (f + 1) + 1, ?_⟩⟩
    rw [i_s]
    have := vl_X6_findClosest_17 hR (post_X6_findClosest I) (v_X6_findClosest_7 (post_X6_findClosest I) (m + 1)) (f := f) (by omega) (fun I'' hX' => vl_X6_findClosest_7 hR m (f + 1) I'' (by omega) hX') (5 - (f + 1)) (f + 1) I' (by omega) (by omega) hX
    rw [clS_skip _ (by omega) (f + 1) (Nat.le_refl _) (by omega)] at this
    exact this
theorem vc_X6_findClosest (I : wI) (hp : pre_X6_findClosest I) : v_X6_findClosest I (post_X6_findClosest I) := ⟨6, vl_X6_findClosest_7 hp 5 0 I rfl (frT_refl I)⟩
theorem vc_X6_closest (I : wI) (hp : pre_X6_closest I) : v_X6_closest I (post_X6_closest I) := by
  have h0 : okM I := hp
  intro I1 q1
  obtain ⟨e0, hS, eR⟩ := thr_use q1
  refine ⟨by rw [pre_X6_findClosest, eR]; exact h0.1, fun r2 I3 h2 => ?_⟩
  unfold post_X6_findClosest at h2
  rw [eR] at h2
  exact ⟨h2.1, by rw [h2.2.2, e0], frS_trans hS h2.2.1⟩
