theorem bits_zero (q : Nat → Bool) : ∀ n, bits q n = 0 ↔ ∀ p, p < n → q p = false
  | 0 => ⟨fun _ p hp => absurd hp (Nat.not_lt_zero _), fun _ => rfl⟩
  | n + 1 => by
    have e : bits q (n + 1) = bits q n + (if q n then 2 ^ n else 0) := rfl
    have h2 : 0 < 2 ^ n := Nat.pow_pos (by decide)
    rw [e]
    constructor
    · intro h p hp
      by_cases c : p = n
      · subst c
        cases hq : q p
        · rfl
        · rw [hq, if_pos rfl] at h; omega
      · exact (bits_zero q n).1 (by omega) p (by omega)
    · intro h
      rw [h n (by omega), (bits_zero q n).2 (fun p hp => h p (by omega))]
      rfl
theorem rcF_zero (d n : Nat → Nat) : rcF d n = 0 ↔ ∀ p, p < 6 → d p = p ∧ n p = 0 := by
  unfold rcF
  rw [bits_zero]
  constructor
  · intro h p hp
    have := of_decide_eq_false (h p hp)
    constructor
    · apply Decidable.byContradiction; intro e; exact this (Or.inl e)
    · apply Decidable.byContradiction; intro e; exact this (Or.inr e)
  · intro h p hp
    obtain ⟨h1, h2⟩ := h p hp
    exact decide_eq_false (fun q => by rcases q with q | q <;> contradiction)
theorem vl_X5_periodByDoing {I : wI} (hD : okD I 30) (hp : pmF (dsc I 30)) : ∀ (m t : Nat) (I' : wI), t + m = perF (dsc I 30) (ntc I 30) → 1 ≤ t → (∀ p, p < 6 → I' 34 p = nI (itD (dsc I 30) t p) ∧ I' 35 p = nI (itN (dsc I 30) (ntc I 30) t p % 5)) → fr2 I I' 34 35 →
    v_X5_periodByDoing_13 (post_X5_periodByDoing I) (m + 1) (nI t) I'
  | m, t, I', e, h1, h, hf => by
    have hd : ∀ p, p < 6 → dsc I 30 p < 6 := fun p hp => (hD p hp).1.2
    have h300 := perF_le (ntc I 30) hp
    have hdl : ∀ p, p < 6 → itD (dsc I 30) t p < 6 := fun p hp => itD_lt hd t p hp
    have hnl : ∀ p, itN (dsc I 30) (ntc I 30) t p % 5 < 5 := fun p => Nat.mod_lt _ (by decide)
    have ed : ∀ p, p < 6 → dsc I' 33 p = itD (dsc I 30) t p := by
      intro p hp
      have := hdl p hp
      unfold dsc
      rw [if_pos hp]
      show nt (I' 34 p) = _
      rw [(h p hp).1, i_nt (by omega)]; rfl
    have en : ∀ p, p < 6 → ntc I' 33 p = itN (dsc I 30) (ntc I 30) t p % 5 := by
      intro p hp
      have := hnl p
      show (if p < 6 then nt (I' 35 p) else 0) = _
      rw [if_pos hp, (h p hp).2, i_nt (by omega)]
    have hD' : okD I' 33 := by
      intro p hp
      rw [ed p hp, en p hp]
      exact ⟨⟨(h p hp).1, hdl p hp⟩, (h p hp).2, hnl p⟩
    have e30d : dsc I' 30 = dsc I 30 := by
      funext p; unfold dsc; rw [hf 31 (by decide) (by decide)]
    have e30n : ntc I' 30 = ntc I 30 := by
      funext p; unfold ntc; rw [hf 32 (by decide) (by decide)]
    have hz : rcF (dsc I' 33) (ntc I' 33) = 0 ↔ perF (dsc I 30) (ntc I 30) ∣ t := by
      rw [rcF_zero, ← it_id (ntc I 30) hp hd]
      exact ⟨fun q p hp => by rw [← ed p hp, ← en p hp]; exact q p hp, fun q p hp => by rw [ed p hp, en p hp]; exact q p hp⟩
    have hl := rcF_lt (dsc I' 33) (ntc I' 33)
    show g_X5_periodByDoing_13 ..
    refine ⟨fun h => absurd h (by rw [l_1000000, i_le (by decide) (by omega)]; omega), fun _ => ⟨hD', fun r1 q1 => ?_⟩⟩
    unfold post_X0_reach at q1
    rw [q1, l_0, i_eq (by omega) (by decide), hz]
    cases m with
    | zero =>
      rw [Nat.add_zero] at e
      subst e
      exact ⟨fun _ => ⟨rfl, hf⟩, fun q => absurd (Nat.dvd_refl _) q⟩
    | succ m =>
      refine ⟨fun q => absurd (Nat.le_of_dvd (by omega) q) (by omega), fun _ => ⟨⟨hD', ?_, by decide, by decide, by decide⟩, fun I2 q2 => ?_⟩⟩
      · intro p hp
        show (I' 31 p = _ ∧ _) ∧ (I' 32 p = _ ∧ _)
        rw [e30d, e30n, hf 31 (by decide) (by decide), hf 32 (by decide) (by decide)]
        exact hD p hp
      · rw [i_s]
        refine vl_X5_periodByDoing hD hp m (t + 1) I2 (by omega) (by omega) (fun p hp => ?_) (fun c c1 c2 => by rw [q2.2 c c1 c2, hf c c1 c2])
        have := q2.1 p hp
        rw [e30d, e30n, ed p hp, en p hp] at this
        refine ⟨this.1, ?_⟩
        rw [show itN (dsc I 30) (ntc I 30) (t + 1) p = itN (dsc I 30) (ntc I 30) t p + ntc I 30 (itD (dsc I 30) t p) from rfl, ← Nat.mod_add_mod]
        exact this.2
theorem vc_X5_periodByDoing (I : wI) (hp : pre_X5_periodByDoing I) : v_X5_periodByDoing I (post_X5_periodByDoing I) := by
  obtain ⟨hD, hp⟩ := hp
  have hpos := perF_pos (ntc I 30) hp
  refine ⟨⟨by decide, by decide, by decide⟩, fun I1 h1 => ⟨perF (dsc I 30) (ntc I 30) - 1 + 1, ?_⟩⟩
  refine vl_X5_periodByDoing hD hp (perF (dsc I 30) (ntc I 30) - 1) 1 I1 (by omega) (Nat.le_refl _) (fun p hp6 => ?_) h1.2
  obtain ⟨⟨a1, a2⟩, b1, b2⟩ := hD p hp6
  obtain ⟨c1, c2⟩ := h1.1 p hp6
  refine ⟨c1.trans a1, c2.trans (b1.trans ?_)⟩
  rw [show itN (dsc I 30) (ntc I 30) 1 p = ntc I 30 p from Nat.zero_add _, Nat.mod_eq_of_lt b2]
/-! ===== by rounds ===== -/
theorem vl_X0_leastMultiple {a c : Nat} (ha : 0 < a) (ha2 : a ≤ 100000) (hc : 0 < c) (hc2 : c ≤ 1000) (I : wI) : ∀ (m i : Nat), i + m = c → 1 ≤ i → (∀ j, 1 ≤ j → j < i → ¬ c ∣ a * j) →
    v_X0_leastMultiple_4 (nI a) (nI c) I (post_X0_leastMultiple (nI a) (nI c) I) (m + 1) (nI (a * i)) (nI i)
  | m, i, e, h1, h => by
    have hb : a * i ≤ 100000 * 1000 := Nat.mul_le_mul ha2 (by omega)
    have fin : c ∣ a * i → post_X0_leastMultiple (nI a) (nI c) I (nI (a * i)) := by
      intro hd
      unfold post_X0_leastMultiple
      rw [i_nt (by omega), i_nt (by omega)]
      congr 1
      have h2 : Nat.lcm a c ∣ a * i := Nat.lcm_dvd (Nat.dvd_mul_right _ _) hd
      obtain ⟨j, hj⟩ := Nat.dvd_lcm_left a c
      have h3 : c ∣ a * j := by rw [← hj]; exact Nat.dvd_lcm_right a c
      have hlp : 0 < Nat.lcm a c := Nat.lcm_pos ha hc
      have hj1 : 1 ≤ j := by
        apply Decidable.byContradiction; intro q
        rw [show j = 0 by omega] at hj; omega
      have hji : i ≤ j := by
        apply Decidable.byContradiction; intro q
        exact h j hj1 (by omega) h3
      have h4 : Nat.lcm a c ≤ a * i := Nat.le_of_dvd (Nat.mul_pos ha (by omega)) h2
      have h5 : a * i ≤ a * j := Nat.mul_le_mul_left a hji
      omega
    show g_X0_leastMultiple_4 ..
    unfold g_X0_leastMultiple_4 v_X0_leastMultiple_25
    rw [i_le (by omega) (by omega), show (0 : Int32) = nI 0 from rfl, i_eq (a := c) (b := 0) (by omega) (by decide), i_rem (by omega) hc (by omega), i_eq (Nat.lt_trans (Nat.mod_lt _ hc) (by omega)) (by decide), i_add, i_s]
    refine ⟨fun q => fin (by rw [show i = c by omega]; exact Nat.dvd_mul_left _ _), fun q => ⟨by omega, fun z => fin (Nat.dvd_of_mod_eq_zero z), fun z => ?_⟩⟩
    obtain ⟨m, rfl⟩ : ∃ k, m = k + 1 := ⟨m - 1, by omega⟩
    have := vl_X0_leastMultiple ha ha2 hc hc2 I m (i + 1) (by omega) (by omega) (fun j hj hji => by
      by_cases ej : j = i
      · subst ej; exact fun q => z (Nat.mod_eq_zero_of_dvd q)
      · exact h j hj (by omega))
    rw [show a * i + a = a * (i + 1) from (Nat.mul_succ a i).symm]
    exact this
theorem vc_X0_leastMultiple (x0 x1 : Int32) (I : wI) (hp : pre_X0_leastMultiple x0 x1 I) : v_X0_leastMultiple x0 x1 I (post_X0_leastMultiple x0 x1 I) := by
  obtain ⟨a, c, ha, ha2, hc, hc2, rfl, rfl⟩ := hp
  have := vl_X0_leastMultiple ha ha2 hc hc2 I (c - 1) 1 (by omega) (Nat.le_refl _) (fun j h1 h2 => by omega)
  rw [Nat.mul_one] at this
  exact ⟨_, this⟩
theorem tb_or : ∀ m, m < 64 → ∀ p, p < 6 → ∀ q, q < 6 → tb (m ||| 2 ^ p) q = if q = p then 1 else tb m q := by decide +kernel
theorem or_lt : ∀ m, m < 64 → ∀ p, p < 6 → m ||| 2 ^ p < 64 := by decide +kernel
theorem tb01 (m p : Nat) : tb m p = 0 ∨ tb m p = 1 := by have := tb_lt m p; omega
/-- the inner rounds -/
theorem vl_X0_pbr_21 {k : Nat} {I : wI} (hD : okD I k) (hp : pmF (dsc I k)) {Q : Int32 → Prop} {K : Int32 → Int32 → Int32 → Prop} {P m0 s : Nat} (hs : s < 6) (hm0 : m0 < 64) (hs0 : tb m0 s = 0) (hcl : ∀ p, p < 6 → tb m0 p = 1 → tb m0 (plF (dsc I k) p) = 1)
    (hP : 0 < P) (hP2 : P ≤ 300)
    (hK : ∀ m', m' < 64 → (∀ p, p < 6 → (tb m' p = 1 ↔ tb m0 p = 1 ∨ ∃ i, i < cL (dsc I k) s ∧ p = orbM (dsc I k) s i)) → K (nI (Nat.lcm P (itsF (dsc I k) (ntc I k) s))) (nI m') (nI (s + 1))) :
    ∀ (f j m' : Nat), j + f = cL (dsc I k) s → m' < 64 → (∀ p, p < 6 → (tb m' p = 1 ↔ tb m0 p = 1 ∨ ∃ i, i < j ∧ p = orbM (dsc I k) s i)) →
      v_X0_periodByRounds_21 k I Q K (f + 1) (nI P) (nI m') (nI s) (nI j) (nI (sN (dsc I k) (ntc I k) s j)) (nI (orbM (dsc I k) s j))
  | f, j, m', e, hm, hb => by
    obtain ⟨c1, c2, c3, c4⟩ := cL_sp hp hs
    have ho := orb_lt hp hs j
    have hsn : sN (dsc I k) (ntc I k) s j ≤ j * 4 := sm_le (fun i _ => by
      have := (hD _ (orb_lt hp hs (i + 1))).2.2; omega)
    have hdead : ∀ i, tb m0 (orbM (dsc I k) s i) = 1 → False := by
      intro i hi
      have up : ∀ a, tb m0 (orbM (dsc I k) s (a + i)) = 1 := by
        intro a
        induction a with
        | zero => rw [Nat.zero_add]; exact hi
        | succ a ih => rw [show a + 1 + i = a + i + 1 by omega, orb_s]; exact hcl _ (orb_lt hp hs _) ih
      have h1 := orb_mul hp hs i
      have h2 := up (cL (dsc I k) s * i - i)
      have h3 : i ≤ cL (dsc I k) s * i := Nat.le_mul_of_pos_left i c1
      rw [Nat.sub_add_cancel h3, h1, hs0] at h2
      exact absurd h2 (by decide)
    have hfin : f = 0 → v_X0_periodByRounds_69 k I Q K (nI P) (nI m') (nI s) (nI j) (nI (sN (dsc I k) (ntc I k) s j)) := by
      intro hf
      have ej : j = cL (dsc I k) s := by omega
      unfold v_X0_periodByRounds_69 v_X0_periodByRounds_91 v_X0_periodByRounds_95
      rw [l_0, i_le (by omega) (by decide), l_5, i_rem (by omega) (by decide) (by decide), i_eq (Nat.lt_trans (Nat.mod_lt _ (by decide)) (by decide)) (by decide), i_mul, i_s]
      have hcs : sN (dsc I k) (ntc I k) s j = cS (dsc I k) (ntc I k) s := by rw [ej]; rfl
      rw [hcs]
      rw [ej] at hb
      refine ⟨fun q => by omega, fun _ => ⟨fun q => ⟨⟨P, 5 * j, hP, by omega, by omega, by omega, rfl, rfl⟩, fun r1 q1 => ?_⟩, fun q => ⟨⟨P, j, hP, by omega, by omega, by omega, rfl, rfl⟩, fun r1 q1 => ?_⟩⟩⟩
      · unfold post_X0_leastMultiple at q1
        rw [i_nt (by omega), i_nt (by omega)] at q1
        have := hK m' hm hb
        unfold itsF at this
        rw [if_neg q, ← ej] at this
        rw [q1]; exact this
      · unfold post_X0_leastMultiple at q1
        rw [i_nt (by omega), i_nt (by omega)] at q1
        have := hK m' hm hb
        unfold itsF at this
        rw [if_pos q, ← ej] at this
        rw [q1]; exact this
    show g_X0_periodByRounds_21 ..
    unfold g_X0_periodByRounds_21
    have e1 : (((nI m' >>> (nI (orbM (dsc I k) s j) &&& 31)) &&& 1) = 0) = (tb m' (orbM (dsc I k) s j) = 0) := by
      have h1 : m' / 2 ^ orbM (dsc I k) s j < 2147483648 := Nat.lt_of_le_of_lt (Nat.div_le_self _ _) (by omega)
      rw [show (31 : Int32) = nI 31 from rfl, i_and31 (by omega), i_shr (by omega) (by omega), l_1, i_and1 h1, l_0, i_eq (by omega) (by decide)]
      rfl
    rw [e1, l_6, i_le (by decide) (by omega)]
    refine ⟨fun q => hfin (by omega), fun q => ⟨fun z => ?_, fun z => ?_⟩⟩
    · -- seen already: this is the round's end
      have z1 : tb m' (orbM (dsc I k) s j) = 1 := by rcases tb01 m' (orbM (dsc I k) s j) with h | h; exact absurd h z; exact h
      rcases (hb _ ho).1 z1 with h | ⟨i, hi, h⟩
      · exact (hdead j h).elim
      · refine hfin ?_
        apply Decidable.byContradiction
        intro hf
        -- j < cL: e^j s = e^i s with i < j: then e^(j-i) s = s
        have e2 := itD_orb hp i s hs
        have e3 := itD_orb hp i (orbM (dsc I k) s (j - i)) (orb_lt hp hs _)
        rw [← orb_add, show i + (j - i) = j by omega, h, e2] at e3
        exact c4 (j - i) (by omega) (by omega) e3.symm
    · have hj : j < cL (dsc I k) s := by
        apply Decidable.byContradiction
        intro hf
        have ej : j = cL (dsc I k) s := by omega
        have : tb m' (orbM (dsc I k) s j) = 1 := (hb _ ho).2 (Or.inr ⟨0, by omega, by rw [ej, c3]; rfl⟩)
        omega
      obtain ⟨f, rfl⟩ : ∃ g, f = g + 1 := ⟨f - 1, by omega⟩
      refine ⟨⟨hD, _, ho, rfl⟩, fun r1 q1 => ?_⟩
      unfold post_X0_placeOf at q1
      rw [i_nt (by omega), ← orb_s] at q1
      subst q1
      have ho1 := orb_lt hp hs (j + 1)
      refine ⟨⟨_, ho1, rfl⟩, fun r2 q2 => ?_⟩
      unfold post_X0_notchAt at q2
      rw [i_nt (by omega), (hD _ ho1).2.1] at q2
      subst q2
      rw [show (31 : Int32) = nI 31 from rfl, i_and31 (by omega), l_1, i_shl1 (by omega), nI_or, i_add, i_add]
      refine vl_X0_pbr_21 hD hp hs hm0 hs0 hcl hP hP2 hK f (j + 1) (m' ||| 2 ^ orbM (dsc I k) s j) (by omega) (or_lt m' hm _ ho) (fun p hp6 => ?_)
      rw [tb_or m' hm _ ho p hp6]
      constructor
      · intro q
        by_cases c : p = orbM (dsc I k) s j
        · exact Or.inr ⟨j, by omega, c⟩
        · rw [if_neg c] at q
          rcases (hb p hp6).1 q with q | ⟨i, hi, q⟩
          · exact Or.inl q
          · exact Or.inr ⟨i, by omega, q⟩
      · intro q
        by_cases c : p = orbM (dsc I k) s j
        · rw [if_pos c]
        · rw [if_neg c]
          refine (hb p hp6).2 ?_
          rcases q with q | ⟨i, hi, q⟩
          · exact Or.inl q
          · refine Or.inr ⟨i, ?_, q⟩
            by_cases ei : i = j
            · subst ei; exact (c (by assumption)).elim
            · omega
/-- two positions of one round have one period -/
theorem its_orb {d : Nat → Nat} (n : Nat → Nat) (hp : pmF d) {s : Nat} (hs : s < 6) (i : Nat) : itsF d n (orbM d s i) = itsF d n s := by
  have key : ∀ x, x < 6 → itsF d n (plF d x) ∣ itsF d n x := by
    intro x hx
    have h := (its_iff n hp hx (itsF d n x)).1 (Nat.dvd_refl _)
    have hpx := pl_lt hp hx
    rw [its_iff n hp hpx]
    have e1 : orbM d (plF d x) (itsF d n x) = plF d (orbM d x (itsF d n x)) := by
      rw [← orb_s, orb_add d x 1]; rfl
    refine ⟨by rw [e1, h.1], ?_⟩
    have a1 := sN_add d n x (itsF d n x) 1
    have a2 := sN_add d n x 1 (itsF d n x)
    rw [h.1, Nat.add_comm] at a1
    rw [show orbM d x 1 = plF d x from rfl] at a2
    have : sN d n (plF d x) (itsF d n x) = sN d n x (itsF d n x) := by omega
    rw [this]; exact h.2
  have up : ∀ j, itsF d n (orbM d s j) ∣ itsF d n s := by
    intro j
    induction j with
    | zero => exact Nat.dvd_refl _
    | succ j ih => rw [orb_s]; exact Nat.dvd_trans (key _ (orb_lt hp hs j)) ih
  have up2 : ∀ j x, x < 6 → itsF d n (orbM d x j) ∣ itsF d n x := by
    intro j x hx
    induction j with
    | zero => exact Nat.dvd_refl _
    | succ j ih => rw [orb_s]; exact Nat.dvd_trans (key _ (orb_lt hp hx j)) ih
  refine Nat.dvd_antisymm (up i) ?_
  have c1 := (cL_sp hp hs).1
  have h3 : i ≤ cL d s * i := Nat.le_mul_of_pos_left i c1
  have := up2 (cL d s * i - i) (orbM d s i) (orb_lt hp hs i)
  rw [← orb_add, Nat.sub_add_cancel h3, orb_mul hp hs] at this
  exact this
theorem vl_X0_pbr_6 {k : Nat} {I : wI} (hD : okD I k) (hp : pmF (dsc I k)) : ∀ (m s m0 P : Nat), s + m = 6 → m0 < 64 → (∀ p, p < s → tb m0 p = 1) → (∀ p, p < 6 → tb m0 p = 1 → tb m0 (plF (dsc I k) p) = 1) → 0 < P → P ≤ 300 →
    (∀ t, P ∣ t ↔ ∀ p, p < 6 → tb m0 p = 1 → itsF (dsc I k) (ntc I k) p ∣ t) → v_X0_periodByRounds_6 k I (post_X0_periodByRounds k I) (m + 1) (nI P) (nI m0) (nI s)
  | 0, s, m0, P, e, hm, ha, hcl, hP, hP2, hL => by
    obtain rfl : s = 6 := by omega
    refine ⟨fun _ => ?_, fun h => absurd (Int32.le_refl _) h⟩
    show nI P = _
    congr 1
    refine Nat.dvd_antisymm ((hL _).2 (fun p hp6 _ => (perU_iff _ _ _ 6).1 (Nat.dvd_refl _) p hp6)) ?_
    exact (perU_iff _ _ _ 6).2 (fun p hp6 => (hL P).1 (Nat.dvd_refl _) p hp6 (ha p hp6))
  | m + 1, s, m0, P, e, hm, ha, hcl, hP, hP2, hL => by
    have hs : s < 6 := by omega
    refine ⟨fun h => absurd h (by simp (disch := omega) only [i_le, i_lt, i_eq, i_add, i_sub, i_mul, i_and31, i_and1, i_shl1, i_shr, nI_or, i_cl, i_inP, i_nt, l_0, l_1, l_2, l_3, l_4, l_5, l_6, l_7, l_8, l_9, l_10, l_12, l_18, l_23, l_25, l_28, l_30, l_31, l_33, l_34, l_35, l_36, l_37, l_40, l_41, l_43, l_44, l_48, l_49, l_50, l_57, l_60, l_63, l_64, l_65, l_69, l_91, l_93, l_97, l_101, l_111, l_125, l_126, l_245, l_294, l_500, l_501, l_9999, l_1000000]; omega), fun _ => ?_⟩
    rcases tb01 m0 s with h0 | h1
    · obtain ⟨c1, c2, c3, c4⟩ := cL_sp hp hs
      refine ⟨cL (dsc I k) s + 1, ?_⟩
      refine vl_X0_pbr_21 hD hp hs hm h0 hcl hP hP2 (fun m' hm' hb => ?_) (cL (dsc I k) s) 0 m0 (by omega) hm (fun p hp6 => ⟨fun h => Or.inl h, fun h => by rcases h with h | ⟨i, hi, _⟩; exact h; omega⟩)
      have hd3 : Nat.lcm P (itsF (dsc I k) (ntc I k) s) ∣ 300 := Nat.lcm_dvd ((hL 300).2 (fun p hp6 _ => its_300 _ hp hp6)) (its_300 _ hp hs)
      refine vl_X0_pbr_6 hD hp m (s + 1) m' _ (by omega) hm' (fun p hps => ?_) (fun p hp6 hpb => ?_) (Nat.pos_of_dvd_of_pos hd3 (by decide)) (Nat.le_of_dvd (by decide) hd3) (fun t => ?_)
      · by_cases ep : p = s
        · subst ep; exact (hb p hs).2 (Or.inr ⟨0, by omega, rfl⟩)
        · exact (hb p (by omega)).2 (Or.inl (ha p (by omega)))
      · refine (hb _ (pl_lt hp hp6)).2 ?_
        rcases (hb p hp6).1 hpb with q | ⟨i, hi, rfl⟩
        · exact Or.inl (hcl p hp6 q)
        · by_cases ei : i + 1 < cL (dsc I k) s
          · exact Or.inr ⟨i + 1, ei, rfl⟩
          · refine Or.inr ⟨0, by omega, ?_⟩
            rw [← orb_s, show i + 1 = cL (dsc I k) s by omega, c3]; rfl
      · rw [Nat.lcm_dvd_iff, hL]
        constructor
        · rintro ⟨q1, q2⟩ p hp6 hpb
          rcases (hb p hp6).1 hpb with q | ⟨i, hi, rfl⟩
          · exact q1 p hp6 q
          · rw [its_orb _ hp hs]; exact q2
        · intro q
          exact ⟨fun p hp6 hpb => q p hp6 ((hb p hp6).2 (Or.inl hpb)), q s hs ((hb s hs).2 (Or.inr ⟨0, by omega, rfl⟩))⟩
    · refine ⟨1, ?_⟩
      have ih := vl_X0_pbr_6 hD hp m (s + 1) m0 P (by omega) hm (fun p hps => by
        by_cases ep : p = s
        · subst ep; exact h1
        · exact ha p (by omega)) hcl hP hP2 hL
      show g_X0_periodByRounds_21 ..
      refine ⟨fun q => absurd q (by decide), fun _ => ⟨fun _ => ?_, fun z => ?_⟩⟩
      · unfold v_X0_periodByRounds_69 v_X0_periodByRounds_95
        rw [i_s]
        exact ⟨fun _ => ih, fun q => absurd (Int32.le_refl _) q⟩
      · have h1' : m0 / 2 ^ s < 2147483648 := Nat.lt_of_le_of_lt (Nat.div_le_self _ _) (by omega)
        rw [show (31 : Int32) = nI 31 from rfl, i_and31 (by omega), i_shr (by omega) (by omega), l_1, i_and1 h1', l_0, i_eq (by omega) (by decide)] at z
        have : tb m0 s = 0 := z
        omega
theorem vc_X0_periodByRounds (k : Nat) (I : wI) (hp : pre_X0_periodByRounds k I) : v_X0_periodByRounds k I (post_X0_periodByRounds k I) := by
  obtain ⟨hD, hp⟩ := hp
  refine ⟨7, vl_X0_pbr_6 hD hp 6 0 0 1 rfl (by decide) (fun p h => absurd h (Nat.not_lt_zero _)) (fun p _ h => ?_) (by decide) (by decide) (fun t => ⟨fun _ p _ h => ?_, fun _ => Nat.one_dvd t⟩)⟩
  · unfold tb at h; rw [Nat.zero_div] at h; exact absurd h (by decide)
  · unfold tb at h; rw [Nat.zero_div] at h; exact absurd h (by decide)
