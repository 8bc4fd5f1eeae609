/-! ===== the model's opener: rows of turns, by figures ===== -/
theorem oB_congr : ∀ (m r r2 : Nat) (a : Nat → Int32), (∀ k, k < m → r / 10 ^ k % 10 = r2 / 10 ^ k % 10) → oB m r a = oB m r2 a
  | 0, _, _, _, _ => rfl
  | m + 1, r, r2, a, h => by
    show (al a (r / 10 ^ m % 10) && oB m r (aTr a (r / 10 ^ m % 10))) = (al a (r2 / 10 ^ m % 10) && oB m r2 (aTr a (r2 / 10 ^ m % 10)))
    rw [h m (by omega), oB_congr m r r2 _ (fun k hk => h k (by omega))]
theorem dig_low {v m r k : Nat} (hk : k < m) : (v * 10 ^ m + r) / 10 ^ k % 10 = r / 10 ^ k % 10 := by
  obtain ⟨d, rfl⟩ : ∃ d, m = k + (d + 1) := ⟨m - k - 1, by omega⟩
  have hp : 0 < 10 ^ k := Nat.pow_pos (by decide)
  rw [Nat.pow_add, show v * (10 ^ k * 10 ^ (d + 1)) + r = r + 10 ^ k * (v * 10 ^ (d + 1)) by rw [Nat.mul_left_comm, Nat.add_comm], Nat.add_mul_div_left _ _ hp, Nat.pow_succ, ← Nat.mul_assoc, Nat.add_mul_mod_self_right]
theorem dig_top {v m r : Nat} (hr : r < 10 ^ m) : (v * 10 ^ m + r) / 10 ^ m = v := by
  have hp : 0 < 10 ^ m := Nat.pow_pos (by decide)
  rw [Nat.add_comm, Nat.add_mul_div_right _ _ hp, Nat.div_eq_of_lt hr, Nat.zero_add]
theorem oB_can : ∀ (m r : Nat) (a : Nat → Int32), oB m r a = true → canB m a = true
  | 0, _, _, h => h
  | m + 1, r, a, h => by
    obtain ⟨h1, h2⟩ := (Bool.and_eq_true _ _).mp (show (al a (r / 10 ^ m % 10) && oB m r (aTr a (r / 10 ^ m % 10))) = true from h)
    exact canB_s.2 ⟨_, Nat.mod_lt _ (by decide), h1, oB_can m r _ h2⟩
theorem oB_row {m v r : Nat} {a : Nat → Int32} (hv : v < 10) (hr : r < 10 ^ m) : oB (m + 1) (v * 10 ^ m + r) a = (al a v && oB m r (aTr a v)) := by
  show (al a ((v * 10 ^ m + r) / 10 ^ m % 10) && oB m (v * 10 ^ m + r) (aTr a ((v * 10 ^ m + r) / 10 ^ m % 10))) = _
  rw [dig_top hr, Nat.mod_eq_of_lt hv, oB_congr m _ r _ (fun k hk => dig_low hk)]
theorem can_oB : ∀ (m : Nat) (a : Nat → Int32), canB m a = true → ∃ r, r < 10 ^ m ∧ oB m r a = true
  | 0, _, h => ⟨0, by decide, h⟩
  | m + 1, a, h => by
    obtain ⟨v, hv, h1, h2⟩ := canB_s.1 h
    obtain ⟨r, hr, h3⟩ := can_oB m _ h2
    refine ⟨v * 10 ^ m + r, ?_, by rw [oB_row hv hr, h1, h3]; rfl⟩
    have : v * 10 ^ m ≤ 9 * 10 ^ m := Nat.mul_le_mul_right _ (by omega)
    rw [Nat.pow_succ]; omega
theorem p10 {n : Nat} (h : n ≤ 4) : 10 ^ n ≤ 10000 := Nat.pow_le_pow_right (n := 10) (by decide) h
theorem p10_0 (n : Nat) : 0 < 10 ^ n := Nat.pow_pos (by decide)
/-- the least row that opens -/
theorem oB_least {m r : Nat} {a : Nat → Int32} (hr : r < 10 ^ (m + 1)) (h : oB (m + 1) r a = true) (hl : ∀ q, q < r → oB (m + 1) q a = false) : fb (fun v => al a v && canB m (aTr a v)) 10 0 = r / 10 ^ m := by
  have hv : r / 10 ^ m < 10 := by
    rw [Nat.div_lt_iff_lt_mul (p10_0 m)]
    rw [Nat.pow_succ] at hr; omega
  have h' : (al a (r / 10 ^ m % 10) && oB m r (aTr a (r / 10 ^ m % 10))) = true := h
  rw [Nat.mod_eq_of_lt hv] at h'
  obtain ⟨h1, h2⟩ := (Bool.and_eq_true _ _).mp h'
  refine fb_eq (Nat.zero_le _) (by omega) ((Bool.and_eq_true _ _).mpr ⟨h1, oB_can m r _ h2⟩) (fun j _ hj => ?_)
  cases c : (al a j && canB m (aTr a j))
  · rfl
  · obtain ⟨c1, c2⟩ := (Bool.and_eq_true _ _).mp c
    obtain ⟨q, hq, c3⟩ := can_oB m _ c2
    have e := oB_row (a := a) (show j < 10 by omega) hq
    rw [c1, c3] at e
    have hlt : j * 10 ^ m + q < r := by
      have h5 : (j + 1) * 10 ^ m ≤ r / 10 ^ m * 10 ^ m := Nat.mul_le_mul_right _ hj
      have h6 := Nat.div_mul_le_self r (10 ^ m)
      rw [Nat.succ_mul] at h5
      omega
    rw [hl _ hlt] at e
    exact absurd e (by decide)
theorem vl_X6_power {n : Nat} (hn : n ≤ 4) (I : wI) : ∀ (m i : Nat), i + m = n → v_X6_power_4 (nI n) I (post_X6_power (nI n) I) (m + 1) (nI (10 ^ i)) (nI i)
  | m, i, e => by
    show g_X6_power_4 ..
    unfold g_X6_power_4
    rw [i_le (by omega) (by omega)]
    refine ⟨fun c => ?_, fun c => ?_⟩
    · show nI (10 ^ i) = nI (10 ^ nt (nI n))
      rw [i_nt (by omega), show i = n by omega]
    · obtain ⟨m, rfl⟩ : ∃ k, m = k + 1 := ⟨m - 1, by omega⟩
      rw [l_10, i_mul, i_s, ← Nat.pow_succ]
      exact vl_X6_power hn I m (i + 1) (by omega)
theorem vc_X6_power (x0 : Int32) (I : wI) (hp : pre_X6_power x0 I) : v_X6_power x0 I (post_X6_power x0 I) := by
  obtain ⟨n, hn, rfl⟩ := hp
  exact ⟨n + 1, vl_X6_power (by omega) I n 0 (by omega)⟩
theorem vl_X6_opensBy {I I1 : wI} {n r : Nat} (hr : r < 10000) (hn : n ≤ 4) (hA : post_X6_putAside I I1) : ∀ (m k : Nat) (t : Bool) (I' : wI), k + m = n → okR (rowM I') → fr1 I1 I' → (t && oB m r (rowM I')) = oB n r (rowM I) → v_X6_opensBy_12 (nI r) (nI n) (post_X6_opensBy (nI r) (nI n) I) (m + 1) (nI r) (if t then 1 else 0) (nI k) I'
  | m, k, t, I', e, hR, hf, hb => by
    have fin : ∀ (b : Bool), b = oB n r (rowM I) → v_X6_opensBy_86 (nI r) (nI n) (post_X6_opensBy (nI r) (nI n) I) (if b then 1 else 0) I' := by
      intro b hb2
      refine ⟨trivial, fun I2 h2 => ⟨by cases b; exact Or.inl rfl; exact Or.inr rfl, ?_, frT_back hA hf h2⟩⟩
      rw [i_nt (by omega), i_nt (by omega), hb2]
    have fin0 : oB n r (rowM I) = false → v_X6_opensBy_85 (nI r) (nI n) (post_X6_opensBy (nI r) (nI n) I) I' := fun h => fin false h.symm
    show g_X6_opensBy_12 ..
    unfold g_X6_opensBy_12
    rw [i_le (by omega) (by omega), b1_0]
    refine ⟨fun c => ?_, fun c => ?_⟩
    · obtain rfl : m = 0 := by omega
      refine ⟨fun z => fin0 (by rw [← hb, z]; rfl), fun z => ⟨hR, fun r1 h1 => ?_⟩⟩
      have ht : t = true := by cases t; exact absurd rfl z; rfl
      rw [ht] at hb
      have hb : decide (aRt (rowM I') = 6) = oB n r (rowM I) := hb
      unfold post_X6_opens at h1
      by_cases c6 : aRt (rowM I') = 6
      · rw [if_pos c6] at h1
        rw [h1]
        exact ⟨fun q => absurd q (by decide), fun _ => fin true (by rw [← hb]; exact (decide_eq_true c6).symm)⟩
      · rw [if_neg c6] at h1
        rw [h1]
        exact ⟨fun _ => fin0 (by rw [← hb]; exact decide_eq_false c6), fun q => absurd rfl q⟩
    · obtain ⟨m, rfl⟩ : ∃ j, m = j + 1 := ⟨m - 1, by omega⟩
      rw [l_1, i_sub (by omega), i_sub (by omega), show n - 1 - k = m by omega]
      refine ⟨⟨m, by omega, rfl⟩, fun r2 h2 => ?_⟩
      unfold post_X6_power at h2
      rw [i_nt (by omega)] at h2
      have hp := p10 (show m ≤ 4 by omega)
      have hp0 := p10_0 m
      have hd : r / 10 ^ m ≤ r := Nat.div_le_self _ _
      rw [h2, i_div (by omega) hp0 (by omega), l_10, i_rem (by omega) (by decide) (by decide), l_5, i_rem (by omega) (by decide) (by decide)]
      have hd10 : r / 10 ^ m % 10 < 10 := Nat.mod_lt _ (by decide)
      refine ⟨fun q => ?_, ?_⟩
      · have := nI_inj (b := 0) (by omega) (by decide) q
        omega
      have step : ∀ (b : Bool), b = (t && al (rowM I') (r / 10 ^ m % 10)) → v_X6_opensBy_55 (nI r) (nI n) (post_X6_opensBy (nI r) (nI n) I) (v_X6_opensBy_12 (nI r) (nI n) (post_X6_opensBy (nI r) (nI n) I) (m + 1)) (nI r) (nI k) (nI (r / 10 ^ m % 10)) (if b then 1 else 0) I' := by
        intro b hb2
        refine ⟨⟨hR, _, hd10, rfl⟩, fun I2 h3 => ?_⟩
        obtain ⟨m1, m2⟩ := h3
        rw [i_nt (by omega)] at m1
        rw [i_s]
        refine vl_X6_opensBy hr hn hA m (k + 1) b I2 (by omega) (by rw [m1]; exact okR_aTr hR hd10) (fr1_trans hf m2) ?_
        rw [← hb, hb2, m1]
        show (t && al (rowM I') (r / 10 ^ m % 10) && oB m r (aTr (rowM I') (r / 10 ^ m % 10))) = (t && (al (rowM I') (r / 10 ^ m % 10) && oB m r (aTr (rowM I') (r / 10 ^ m % 10))))
        rw [Bool.and_assoc]
      refine ⟨fun z => step false (by rw [z]; rfl), fun z => ⟨⟨hR, _, Nat.mod_lt _ (by decide), rfl⟩, fun r3 h3 => ?_⟩⟩
      have ht : t = true := by cases t; exact absurd rfl z; rfl
      unfold post_X6_isStuck at h3
      rw [i_nt (by omega)] at h3
      cases hs : aStk (rowM I') (r / 10 ^ m % 10 % 5)
      · rw [hs] at h3
        exact ⟨fun q => absurd h3 q, fun _ => step true (by rw [ht]; unfold al; rw [hs]; rfl)⟩
      · rw [hs] at h3
        exact ⟨fun _ => step false (by rw [ht]; unfold al; rw [hs]; rfl), fun q => by rw [h3] at q; exact absurd q (by decide)⟩
theorem vc_X6_opensBy (x1 x2 : Int32) (I : wI) (hp : pre_X6_opensBy x1 x2 I) : v_X6_opensBy x1 x2 I (post_X6_opensBy x1 x2 I) := by
  obtain ⟨hR, ⟨n, hn, rfl⟩, r, hr, rfl⟩ := hp
  refine ⟨trivial, fun I1 h1 => ⟨n + 1, ?_⟩⟩
  have eR := aside_row h1
  exact vl_X6_opensBy hr hn h1 n 0 true I1 (Nat.zero_add _) (by rw [eR]; exact hR) ⟨fun _ _ _ => rfl, fun _ _ => rfl⟩ (by rw [eR]; rfl)
theorem vl_X6_fo38 {I : wI} (hR : okR (rowM I)) (h36 : ¬ rowM I 36 = 0) (hn0 : canB 0 (rowM I) = false) {w n : Nat} (hw : w < 2) (h1 : 1 ≤ n) (h4 : n ≤ 4) (hno : ∀ j, 1 ≤ j → j < n → canB j (rowM I) = false) {K : Int32 → wI → Prop}
    (hK : ∀ I', frT I I' → canB n (rowM I) = false → K (nI (n + 1)) I') : ∀ (m r : Nat) (I' : wI), r + m = 10 ^ n → frT I I' → (∀ q, q < r → oB n q (rowM I) = false) → v_X6_findOpen_38 (nI w) (post_X6_findOpen (nI w) I) K (m + 1) (nI n) (nI r) I'
  | m, r, I', e, hf, hl => by
    have hp := p10 h4
    show g_X6_findOpen_38 ..
    unfold g_X6_findOpen_38
    refine ⟨⟨n, by omega, rfl⟩, fun r1 q1 => ?_⟩
    unfold post_X6_power at q1
    rw [i_nt (by omega)] at q1
    rw [q1, i_le (by omega) (by omega), i_s, i_s]
    refine ⟨fun c => hK I' hf ?_, fun c => ⟨⟨by rw [frT_row hf]; exact hR, ⟨n, h4, rfl⟩, r, by omega, rfl⟩, fun r2 I3 h3 => ?_⟩⟩
    · cases hc : canB n (rowM I)
      · rfl
      · obtain ⟨q, hq, ho⟩ := can_oB n _ hc
        rw [hl q (by omega)] at ho; exact absurd ho (by decide)
    · obtain ⟨g1, g2⟩ := h3
      rw [i_nt (by omega), i_nt (by omega), frT_row hf] at g1
      have hf3 := frT_trans hf g2
      cases ho : oB n r (rowM I)
      · rw [ho] at g1
        refine ⟨fun _ => ?_, fun q => absurd g1 q⟩
        obtain ⟨m, rfl⟩ : ∃ j, m = j + 1 := ⟨m - 1, by omega⟩
        refine vl_X6_fo38 hR h36 hn0 hw h1 h4 hno hK m (r + 1) I3 (by omega) hf3 (fun q hq => ?_)
        by_cases cq : q = r
        · rw [cq]; exact ho
        · exact hl q (by omega)
      · rw [ho] at g1
        refine ⟨fun q => by rw [g1] at q; exact absurd q (by decide), fun _ => ?_⟩
        obtain ⟨n, rfl⟩ : ∃ j, n = j + 1 := ⟨n - 1, by omega⟩
        have hcan := oB_can (n + 1) r _ ho
        have e5 : aOpN (rowM I) = n + 1 := fb_eq (by omega) (by omega) hcan (fun j a1 a2 => hno j a1 a2)
        have hop : ∀ u, aOp (rowM I) u = if u = 0 then nI (n + 1) else nI (r / 10 ^ n) := by
          intro u
          unfold aOp
          rw [if_neg h36, hn0, if_neg Bool.false_ne_true, e5, if_pos (show n + 1 < 5 by omega), Nat.add_sub_cancel, oB_least (by omega) ho hl]
        rw [show (nI w = 0) = (w = 0) from i_eq (b := 0) (by omega) (by decide)]
        refine ⟨fun n0 => ?_, fun y0 => ⟨by rw [i_nt (by omega), hop, if_pos y0], hf3⟩⟩
        rw [down_p]
        refine ⟨⟨n, by omega, rfl⟩, fun r4 h5 => ?_⟩
        unfold post_X6_power at h5
        rw [i_nt (by omega)] at h5
        have hp2 := p10 (show n ≤ 4 by omega)
        have hp0 := p10_0 n
        rw [h5, i_div (by omega) hp0 (by omega)]
        refine ⟨fun q => ?_, by rw [i_nt (by omega), hop, if_neg n0], hf3⟩
        have := nI_inj (b := 0) (by omega) (by decide) q
        omega
theorem vl_X6_fo31 {I : wI} (hR : okR (rowM I)) (h36 : ¬ rowM I 36 = 0) (hn0 : canB 0 (rowM I) = false) {w : Nat} (hw : w < 2) : ∀ (m n : Nat) (I' : wI), n + m = 5 → 1 ≤ n → frT I I' → (∀ j, 1 ≤ j → j < n → canB j (rowM I) = false) → v_X6_findOpen_31 (nI w) (post_X6_findOpen (nI w) I) (m + 1) (nI n) I'
  | m, n, I', e, h1, hf, hno => by
    show g_X6_findOpen_31 ..
    unfold g_X6_findOpen_31
    rw [l_4, i_lt (by decide) (by omega)]
    refine ⟨fun c => ?_, fun c => ⟨10 ^ n + 1, ?_⟩⟩
    · have e5 : aOpN (rowM I) = 5 := by
        unfold aOpN
        rw [fb_no (fun j a b => hno j a (by omega))]
      refine ⟨?_, hf⟩
      unfold aOp
      rw [if_neg h36, hn0, if_neg Bool.false_ne_true, e5, if_neg (by decide)]
    · obtain ⟨m, rfl⟩ : ∃ j, m = j + 1 := ⟨m - 1, by omega⟩
      refine vl_X6_fo38 hR h36 hn0 hw h1 (by omega) hno (fun I2 hf2 hc => ?_) (10 ^ n) 0 I' (Nat.zero_add _) hf (fun q hq => absurd hq (Nat.not_lt_zero _))
      refine vl_X6_fo31 hR h36 hn0 hw m (n + 1) I2 (by omega) (by omega) hf2 (fun j a b => ?_)
      by_cases cj : j = n
      · rw [cj]; exact hc
      · exact hno j a (by omega)
theorem vc_X6_findOpen (x1 : Int32) (I : wI) (hp : pre_X6_findOpen x1 I) : v_X6_findOpen x1 I (post_X6_findOpen x1 I) := by
  obtain ⟨hR, w, hw, rfl⟩ := hp
  unfold v_X6_findOpen
  rw [l_36, i_cl (by decide), show I 112 36 = rowM I 36 from rfl, show (nI w = 0) = (w = 0) from i_eq (b := 0) (by omega) (by decide)]
  refine ⟨i_in (by decide) (by decide), fun h36 => ⟨hR, fun r1 h1 => ?_⟩, fun h36 => ⟨?_, frT_refl I⟩⟩
  · unfold post_X6_opens at h1
    by_cases c6 : aRt (rowM I) = 6
    · rw [if_pos c6] at h1
      rw [h1]
      have hc : canB 0 (rowM I) = true := decide_eq_true c6
      refine ⟨fun q => absurd q (by decide), fun _ => ⟨fun n0 => ⟨?_, frT_refl I⟩, fun y0 => ⟨?_, frT_refl I⟩⟩⟩
      · unfold aOp; rw [i_nt (by omega), if_neg h36, hc, if_pos rfl, if_neg n0]
      · unfold aOp; rw [i_nt (by omega), if_neg h36, hc, if_pos rfl, if_pos y0]
    · rw [if_neg c6] at h1
      rw [h1]
      have hc : canB 0 (rowM I) = false := decide_eq_false c6
      exact ⟨fun _ => ⟨5, vl_X6_fo31 hR h36 hc hw 4 1 I rfl (Nat.le_refl _) (frT_refl I) (fun j a b => by omega)⟩, fun q => absurd rfl q⟩
  · unfold aOp; rw [if_pos h36]
theorem vc_X6_openIn (x1 : Int32) (I : wI) (hp : pre_X6_openIn x1 I) : v_X6_openIn x1 I (post_X6_openIn x1 I) := by
  have h0 : okM I := hp
  have hin : (0 ≤ x1 ∧ x1 ≤ 1) ↔ isN 2 x1 := in_iff (n := 1) (by decide)
  refine ⟨trivial, fun r1 h1 => ?_⟩
  rcases h1 with ⟨hk, rfl⟩ | ⟨hk, rfl⟩
  · have hN := hin.1 hk
    refine ⟨fun h => absurd h (by decide), fun _ I1 q1 => ?_⟩
    obtain ⟨e0, hS, eR⟩ := thr_use q1
    rw [e0]
    refine ⟨fun _ => ⟨⟨by rw [eR]; exact h0.1, hN⟩, fun r2 I3 h3 => ?_⟩, fun h => absurd (Int32.le_refl _) h⟩
    obtain ⟨g1, g2⟩ := h3
    rw [eR] at g1
    exact Or.inl ⟨hN, ⟨by rw [g2.2, e0], frS_trans hS g2.1⟩, g1⟩
  · refine ⟨fun _ I1 q1 => ?_, fun h => absurd rfl h⟩
    have e0 : I1 111 0 = nI 1 := by rw [q1, wU_at]; rfl
    rw [e0]
    exact ⟨fun h => absurd h (le0_n (by decide) (by decide)), fun _ => Or.inr ⟨fun q => hk (hin.2 q), thr_fin q1⟩⟩
