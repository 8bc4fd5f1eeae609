theorem tRel_o {I : wI} {s u : TS} {n n' : Nat} (h : tRel I s) (ho : tOk s n) (h2 : tRel I u) (ho2 : tOk u n') : tO s = tO u := nI_inj (by have := ho.1; omega) (by have := ho2.1; omega) (h.2.1.symm.trans h2.2.1)
theorem vc_X4_takesFigure (k : Nat) (x1 : Int32) (I : wI) (hp : pre_X4_takesFigure k x1 I) : v_X4_takesFigure k x1 I (post_X4_takesFigure k x1 I) := by
  obtain ⟨rfl, ⟨c, hc33, hc126, rfl⟩, s0, n0, hn0, hs0, ho0, hf0⟩ := hp
  have hl0 := tOk_len ho0 (show n0 ≤ 60 by omega)
  have e8 := hs0.2.1
  have h4 := ho0.1
  have no : ∀ P : Prop, ¬ P → (∀ s, tO s = tO s0 → ((50 ≤ c ∧ c ≤ 57 ∧ tO s ≠ 0) → P)) → v_X4_takesFigure_28 24 (nI c) (post_X4_takesFigure 24 (nI c) I) I := by
    intro P hP hq s n hn hs ho hF
    rw [i_nt (by omega), if_neg (fun q => hP (hq s (tRel_o hs ho hs0 ho0) q))]
    exact ⟨rfl, hs, tfr_refl I⟩
  unfold v_X4_takesFigure
  rw [e8, l_50, l_57, i_lt (by omega) (by decide), i_lt (by decide) (by omega)]
  refine ⟨fun q => no _ (show ¬ (50 ≤ c) by omega) (fun s _ z => z.1), fun q => ⟨fun q2 => no _ (show ¬ (c ≤ 57) by omega) (fun s _ z => z.2.1), fun q2 => ⟨fun q3 => no (tO s0 ≠ 0) ?_ (fun s es z => by rw [← es]; exact z.2.2), fun q3 => ?_⟩⟩⟩
  · intro z
    obtain ⟨o, ho⟩ : ∃ o, tO s0 = o + 1 := ⟨tO s0 - 1, by omega⟩
    rw [ho, down_p] at q3
    exact nI_lt0 (by omega) q3
  · have hz : tO s0 ≠ 0 := by
      intro z; rw [z] at q3; exact q3 (by decide)
    obtain ⟨o, eo⟩ : ∃ o, tO s0 = o + 1 := ⟨tO s0 - 1, by omega⟩
    rw [eo, down_p, i_cl (by omega), l_4, i_lt (by omega) (by decide)]
    refine ⟨fun _ I1 q1 I2 q2 => ⟨i_in (by omega) (by decide), ?_⟩, fun q => absurd (show o < 4 by omega) q⟩
    have e28 : I2 (24 + 4) o = nI (tB s0 o) := by
      rw [q2, wU_ne (by decide), q1, wU_ne (by decide)]; exact (hs0.2.2.2.2 o (by omega)).2.1
    rw [e28, show (48 : Int32) = nI 48 from rfl, i_sub (by omega)]
    have f24 : ∀ j, j ≠ 8 → j ≠ 10 → I2 24 j = I 24 j := fun j a b => by rw [q2, wU_off (Or.inr a), q1, wU_off (Or.inr b)]
    have fc : ∀ c, c ≠ 24 → I2 c = I c := fun c a => by rw [q2, wU_ne a, q1, wU_ne a]
    have L2 : ∀ W, lrel I W → lrel I2 W := fun W h => ⟨by rw [f24 3 (by decide) (by decide)]; exact h.1, fun i a b => by rw [fc 26 (by decide)]; exact h.2 i a b⟩
    have hbe := ho0.2.2.1 o (by omega)
    refine ⟨⟨rfl, tW s0, tB s0 o, c - 48, L2 _ hs0.1, rfl, by omega, rfl, by omega, by omega, by omega, ho0.2.1⟩, fun I3 h3 s n hn hs ho hF => ?_⟩
    have es := tRel_o hs ho hs0 ho0
    have hl := tOk_len ho (show n ≤ 60 by omega)
    have hb2 := ho.2.2.1 o (by omega)
    have ebo : tB s o = tB s0 o := nI_inj (by omega) (by omega) ((hs.2.2.2.2 o (by omega)).2.1.symm.trans (hs0.2.2.2.2 o (by omega)).2.1)
    obtain ⟨g1, g2⟩ := h3 (tW s) (L2 _ hs.1) (by omega) ho.2.1
    rw [i_nt (by omega), i_nt (by omega)] at g1
    rw [i_nt (by omega), if_pos ⟨by omega, by omega, by omega⟩]
    refine ⟨rfl, ⟨?_, ?_, ?_, ?_, fun i hi => ?_⟩, tfr_trans ⟨fun c hc => fc c (by omega), f24 1 (by decide) (by decide)⟩ (tfr_w g2)⟩
    · show lrel I3 (tW s ++ repL ((tW s).drop (tB s (tO s - 1))) (c - 49))
      rw [show tO s - 1 = o by omega, ebo, show c - 49 = c - 48 - 1 by omega]; exact g1
    · rw [g2.2 8 (by decide), q2, wU_at]
      show nI o = nI (tO s - 1)
      rw [show tO s - 1 = o by omega]
    · rw [g2.2 9 (by decide), f24 9 (by decide) (by decide)]; exact hs.2.2.1
    · rw [g2.2 10 (by decide), q2, wU_off (Or.inr (by decide)), q1, wU_at]; rfl
    · have hi : i < tO s - 1 := hi
      rw [g2.1 27 (by decide) (by decide), g2.1 28 (by decide) (by decide), g2.1 29 (by decide) (by decide), fc 27 (by decide), fc 28 (by decide), fc 29 (by decide)]
      exact hs.2.2.2.2 i (by omega)
theorem vc_X4_takesInBracket (k : Nat) (x1 : Int32) (I : wI) (hp : pre_X4_takesInBracket k x1 I) : v_X4_takesInBracket k x1 I (post_X4_takesInBracket k x1 I) := by
  obtain ⟨rfl, ⟨c, hc33, hc126, rfl⟩, s0, n0, hn0, hs0, ho0, hf0⟩ := hp
  have hl0 := tOk_len ho0 (show n0 ≤ 60 by omega)
  have e8 := hs0.2.1
  have h4 := ho0.1
  unfold v_X4_takesInBracket v_X4_takesInBracket_16
  rw [e8]
  by_cases hz : tO s0 = 0
  · rw [hz]
    refine ⟨fun _ s n hn hs ho hF => ?_, fun q => absurd (by decide) q⟩
    have es := tRel_o hs ho hs0 ho0
    rw [i_nt (by omega)]
    unfold tIn
    rw [if_pos (by omega)]
    exact ⟨rfl, hs, tfr_refl I⟩
  obtain ⟨o, eo⟩ : ∃ o, tO s0 = o + 1 := ⟨tO s0 - 1, by omega⟩
  rw [eo, down_p]
  have hv : vp_in (nI o) 4 := i_in (by omega) (by decide)
  have hko := ho0.2.2.1 o (by omega)
  have e27 : I (24 + 3) o = nI (tK s0 o) := (hs0.2.2.2.2 o (by omega)).1
  refine ⟨not_lt0 (by omega), fun _ => ⟨fun _ => ⟨hv, ?_⟩, fun q => absurd (show nI o < 4 by rw [l_4, i_lt (by omega) (by decide)]; omega) q⟩⟩
  -- what holds of any machine that is shown
  have any : ∀ s n, n < 60 → tRel I s → tOk s n → tO s = o + 1 ∧ tK s o = tK s0 o ∧ tB s o = tB s0 o ∧ tE s o = tE s0 o ∧ (tW s).length < 400000 := by
    intro s n hn hs ho
    have es := tRel_o hs ho hs0 ho0
    have hl := tOk_len ho (show n ≤ 60 by omega)
    have hb2 := ho.2.2.1 o (by omega)
    have a := hs.2.2.2.2 o (by omega)
    have b := hs0.2.2.2.2 o (by omega)
    exact ⟨by omega, nI_inj (by omega) (by omega) (a.1.symm.trans b.1), nI_inj (by omega) (by omega) (a.2.1.symm.trans b.2.1), nI_inj (by omega) (by omega) (a.2.2.symm.trans b.2.2), hl⟩
  have inE : ∀ s n, n < 60 → tRel I s → tOk s n → tIn s c = if tK s0 o = 0 ∧ c = 41 then some (tRound s) else if tK s0 o = 1 ∧ c = 44 then some (tComma s) else if tK s0 o = 2 ∧ c = 93 then some (tPair s) else none := by
    intro s n hn hs ho
    obtain ⟨a1, a2, _⟩ := any s n hn hs ho
    unfold tIn
    rw [if_neg (by omega), show tO s - 1 = o by omega, a2]
  have e41 : (nI c = 41) = (c = 41) := i_eq (b := 41) (by omega) (by decide)
  have e44 : (nI c = 44) = (c = 44) := i_eq (b := 44) (by omega) (by decide)
  have e93 : (nI c = 93) = (c = 93) := i_eq (b := 93) (by omega) (by decide)
  have k80 : (tK s0 o = 0 → c ≠ 41) → (tK s0 o = 1 → c ≠ 44) → v_X4_takesInBracket_80 24 (nI c) (post_X4_takesInBracket 24 (nI c) I) (nI o) I := by
    intro n0' n1'
    have none_ : ¬ (tK s0 o = 2 ∧ c = 93) → v_X4_takesInBracket_123 24 (nI c) (post_X4_takesInBracket 24 (nI c) I) I := by
      intro hno s n hn hs ho hF
      rw [i_nt (by omega), inE s n hn hs ho, if_neg (fun q => n0' q.1 q.2), if_neg (fun q => n1' q.1 q.2), if_neg hno]
      exact ⟨rfl, hs, tfr_refl I⟩
    refine ⟨hv, ?_⟩
    rw [i_cl (by omega), e27, l_2, i_eq (by omega) (by decide), e93]
    refine ⟨fun q => none_ (fun z => q z.1), fun q => ⟨fun q2 => none_ (fun z => q2 z.2), fun q2 I1 q1 => ⟨hv, hv, ?_⟩⟩⟩
    have fc : ∀ c, c ≠ 24 → I1 c = I c := fun c a => by rw [q1, wU_ne a]
    have f24 : ∀ j, j ≠ 8 → I1 24 j = I 24 j := fun j a => by rw [q1, wU_off (Or.inr a)]
    have L1 : ∀ W, lrel I W → lrel I1 W := fun W h => ⟨by rw [f24 3 (by decide)]; exact h.1, fun i a b => by rw [fc 26 (by decide)]; exact h.2 i a b⟩
    have a28 : I1 (24 + 4) o = nI (tB s0 o) := by rw [fc _ (by decide)]; exact (hs0.2.2.2.2 o (by omega)).2.1
    have a29 : I1 (24 + 5) o = nI (tE s0 o) := by rw [fc _ (by decide)]; exact (hs0.2.2.2.2 o (by omega)).2.2
    have a3 : I1 24 3 = nI (tW s0).length := by rw [f24 3 (by decide)]; exact hs0.1.1
    rw [a28, a29, a3]
    refine ⟨⟨rfl, tW s0, tB s0 o, tE s0 o, L1 _ hs0.1, rfl, rfl, rfl, hko.2.1, hko.2.2, by omega, ho0.2.1⟩, fun I2 h2 s n hn hs ho hF => ?_⟩
    obtain ⟨c1, c2, c3, c4, hl⟩ := any s n hn hs ho
    obtain ⟨g1, g2⟩ := h2 (tW s) (L1 _ hs.1) (by omega) ho.2.1
    rw [i_nt (by omega), i_nt (by omega)] at g1
    rw [i_nt (by omega), inE s n hn hs ho, if_neg (fun q => n0' q.1 q.2), if_neg (fun q => n1' q.1 q.2), if_pos ⟨q, q2⟩]
    refine ⟨rfl, ⟨?_, ?_, ?_, ?_, fun i hi => ?_⟩, tfr_trans ⟨fun c hc => fc c (by omega), f24 1 (by decide)⟩ (tfr_w g2)⟩
    · show lrel I2 (tW s ++ opp (((tW s).take (tE s (tO s - 1))).drop (tB s (tO s - 1))) ++ opp ((tW s).drop (tE s (tO s - 1))))
      rw [show tO s - 1 = o by omega, c3, c4]; exact g1
    · rw [g2.2 8 (by decide), q1, wU_at]
      show nI o = nI (tO s - 1)
      rw [show tO s - 1 = o by omega]
    · rw [g2.2 9 (by decide), f24 9 (by decide)]; exact hs.2.2.1
    · rw [g2.2 10 (by decide), f24 10 (by decide), hs.2.2.2.1, hF]; rfl
    · have hi : i < tO s - 1 := hi
      rw [g2.1 27 (by decide) (by decide), g2.1 28 (by decide) (by decide), g2.1 29 (by decide) (by decide), fc 27 (by decide), fc 28 (by decide), fc 29 (by decide)]
      exact hs.2.2.2.2 i (by omega)
  have k40 : (tK s0 o = 0 → c ≠ 41) → v_X4_takesInBracket_40 24 (nI c) (post_X4_takesInBracket 24 (nI c) I) (nI o) I := by
    intro n0'
    refine ⟨hv, ?_⟩
    rw [i_cl (by omega), e27, l_1, i_eq (by omega) (by decide), e44]
    refine ⟨fun q => k80 n0' (fun z => absurd z q), fun q => ⟨fun q2 => k80 n0' (fun _ => q2), fun q2 => ⟨hv, fun I1 q1 => ⟨hv, fun I2 q2' I3 q3 s n hn hs ho hF => ?_⟩⟩⟩⟩
    obtain ⟨c1, c2, c3, c4, hl⟩ := any s n hn hs ho
    have a3 : I1 24 3 = nI (tW s).length := by rw [q1, wU_ne (by decide)]; exact hs.1.1
    rw [a3] at q2'
    rw [i_nt (by omega), inE s n hn hs ho, if_neg (fun q => n0' q.1 q.2), if_pos ⟨q, q2⟩]
    have f24 : ∀ j, j ≠ 9 → I3 24 j = I 24 j := fun j a => by rw [q3, wU_off (Or.inr a), q2', wU_ne (by decide), q1, wU_ne (by decide)]
    have fc : ∀ c, c ≠ 24 → c ≠ 27 → c ≠ 29 → I3 c = I c := fun c a b d => by rw [q3, wU_ne a, q2', wU_ne d, q1, wU_ne b]
    refine ⟨rfl, ⟨⟨by rw [f24 3 (by decide)]; exact hs.1.1, fun i a b => by rw [fc 26 (by decide) (by decide) (by decide)]; exact hs.1.2 i a b⟩, by rw [f24 8 (by decide)]; exact hs.2.1, by rw [q3, wU_at]; rfl, by rw [f24 10 (by decide), hs.2.2.2.1, hF]; rfl, fun i hi => ?_⟩, ⟨fun c hc => fc c (by omega) (by omega) (by omega), f24 1 (by decide)⟩⟩
    have hi : i < tO s := hi
    have x27 : I3 27 = upd (I 27) o (nI 2) := by rw [q3, wU_ne (by decide), q2', wU_ne (by decide), q1, wU_same]; rfl
    have x29 : I3 29 = upd (I 29) o (nI (tW s).length) := by rw [q3, wU_ne (by decide), q2', wU_same, q1, wU_ne (by decide)]
    rw [x27, x29, fc 28 (by decide) (by decide) (by decide)]
    have := hs.2.2.2.2 i hi
    show upd (I 27) o (nI 2) i = nI (fu (tK s) (tO s - 1) 2 i) ∧ I 28 i = nI (tB s i) ∧ upd (I 29) o _ i = nI (fu (tE s) (tO s - 1) _ i)
    rw [show tO s - 1 = o by omega]
    unfold fu upd
    by_cases ci : i = o
    · simp only [ci, if_true, true_and, and_true]
      rw [← ci]; exact this.2.1
    · simp only [if_neg ci]
      exact this
  rw [i_cl (by omega), e27, l_0, i_eq (by omega) (by decide), e41]
  refine ⟨fun q => k40 (fun z => absurd z q), fun q => ⟨fun q2 => k40 (fun _ => q2), fun q2 I1 q1 s n hn hs ho hF => ?_⟩⟩
  rw [i_nt (by omega), inE s n hn hs ho, if_pos ⟨q, q2⟩]
  have f24 : ∀ j, j ≠ 10 → I1 24 j = I 24 j := fun j a => by rw [q1, wU_off (Or.inr a)]
  have fc : ∀ c, c ≠ 24 → I1 c = I c := fun c a => by rw [q1, wU_ne a]
  exact ⟨rfl, ⟨⟨by rw [f24 3 (by decide)]; exact hs.1.1, fun i a b => by rw [fc 26 (by decide)]; exact hs.1.2 i a b⟩, by rw [f24 8 (by decide)]; exact hs.2.1, by rw [f24 9 (by decide)]; exact hs.2.2.1, by rw [q1, wU_at]; rfl, fun i hi => by rw [fc 27 (by decide), fc 28 (by decide), fc 29 (by decide)]; exact hs.2.2.2.2 i hi⟩, ⟨fun c hc => fc c (by omega), f24 1 (by decide)⟩⟩
theorem vc_X4_takes (k : Nat) (x1 : Int32) (I : wI) (hp : pre_X4_takes k x1 I) : v_X4_takes k x1 I (post_X4_takes k x1 I) := by
  obtain ⟨rfl, ⟨c, hc33, hc126, rfl⟩, s0, n0, hn0, hs0, ho0⟩ := hp
  have e9 := hs0.2.2.1
  have e10 := hs0.2.2.2.1
  -- flags are the same in any machine that is shown
  have fl : ∀ (s : TS) (n : Nat), tRel I s → tF s = tF s0 ∧ tH s = tH s0 := by
    intro s n hs
    have a := hs.2.2.2.1.symm.trans e10
    have b := hs.2.2.1.symm.trans e9
    constructor
    · cases h1 : tF s <;> cases h2 : tF s0 <;> rw [h1, h2] at a <;> first | rfl | exact absurd a (by decide)
    · cases h1 : tH s <;> cases h2 : tH s0 <;> rw [h1, h2] at b <;> first | rfl | exact absurd b (by decide)
  have ans01 : ∀ r I' s o, tAns I r I' s o → r = 0 ∨ r = 1 := by
    intro r I' s o h
    cases o with
    | none => exact Or.inl h.1
    | some s' => exact Or.inr h.1
  unfold v_X4_takes
  rw [e10, b1_0]
  refine ⟨fun hF0 => ?_, fun hF0 => ?_⟩
  · have fF : ∀ (s : TS) (n : Nat), tRel I s → tF s = false := fun s n h => by rw [(fl s n h).1, hF0]
    have stp : ∀ (s : TS) (n : Nat), tRel I s → tStep s c = if 97 ≤ c ∧ c ≤ 101 then some (tMove s (c - 97)) else if 65 ≤ c ∧ c ≤ 69 then some (tMove s (5 + (c - 65))) else if c = 40 then (if tO s < 4 then some (tOpen s 0) else none) else if c = 91 then (if tO s < 4 then some (tOpen s 1) else none) else if tH s then tIn s c else none := by
      intro s n h
      unfold tStep
      rw [if_neg (by rw [fF s n h]; decide)]
    have mv : ∀ v, v < 10 → (∀ (s : TS) (n : Nat), tRel I s → tStep s c = some (tMove s v)) → (pre_X4_takesMove 24 (nI v) I) ∧ (∀ r2 : Int32, ∀ I3 : wI, (post_X4_takesMove 24 (nI v) I r2 I3) → ((r2 = 0 ∨ r2 = 1) ∧ post_X4_takes 24 (nI c) I r2 I3)) := by
      intro v hv hst
      refine ⟨⟨rfl, ⟨v, hv, rfl⟩, s0, n0, hn0, hs0, ho0, hF0⟩, fun r2 I3 h3 => ?_⟩
      have h1 := h3 s0 n0 hn0 hs0 ho0 hF0
      refine ⟨Or.inr h1.1, fun s n hn hs ho => ?_⟩
      have h2 := h3 s n hn hs ho (fF s n hs)
      rw [i_nt (by omega)] at h2
      rw [i_nt (by omega), hst s n hs]
      exact h2
    have opn : ∀ q, q < 2 → (∀ (s : TS) (n : Nat), tRel I s → tStep s c = if tO s < 4 then some (tOpen s q) else none) → (pre_X4_takesOpening 24 (nI q) I) ∧ (∀ r2 : Int32, ∀ I3 : wI, (post_X4_takesOpening 24 (nI q) I r2 I3) → ((r2 = 0 ∨ r2 = 1) ∧ post_X4_takes 24 (nI c) I r2 I3)) := by
      intro q hq hst
      refine ⟨⟨rfl, ⟨q, hq, rfl⟩, s0, n0, hn0, hs0, ho0, hF0⟩, fun r2 I3 h3 => ?_⟩
      have h1 := h3 s0 n0 hn0 hs0 ho0 hF0
      refine ⟨ans01 _ _ _ _ h1, fun s n hn hs ho => ?_⟩
      have h2 := h3 s n hn hs ho (fF s n hs)
      rw [i_nt (by omega)] at h2
      rw [i_nt (by omega), hst s n hs]
      exact h2
    have e40 : (nI c = 40) = (c = 40) := i_eq (b := 40) (by omega) (by decide)
    have e91 : (nI c = 91) = (c = 91) := i_eq (b := 91) (by omega) (by decide)
    have k63 : ¬ (97 ≤ c ∧ c ≤ 101) → ¬ (65 ≤ c ∧ c ≤ 69) → v_X4_takes_63 24 (nI c) (post_X4_takes 24 (nI c) I) I := by
      intro g1 g2
      unfold v_X4_takes_63 v_X4_takes_106 v_X4_takes_107
      rw [e40, e91, e9, b1_0]
      refine ⟨fun n40 => ⟨fun n91 => ⟨fun hH => ⟨Or.inl rfl, fun s n hn hs ho => ?_⟩, fun hH => ⟨⟨rfl, ⟨c, hc33, hc126, rfl⟩, s0, n0, hn0, hs0, ho0, hF0⟩, fun r1 I2 h2 => ?_⟩⟩, fun z91 => opn 1 (by decide) (fun s n h => by rw [stp s n h, if_neg g1, if_neg g2, if_neg n40, if_pos z91])⟩, fun z40 => opn 0 (by decide) (fun s n h => by rw [stp s n h, if_neg g1, if_neg g2, if_pos z40])⟩
      · rw [i_nt (by omega), stp s n hs, if_neg g1, if_neg g2, if_neg n40, if_neg n91, if_neg (by rw [(fl s n hs).2, hH]; decide)]
        exact ⟨rfl, hs, tfr_refl I⟩
      · have h1 := h2 s0 n0 hn0 hs0 ho0 hF0
        have all : post_X4_takes 24 (nI c) I r1 I2 := by
          intro s n hn hs ho
          have h3 := h2 s n hn hs ho (fF s n hs)
          rw [i_nt (by omega)] at h3
          have hH' : tH s = true := by rw [(fl s n hs).2]; cases h : tH s0; exact absurd h hH; rfl
          rw [i_nt (by omega), stp s n hs, if_neg g1, if_neg g2, if_neg n40, if_neg n91, if_pos hH']
          exact h3
        rcases ans01 _ _ _ _ h1 with z | z
        · subst z
          exact ⟨fun _ => ⟨Or.inl rfl, all⟩, fun q => absurd rfl q⟩
        · subst z
          exact ⟨fun q => absurd q (by decide), fun _ => ⟨Or.inr rfl, all⟩⟩
    have k38 : ¬ (97 ≤ c ∧ c ≤ 101) → v_X4_takes_38 24 (nI c) (post_X4_takes 24 (nI c) I) I := by
      intro g1
      unfold v_X4_takes_38
      rw [l_65, l_69, i_lt (by omega) (by decide), i_lt (by decide) (by omega)]
      refine ⟨fun q => k63 g1 (by omega), fun q => ⟨fun q2 => k63 g1 (by omega), fun q2 => ?_⟩⟩
      rw [i_sub (by omega)]
      refine ⟨⟨⟨c - 65, by omega, rfl⟩, Or.inr rfl⟩, fun r1 h1 => ?_⟩
      unfold post_X5_moveOf at h1
      rw [i_nt (by omega), show 5 * nt 1 + (c - 65) = 5 + (c - 65) by rw [show nt 1 = 1 from rfl]] at h1
      rw [h1]
      exact mv _ (by omega) (fun s n h => by rw [stp s n h, if_neg g1, if_pos ⟨by omega, by omega⟩])
    rw [l_97, l_101, i_lt (by omega) (by decide), i_lt (by decide) (by omega)]
    refine ⟨fun q => k38 (by omega), fun q => ⟨fun q2 => k38 (by omega), fun q2 => ?_⟩⟩
    rw [i_sub (by omega)]
    refine ⟨⟨⟨c - 97, by omega, rfl⟩, Or.inl rfl⟩, fun r1 h1 => ?_⟩
    unfold post_X5_moveOf at h1
    rw [i_nt (by omega), show 5 * nt 0 + (c - 97) = c - 97 by rw [show nt 0 = 0 from rfl]; omega] at h1
    rw [h1]
    exact mv _ (by omega) (fun s n h => by rw [stp s n h, if_pos ⟨by omega, by omega⟩])
  · have hF1 : tF s0 = true := by cases h : tF s0; exact absurd h hF0; rfl
    refine ⟨⟨rfl, ⟨c, hc33, hc126, rfl⟩, s0, n0, hn0, hs0, ho0, hF1⟩, fun r4 I5 h5 => ?_⟩
    have h1 := h5 s0 n0 hn0 hs0 ho0 hF1
    refine ⟨ans01 _ _ _ _ h1, fun s n hn hs ho => ?_⟩
    have fF : tF s = true := by rw [(fl s n hs).1, hF1]
    have h3 := h5 s n hn hs ho fF
    rw [i_nt (by omega)] at h3 ⊢
    unfold tStep
    rw [if_pos fF]
    exact h3
