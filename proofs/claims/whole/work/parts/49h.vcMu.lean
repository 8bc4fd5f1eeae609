/-! ===== the model's text: signs ===== -/
theorem vl_X6_ts_cl {I' : wI} {x1 t0 : Int32} {Q : Int32 → wI → Prop} (ht : t0 = 0 ∨ t0 = 1) (h : Q t0 (wU I' 111 18 (I' 111 18 - t0))) : v_X6_takeSign_232 x1 Q t0 I' := by
  rcases ht with rfl | rfl
  · exact ⟨fun _ I1 q1 => ⟨Or.inl rfl, by rw [q1]; exact h⟩, fun q => absurd rfl q⟩
  · exact ⟨fun q => absurd q (by decide), fun _ I1 q1 => ⟨Or.inr rfl, by rw [q1]; exact h⟩⟩
theorem vc_X6_takeSign (x1 : Int32) (I : wI) (hp : pre_X6_takeSign x1 I) : v_X6_takeSign x1 I (post_X6_takeSign x1 I) := by
  obtain ⟨⟨c, hc33, hc126, rfl⟩, s0, n0, hn0, hs0, ho0, hf0⟩ := hp
  have h4 := ho0.1
  have hm : ∀ (s : TS) (n : Nat), tOk s n → mOp s ≤ 4 := by
    intro s n h
    have := h.1
    unfold mOp; split <;> omega
  have hm4 := hm s0 n0 ho0
  have any : ∀ (s : TS) (n : Nat), mRel I s → tOk s n → tFo s → tO s = tO s0 ∧ tH s = tH s0 ∧ tF s = tF s0 ∧ mOp s = mOp s0 ∧ ∀ i, i < mOp s0 → tK s i = tK s0 i := by
    intro s n hs ho hf
    have e1 : mOp s = mOp s0 := nI_inj (by have := hm s n ho; omega) (by omega) (hs.1.symm.trans hs0.1)
    have a := hs.2.2.1.symm.trans hs0.2.2.1
    have b := hs.2.1.symm.trans hs0.2.1
    have e3 : tF s = tF s0 := by
      cases h1 : tF s <;> cases h2 : tF s0 <;> rw [h1, h2] at a <;> first | rfl | exact absurd a (by decide)
    have e2 : tH s = tH s0 := by
      cases h1 : tH s <;> cases h2 : tH s0 <;> rw [h1, h2] at b <;> first | rfl | exact absurd b (by decide)
    have hml : ∀ (u : TS), mOp u ≤ tO u := by intro u; unfold mOp; split <;> omega
    have e4 : tO s = tO s0 := by
      have e1' := e1
      unfold mOp at e1'
      rw [e3] at e1'
      cases h2 : tF s0
      · rw [h2] at e1'; exact e1'
      · rw [h2, if_pos rfl, if_pos rfl] at e1'
        have := hf (by rw [e3, h2]); have := hf0 h2; omega
    refine ⟨e4, e2, e3, e1, fun i hi => ?_⟩
    have k1 := ho.2.2.1 i (by have := hml s; omega)
    have k2 := ho0.2.2.1 i (by have := hml s0; omega)
    have := nI_inj (by omega) (by omega) ((hs.2.2.2 i (by omega)).symm.trans (hs0.2.2.2 i hi))
    omega
  refine ⟨fun hF0 => ?_, fun hF0 => ?_⟩
  · have hF : tF s0 = false := by rw [hs0.2.2.1, b1_0] at hF0; exact hF0
    have hmO : mOp s0 = tO s0 := by unfold mOp; rw [hF]; rfl
    have e18 : I 111 18 = nI (tO s0) := by rw [hs0.1, hmO]
    -- a machine's step, when no figure is wanted
    have stp : ∀ (s : TS) (n : Nat), mRel I s → tOk s n → tFo s → tStep s c = (if 97 ≤ c ∧ c ≤ 101 then some (tMove s (c - 97)) else if 65 ≤ c ∧ c ≤ 69 then some (tMove s (5 + (c - 65)))
        else if c = 40 then (if tO s0 < 4 then some (tOpen s 0) else none) else if c = 91 then (if tO s0 < 4 then some (tOpen s 1) else none) else if tH s0 then tIn s c else none) := by
      intro s n hs ho hf
      obtain ⟨a1, a2, a3, a4, a5⟩ := any s n hs ho hf
      unfold tStep
      rw [a3, hF, a1, a2]
      exact if_neg Bool.false_ne_true
    have letter : (97 ≤ c ∧ c ≤ 101) ∨ (65 ≤ c ∧ c ≤ 69) → v_X6_takeSign_43 (nI c) (post_X6_takeSign (nI c) I) I := by
      intro hl I1 q1
      refine ⟨fun s n hn hs ho hf => ?_, fun c hc _ => by rw [q1, wU_ne hc], fun j _ hj _ => by rw [q1, wU_off (Or.inr hj)]⟩
      obtain ⟨a1, a2, a3, a4, a5⟩ := any s n hs ho hf
      have hst : ∃ v, tStep s c = some (tMove s v) := by
        rw [stp s n hs ho hf]
        by_cases h1 : 97 ≤ c ∧ c ≤ 101
        · exact ⟨_, if_pos h1⟩
        · rcases hl with h | h
          · exact absurd h h1
          · exact ⟨_, by rw [if_neg h1, if_pos h]⟩
      obtain ⟨v, hv⟩ := hst
      rw [i_nt (by omega), hv]
      refine ⟨rfl, ?_, by rw [q1, wU_at]; rfl, ?_, fun i hi => ?_⟩
      · rw [q1, wU_off (Or.inr (by decide)), e18, ← a1]; rfl
      · rw [q1, wU_off (Or.inr (by decide)), hF0]; rfl
      · have hi : i < tO s := hi
        rw [q1, wU_ne (by decide)]; exact hs.2.2.2 i (by rw [a4, hmO, ← a1]; exact hi)
    have opening : ∀ q, (c = 40 ∧ q = 0) ∨ (c = 91 ∧ q = 1) → tO s0 < 4 → v_X6_takeSign_95 (nI c) (post_X6_takeSign (nI c) I) (nI (q + 1)) (I 111 18) I := by
      intro q hq ho4
      rw [e18]
      unfold v_X6_takeSign_95
      rw [i_cl (by omega)]
      refine ⟨i_in ho4 (by decide), fun I1 q1 I2 q2 I3 q3 => ⟨fun s n hn hs ho hf => ?_, fun c hc h2 => by rw [q3, wU_ne hc, q2, wU_ne hc, q1, wU_ne h2], fun j h18 h19 _ => by rw [q3, wU_off (Or.inr h19), q2, wU_off (Or.inr h18), q1, wU_ne (by decide)]⟩⟩
      obtain ⟨a1, a2, a3, a4, a5⟩ := any s n hs ho hf
      have a18 : I1 111 18 = nI (tO s0) := by rw [q1, wU_ne (by decide), e18]
      rw [a18, i_s] at q2
      have hst : tStep s c = some (tOpen s q) := by
        rw [stp s n hs ho hf]
        rcases hq with ⟨h, h2⟩ | ⟨h, h2⟩
        · rw [if_neg (by omega), if_neg (by omega), if_pos h, if_pos ho4, h2]
        · rw [if_neg (by omega), if_neg (by omega), if_neg (by omega), if_pos h, if_pos ho4, h2]
      rw [i_nt (by omega), hst]
      refine ⟨rfl, ?_, by rw [q3, wU_at]; rfl, ?_, fun i hi => ?_⟩
      · rw [q3, wU_off (Or.inr (by decide)), q2, wU_at]
        show nI (tO s0 + 1) = nI (tO s + 1)
        rw [a1]
      · rw [q3, wU_off (Or.inr (by decide)), q2, wU_off (Or.inr (by decide)), q1, wU_ne (by decide), hF0]; rfl
      · have hi : i < tO s + 1 := hi
        rw [q3, wU_ne (by decide), q2, wU_ne (by decide), q1, wU_same]
        show upd (I 119) (tO s0) (nI (q + 1)) i = nI (fu (tK s) (tO s) q i + 1)
        unfold upd fu
        rw [a1]
        by_cases ci : i = tO s0
        · rw [if_pos ci, if_pos ci]
        · rw [if_neg ci, if_neg ci]
          exact hs.2.2.2 i (by omega)
    have op62 : c = 40 ∨ c = 91 → v_X6_takeSign_62 (nI c) (post_X6_takeSign (nI c) I) I := by
      intro hc
      have e40 : (nI c = 40) = (c = 40) := i_eq (b := 40) (by omega) (by decide)
      unfold v_X6_takeSign_62
      rw [e40]
      have h18 : (I 111 18 = 4) = (tO s0 = 4) := by rw [e18]; exact i_eq (b := 4) (by omega) (by decide)
      rw [h18]
      refine ⟨fun n4 => ⟨fun n40 => opening 1 (Or.inr ⟨by omega, rfl⟩) (by omega), fun y40 => opening 0 (Or.inl ⟨y40, rfl⟩) (by omega)⟩, fun y4 => ⟨fun s n hn hs ho hf => ?_, mfr_refl I⟩⟩
      rw [i_nt (by omega), stp s n hs ho hf, if_neg (by omega), if_neg (by omega)]
      rcases hc with h | h
      · rw [if_pos h, if_neg (by omega)]; exact rfl
      · rw [if_neg (by omega), if_pos h, if_neg (by omega)]; exact rfl
    refine ⟨trivial, fun r1 h1 => ⟨fun a => letter (Or.inl ?_), fun a => ⟨trivial, fun r2 h2 => ⟨fun b => ?_, fun b => letter (Or.inr ?_)⟩⟩⟩⟩
    · rcases h1 with ⟨h, _⟩ | ⟨_, h⟩
      · rw [l_97, l_101, i_le (by decide) (by omega), i_le (by omega) (by decide)] at h; exact h
      · exact absurd h a
    · have n1 : ¬ (97 ≤ c ∧ c ≤ 101) := by
        rcases h1 with ⟨_, h⟩ | ⟨h, _⟩
        · rw [a] at h; exact absurd h (by decide)
        · rw [l_97, l_101, i_le (by decide) (by omega), i_le (by omega) (by decide)] at h; exact h
      have n2 : ¬ (65 ≤ c ∧ c ≤ 69) := by
        rcases h2 with ⟨_, h⟩ | ⟨h, _⟩
        · rw [b] at h; exact absurd h (by decide)
        · rw [l_65, l_69, i_le (by decide) (by omega), i_le (by omega) (by decide)] at h; exact h
      have e40 : (nI c = 40) = (c = 40) := i_eq (b := 40) (by omega) (by decide)
      have e91 : (nI c = 91) = (c = 91) := i_eq (b := 91) (by omega) (by decide)
      have e44 : (nI c = 44) = (c = 44) := i_eq (b := 44) (by omega) (by decide)
      have e41 : (nI c = 41) = (c = 41) := i_eq (b := 41) (by omega) (by decide)
      have e93 : (nI c = 93) = (c = 93) := i_eq (b := 93) (by omega) (by decide)
      rw [e40, e91]
      refine ⟨fun y => op62 (Or.inl y), fun n40 => ⟨fun n91 => ?_, fun y => op62 (Or.inr y)⟩⟩
      have stp2 : ∀ (s : TS) (n : Nat), mRel I s → tOk s n → tFo s → tStep s c = if tH s0 then tIn s c else none := by
        intro s n hs ho hf
        rw [stp s n hs ho hf, if_neg n1, if_neg n2, if_neg n40, if_neg n91]
      have h180 : (I 111 18 = 0) = (tO s0 = 0) := by rw [e18]; exact i_eq (b := 0) (by omega) (by decide)
      have h190 : (I 111 19 = 0) = (tH s0 = false) := by rw [hs0.2.1, b1_0]
      rw [h180, h190]
      have none_ : (∀ (s : TS) (n : Nat), mRel I s → tOk s n → tFo s → tStep s c = none) → ∀ I', mfr I I' → post_X6_takeSign (nI c) I 0 I' := by
        intro h I' hf'
        refine ⟨fun s n hn hs ho hf => ?_, hf'⟩
        rw [i_nt (by omega), h s n hs ho hf]; exact rfl
      refine ⟨fun y => none_ (fun s n hs ho hf => ?_) I (mfr_refl I), fun hz => ⟨fun hH => ?_, fun y => none_ (fun s n hs ho hf => ?_) I (mfr_refl I)⟩⟩
      · rw [stp2 s n hs ho hf]
        unfold tIn
        rw [(any s n hs ho hf).1, if_pos y]
        split <;> rfl
      · have hH : tH s0 = true := by cases h : tH s0; exact absurd h hH; rfl
        obtain ⟨o, eo⟩ : ∃ o, tO s0 = o + 1 := ⟨tO s0 - 1, by omega⟩
        have hko := ho0.2.2.1 o (by omega)
        have ek : I 119 o = nI (tK s0 o + 1) := hs0.2.2.2 o (by omega)
        have stp3 : ∀ (s : TS) (n : Nat), mRel I s → tOk s n → tFo s → tStep s c = if tK s0 o = 0 ∧ c = 41 then some (tRound s) else if tK s0 o = 1 ∧ c = 44 then some (tComma s) else if tK s0 o = 2 ∧ c = 93 then some (tPair s) else none := by
          intro s n hs ho hf
          obtain ⟨a1, a2, a3, a4, a5⟩ := any s n hs ho hf
          rw [stp2 s n hs ho hf, hH, if_pos rfl]
          unfold tIn
          rw [a1, if_neg hz, eo, Nat.add_sub_cancel, a5 o (by omega)]
        have hv : vp_in (nI o) 4 := i_in (by omega) (by decide)
        -- the bracket is closed, by its sign
        have close_ : ∀ (t : Nat) (I1 : wI), t ≤ 1 → (∀ s, (tK s0 o = 0 ∧ c = 41 ∧ t = 1 ∨ ¬ (tK s0 o = 0 ∧ c = 41) ∧ ¬ (tK s0 o = 1 ∧ c = 44) ∧ tK s0 o = 2 ∧ c = 93 ∧ t = 0) → I1 = wU I 111 20 (nI t) → post_X6_takeSign (nI c) I 1 (wU I1 111 18 (I1 111 18 - s)) ∨ s ≠ 1) := by
          intro t I1 ht s hcase q1
          by_cases hs1 : s = 1
          · left
            subst hs1
            have a18 : I1 111 18 = nI (o + 1) := by rw [q1, wU_off (Or.inr (by decide)), e18, eo]
            rw [a18, down_p]
            refine ⟨fun s n hn hs ho hf => ?_, fun c hc _ => by rw [wU_ne hc, q1, wU_ne hc], fun j h18 _ h20 => by rw [wU_off (Or.inr h18), q1, wU_off (Or.inr h20)]⟩
            obtain ⟨a1, a2, a3, a4, a5⟩ := any s n hs ho hf
            rw [i_nt (by omega), stp3 s n hs ho hf]
            have g19 : wU I1 111 18 (nI o) 111 19 = if tH s then 1 else 0 := by rw [wU_off (Or.inr (by decide)), q1, wU_off (Or.inr (by decide))]; exact hs.2.1
            have gk : ∀ i, i < o → wU I1 111 18 (nI o) 119 i = nI (tK s i + 1) := fun i hi => by rw [wU_ne (by decide), q1, wU_ne (by decide)]; exact hs.2.2.2 i (by omega)
            have g20 : wU I1 111 18 (nI o) 111 20 = nI t := by rw [wU_off (Or.inr (by decide)), q1, wU_at]
            rcases hcase with ⟨k0, c41, rfl⟩ | ⟨nk0, nk1, k2, c93, rfl⟩
            · rw [if_pos ⟨k0, c41⟩]
              have hmo : mOp (tRound s) = o := by show tO s - 1 = o; omega
              exact ⟨rfl, by rw [wU_at, hmo], g19, by rw [g20]; rfl, fun i hi => gk i (by rw [hmo] at hi; exact hi)⟩
            · rw [if_neg nk0, if_neg nk1, if_pos ⟨k2, c93⟩]
              have hmo : mOp (tPair s) = o := by show tO s - 1 = o; omega
              exact ⟨rfl, by rw [wU_at, hmo], g19, by rw [g20]; rfl, fun i hi => gk i (by rw [hmo] at hi; exact hi)⟩
          · exact Or.inr hs1
        have not_ : ¬ (tK s0 o = 0 ∧ c = 41) → ¬ (tK s0 o = 1 ∧ c = 44) → ¬ (tK s0 o = 2 ∧ c = 93) → ∀ I1, I1 = wU I 111 20 0 → v_X6_takeSign_231 (nI c) (post_X6_takeSign (nI c) I) I1 := by
          intro a1 a2 a3 I1 q1
          refine vl_X6_ts_cl (Or.inl rfl) (none_ (fun s n hs ho hf => by rw [stp3 s n hs ho hf, if_neg a1, if_neg a2, if_neg a3]) _ ⟨fun c hc _ => by rw [wU_ne hc, q1, wU_ne hc], fun j h18 _ h20 => by rw [wU_off (Or.inr h18), q1, wU_off (Or.inr h20)]⟩)
        have k195 : ¬ (tK s0 o = 0 ∧ c = 41) → ¬ (tK s0 o = 1 ∧ c = 44) → v_X6_takeSign_195 (nI c) (post_X6_takeSign (nI c) I) I := by
          intro a1 a2
          refine ⟨Or.inl rfl, fun I1 q1 => ?_⟩
          have a18 : I1 111 18 = nI (o + 1) := by rw [q1, wU_off (Or.inr (by decide)), e18, eo]
          have a20 : I1 111 20 = 0 := by rw [q1, wU_at]
          have a119 : I1 119 o = nI (tK s0 o + 1) := by rw [q1, wU_ne (by decide), ek]
          rw [a20, a18, down_p, i_cl (by omega), a119, e93, show (nI (tK s0 o + 1) = 3) = (tK s0 o + 1 = 3) from i_eq (b := 3) (by omega) (by decide)]
          refine ⟨fun q => absurd rfl q, fun _ => ⟨fun n93 => not_ a1 a2 (fun q => n93 q.2) I1 q1, fun y93 => ⟨hv, fun n2 => not_ a1 a2 (fun q => n2 (by omega)) I1 q1, fun y2 => ?_⟩⟩⟩
          refine vl_X6_ts_cl (Or.inr rfl) ?_
          rcases close_ 0 I1 (by decide) 1 (Or.inr ⟨a1, a2, by omega, y93, rfl⟩) q1 with h | h
          · exact h
          · exact absurd rfl h
        have k169 : ¬ (tK s0 o = 1 ∧ c = 44) → v_X6_takeSign_169 (nI c) (post_X6_takeSign (nI c) I) I := by
          intro a2
          unfold v_X6_takeSign_169
          rw [e41, e18, eo, down_p, i_cl (by omega), ek, show (nI (tK s0 o + 1) = 1) = (tK s0 o + 1 = 1) from i_eq (b := 1) (by omega) (by decide)]
          refine ⟨fun n41 => k195 (fun q => n41 q.2) a2, fun y41 => ⟨hv, fun n0 => k195 (fun q => n0 (by omega)) a2, fun y0 => ⟨Or.inr rfl, fun I1 q1 => ?_⟩⟩⟩
          have a20 : I1 111 20 = 1 := by rw [q1, wU_at]
          rw [a20]
          refine ⟨fun _ => vl_X6_ts_cl (Or.inr rfl) ?_, fun q => absurd q (by decide)⟩
          rcases close_ 1 I1 (by decide) 1 (Or.inl ⟨by omega, y41, rfl⟩) q1 with h | h
          · exact h
          · exact absurd rfl h
        rw [e44, e18, eo, down_p, i_cl (by omega), ek, show (nI (tK s0 o + 1) = 2) = (tK s0 o + 1 = 2) from i_eq (b := 2) (by omega) (by decide)]
        refine ⟨fun n44 => k169 (fun q => n44 q.2), fun y44 => ⟨hv, fun n1' => k169 (fun q => n1' (by omega)), fun y1 => ⟨hv, fun I3 q3 I4 q4 => ⟨fun s n hn hs ho hf => ?_, fun c hc h2 => by rw [q4, wU_ne hc, q3, wU_ne h2], fun j _ h19 _ => by rw [q4, wU_off (Or.inr h19), q3, wU_ne (by decide)]⟩⟩⟩⟩
        obtain ⟨a1, a2, a3, a4, a5⟩ := any s n hs ho hf
        rw [i_nt (by omega), stp3 s n hs ho hf, if_neg (fun q => by omega), if_pos ⟨by omega, y44⟩]
        refine ⟨rfl, ?_, by rw [q4, wU_at]; rfl, ?_, fun i hi => ?_⟩
        · rw [q4, wU_off (Or.inr (by decide)), q3, wU_ne (by decide), e18, ← a1]; rfl
        · rw [q4, wU_off (Or.inr (by decide)), q3, wU_ne (by decide), hF0]; rfl
        · have hi : i < tO s := hi
          rw [q4, wU_ne (by decide), q3, wU_same]
          show upd (I 119) o 3 i = nI (fu (tK s) (tO s - 1) 2 i + 1)
          unfold upd fu
          rw [show tO s - 1 = o by omega]
          by_cases ci : i = o
          · rw [if_pos ci, if_pos ci]; rfl
          · rw [if_neg ci, if_neg ci]
            exact hs.2.2.2 i (by omega)
      · rw [stp2 s n hs ho hf, y]; rfl
    · rcases h2 with ⟨h, _⟩ | ⟨_, h⟩
      · rw [l_65, l_69, i_le (by decide) (by omega), i_le (by omega) (by decide)] at h; exact h
      · exact absurd h b
  · have hF : tF s0 = true := by
      rw [hs0.2.2.1, b1_0] at hF0
      cases h : tF s0
      · exact absurd h hF0
      · rfl
    intro I5 q5
    refine ⟨trivial, fun r6 h6 => ⟨?_, fun s n hn hs ho hf => ?_, fun c hc _ => by rw [q5, wU_ne hc], fun j _ _ hj => by rw [q5, wU_off (Or.inr hj)]⟩⟩
    · rcases h6 with ⟨_, h⟩ | ⟨_, h⟩
      · exact Or.inr h
      · exact Or.inl h
    · obtain ⟨a1, a2, a3, a4, a5⟩ := any s n hs ho hf
      have hz := hf (a3.trans hF)
      have hmo : mOp s = tO s - 1 := by unfold mOp; rw [a3, hF]; rfl
      rw [i_nt (by omega)]
      unfold tStep
      rw [a3, hF, if_pos rfl]
      unfold post_X6_in at h6
      rw [l_50, l_57, i_le (by decide) (by omega), i_le (by omega) (by decide)] at h6
      rcases h6 with ⟨h, e⟩ | ⟨h, e⟩
      · rw [if_pos ⟨h.1, h.2, hz⟩]
        refine ⟨e, ?_, ?_, by rw [q5, wU_at]; rfl, fun i hi => ?_⟩
        · rw [q5, wU_off (Or.inr (by decide)), hs.1, hmo]; rfl
        · rw [q5, wU_off (Or.inr (by decide))]; exact hs.2.1
        · have hi : i < tO s - 1 := hi
          rw [q5, wU_ne (by decide)]; exact hs.2.2.2 i (by rw [hmo]; exact hi)
      · rw [if_neg (fun q => h ⟨q.1, q.2.1⟩)]; exact e
theorem vl_X6_findError {I : wI} (h0 : okM I) {L : Nat} (eL : I 111 8 = nI L) (hL : L ≤ 60) : ∀ (m i : Nat) (s : TS) (I' : wI), i + m = L → tOk s i → mRel I' s → tFo s → mfr I I' → tGo (xA (absM I)) m i s = tRes (absM I) → v_X6_findError_17 (post_X6_findError I) (m + 1) (nI i) I'
  | m, i, s, I', e, ho, hr, hF, hf, hg => by
    have hA2 : nt (absM I 2 2) = L := by rw [absM_22, eL, i_nt (by omega)]
    have e8 : I' 111 8 = nI L := by rw [hf.2 8 (by decide) (by decide) (by decide), eL]
    show g_X6_findError_17 ..
    unfold g_X6_findError_17
    rw [e8, i_le (by omega) (by omega)]
    refine ⟨fun c => ?_, fun c => ⟨i_in (by omega) (by decide), ?_⟩⟩
    · obtain rfl : m = 0 := by omega
      have hg : (i, s) = tRes (absM I) := hg
      have e2 : aErr (absM I) = i := by show (tRes (absM I)).1 = i; rw [← hg]
      exact ⟨by rw [e2], fun _ => by rw [← hg]; exact hr, hf⟩
    · obtain ⟨m, rfl⟩ : ∃ k, m = k + 1 := ⟨m - 1, by omega⟩
      obtain ⟨L', hL', eL', hch⟩ := h0.2.2.2
      have eLL : L' = L := nI_inj (by omega) (by omega) (eL'.symm.trans eL)
      obtain ⟨c, hc, hc2, ec⟩ := hch i (by omega)
      have e116 : I' 116 i = nI c := by rw [hf.1 116 (by decide) (by decide)]; exact ec
      have ex : xA (absM I) i = c := by
        show nt (if i < nt (I 111 8) then I 116 i else 0) = c
        rw [eL, i_nt (by omega), if_pos (by omega), ec, i_nt (by omega)]
      rw [i_cl (by omega), e116]
      refine ⟨⟨⟨c, hc, hc2, rfl⟩, s, i, by omega, hr, ho, hF⟩, fun r1 I2 h2 => ?_⟩
      have hfr := mfr_trans hf h2.2
      have h3 := h2.1 s i (by omega) hr ho hF
      rw [i_nt (by omega)] at h3
      have hg' : (match tStep s c with | none => (i, s) | some s' => tGo (xA (absM I)) m (i + 1) s') = tRes (absM I) := by
        rw [← hg, tGo_s, ex]
        cases tStep s c <;> rfl
      cases hs : tStep s c with
      | none =>
        rw [hs] at h3 hg'
        have h3 : r1 = 0 := h3
        have e2 : aErr (absM I) = i := by show (tRes (absM I)).1 = i; rw [← hg']
        exact ⟨fun _ => ⟨by rw [e2], fun z => absurd z (by rw [e2, hA2]; omega), hfr⟩, fun q => absurd h3 q⟩
      | some s' =>
        rw [hs] at h3 hg'
        obtain ⟨g1, g2⟩ := h3
        refine ⟨fun q => by rw [g1] at q; exact absurd q (by decide), fun _ => ?_⟩
        rw [i_s]
        exact vl_X6_findError h0 eL hL m (i + 1) s' I2 (by omega) (tStep_ok ho hs) g2 (tFo_step hs) hfr hg'
theorem vc_X6_findError (I : wI) (hp : pre_X6_findError I) : v_X6_findError I (post_X6_findError I) := by
  have h0 : okM I := hp
  intro I1 q1 I2 q2 I3 q3
  obtain ⟨L, hL, eL, _⟩ := h0.2.2.2
  have hf : mfr I I3 := ⟨fun c a _ => by rw [q3, wU_ne a, q2, wU_ne a, q1, wU_ne a], fun j a b d => by rw [q3, wU_off (Or.inr d), q2, wU_off (Or.inr b), q1, wU_off (Or.inr a)]⟩
  refine ⟨L + 1, vl_X6_findError h0 eL hL L 0 t0 I3 (by omega) t0_ok ⟨?_, ?_, ?_, fun i hi => absurd hi (Nat.not_lt_zero _)⟩ (fun q => absurd q (by decide)) hf ?_⟩
  · rw [q3, wU_off (Or.inr (by decide)), q2, wU_off (Or.inr (by decide)), q1, wU_at]; rfl
  · rw [q3, wU_off (Or.inr (by decide)), q2, wU_at]; rfl
  · rw [q3, wU_at]; rfl
  · show _ = tGo _ (nt (absM I 2 2)) 0 t0
    rw [absM_22, eL, i_nt (by omega)]
