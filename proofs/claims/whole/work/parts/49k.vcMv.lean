/-! ===== the model's words ===== -/
theorem ssU_app {T V : List Nat} : ∀ i, i ≤ T.length → ssU (T ++ V) i = ssU T i
  | 0, _ => rfl
  | i + 1, h => by
    show ssU (T ++ V) i + (if (T ++ V).getD i 0 < 5 then (1 : Int32) else -1) = ssU T i + (if T.getD i 0 < 5 then 1 else -1)
    rw [ssU_app i (by omega), gd_left (by omega)]
theorem mw_11 {I : wI} {T : List Nat} (h : mwR I T) : I 111 11 = nI (min 501 T.length) := by rw [h.1, List.length_take]
theorem mw_more {I : wI} {T Y : List Nat} (h : mwR I T) (hl : 501 ≤ T.length) : mwR I (T ++ Y) := by
  have e : ((T ++ Y).take 501).length = (T.take 501).length := by rw [List.length_take, List.length_take, List.length_append]; omega
  refine ⟨by rw [e]; exact h.1, fun i hi h5 => ?_, ?_⟩
  · rw [gd_left (by omega)]; exact h.2.1 i (by omega) h5
  · rw [e, ssU_app _ (by rw [List.length_take]; omega)]; exact h.2.2
theorem mw_fr {I I' : wI} {T : List Nat} (h : mwR I T) (h1 : I' 111 11 = I 111 11) (h2 : I' 111 12 = I 111 12) (h3 : I' 118 = I 118) : mwR I' T := ⟨by rw [h1]; exact h.1, fun i a b => by rw [h3]; exact h.2.1 i a b, by rw [h2]; exact h.2.2⟩
theorem mwf_trans {I I1 I2 : wI} (h : mwf I I1) (h2 : mwf I1 I2) : mwf I I2 := ⟨fun c a b => by rw [h2.1 c a b, h.1 c a b], fun j a b => by rw [h2.2 j a b, h.2 j a b]⟩
theorem mwf_refl (I : wI) : mwf I I := ⟨fun _ _ _ => rfl, fun _ _ _ => rfl⟩
theorem vc_X6_addTurn (x1 : Int32) (I : wI) (hp : pre_X6_addTurn x1 I) : v_X6_addTurn x1 I (post_X6_addTurn x1 I) := by
  obtain ⟨⟨v, hv, rfl⟩, n, hn, en⟩ := hp
  have k20 : ∀ I', I' = (if n < 500 then wU I 118 n (nI v) else I) → v_X6_addTurn_20 (nI v) (post_X6_addTurn (nI v) I) I' := by
    intro I' e' I1 q1
    have h12 : I1 111 12 = I 111 12 := by rw [q1, wU_off (Or.inr (by decide)), e']; split <;> simp [wU]
    have h11 : I' 111 11 = nI n := by rw [e']; split <;> simp [wU, en]
    rw [h11, i_s] at q1
    rw [h12, l_5, i_le (by decide) (by omega)]
    unfold v_X6_addTurn_45 post_X6_addTurn
    rw [en, i_nt (by omega), i_nt (by omega), ← e', ← q1]
    refine ⟨fun h I2 q2 => ?_, fun h I2 q2 => ?_⟩
    · rw [if_neg (by omega)]; exact q2
    · rw [if_pos (by omega)]; exact q2
  unfold v_X6_addTurn
  rw [en, l_500, i_le (by decide) (by omega)]
  refine ⟨fun h => k20 I (by rw [if_neg (by omega)]), fun h => ⟨i_in (by omega) (by decide), fun I1 q1 => k20 I1 (by rw [if_pos (by omega), q1, i_cl (by omega)])⟩⟩
theorem mw_add {I I' : wI} {T : List Nat} {v : Nat} (h : mwR I T) (hl : T.length ≤ 500) (hv : v < 10) (q : post_X6_addTurn (nI v) I I') : mwR I' (T ++ [v]) ∧ mwf I I' := by
  have hl2 : (T ++ [v]).length = T.length + 1 := by rw [List.length_append]; rfl
  have e11 : I 111 11 = nI T.length := by rw [mw_11 h, Nat.min_eq_right (by omega)]
  have e12 : I 111 12 = ssU T T.length := by rw [h.2.2, List.length_take, Nat.min_eq_right (by omega)]
  unfold post_X6_addTurn at q
  rw [e11, e12, i_nt (by omega), i_nt (by omega)] at q
  have ew : ((T ++ [v]).take 501).length = T.length + 1 := by rw [List.length_take, hl2]; omega
  refine ⟨⟨?_, fun i hi h5 => ?_, ?_⟩, fun c a b => ?_, fun j a b => ?_⟩
  · rw [ew, q, wU_off (Or.inr (by decide)), wU_at]
  · rw [q, wU_ne (by decide), wU_ne (by decide)]
    by_cases c5 : T.length < 500
    · rw [if_pos c5]
      by_cases ci : i = T.length
      · rw [ci, wU_at, gd_right (by omega), Nat.sub_self]; rfl
      · rw [wU_off (Or.inr ci), gd_left (by omega)]; exact h.2.1 i (by omega) h5
    · rw [if_neg c5, gd_left (by omega)]; exact h.2.1 i (by omega) h5
  · rw [ew, q, wU_at]
    show _ = ssU (T ++ [v]) T.length + (if (T ++ [v]).getD T.length 0 < 5 then (1 : Int32) else -1)
    rw [ssU_app _ (Nat.le_refl _), gd_right (by omega), Nat.sub_self]; rfl
  · rw [q, wU_ne a, wU_ne a]
    split
    · rw [wU_ne b]
    · rfl
  · rw [q, wU_off (Or.inr b), wU_off (Or.inr a)]
    split
    · rw [wU_ne (by decide)]
    · rfl
theorem slM_len (I : wI) (a b : Nat) : (slM I a b).length = b - a := by unfold slM; rw [List.length_map, List.length_range]
theorem slM_gd {I : wI} {a b j : Nat} (h : j < b - a) : (slM I a b).getD j 0 = nt (I 118 (a + j)) := by
  unfold slM
  rw [List.getD_eq_getElem?_getD, List.getElem?_map, List.getElem?_range h]; rfl
theorem take_s' {T : List Nat} {n : Nat} (h : n < T.length) : T.take (n + 1) = T.take n ++ [T.getD n 0] := (take_s h).symm
theorem vl_X6_addAgain {I : wI} {a b : Nat} {x3 : Int32} {X : List Nat} (h500 : b ≤ 500) (h10 : ∀ i, i < b → isN 10 (I 118 i)) (hx3 : x3 = 0 ∨ x3 = 1) (hXl : X.length = b - a) (hab : a ≤ b)
    (hX : ∀ j, j < b - a → X.getD j 0 = if x3 = 0 then nt (I 118 (a + j)) else oppV (nt (I 118 (b - 1 - j)))) (Q : wI → Prop) (hQ : ∀ I', (∀ T, mwR I T → mwR I' (T ++ X)) → mwf I I' → Q I') :
    ∀ (m j : Nat) (I' : wI), j + m = b - a → (∀ T, mwR I T → mwR I' (T ++ X.take j)) → mwf I I' → (∀ i, i < b → I' 118 i = I 118 i) → (∃ n, n ≤ 501 ∧ b ≤ n ∧ I' 111 11 = nI n) → v_X6_addAgain_3 (nI a) (nI b) x3 Q (m + 1) (nI (a + j)) I'
  | m, j, I', e, hT, hf, hw, hn => by
    obtain ⟨n, hn, hbn, en⟩ := hn
    show g_X6_addAgain_3 ..
    unfold g_X6_addAgain_3
    rw [i_le (by omega) (by omega), en, l_500, i_lt (by decide) (by omega)]
    refine ⟨fun c => hQ I' (fun T h => ?_) hf, fun c => ⟨fun c5 => hQ I' (fun T h => ?_) hf, fun c5 => ?_⟩⟩
    · have := hT T h
      rw [List.take_of_length_le (by omega)] at this; exact this
    · have h1 := hT T h
      have h2 := mw_11 h1
      rw [en] at h2
      have h3 := nI_inj (by omega) (by omega) h2
      have h4 := mw_more (Y := X.drop j) h1 (by omega)
      rw [List.append_assoc, List.take_append_drop] at h4; exact h4
    · have hj : j < b - a := by omega
      obtain ⟨m, rfl⟩ : ∃ k, m = k + 1 := ⟨m - 1, by omega⟩
      -- the turn that is added
      have add_ : ∀ v, v < 10 → X.getD j 0 = v → v_X6_addAgain_60 (nI a) (nI b) x3 Q (v_X6_addAgain_3 (nI a) (nI b) x3 Q (m + 1)) (nI (a + j)) (nI v) I' := by
        intro v hv ev
        refine ⟨⟨⟨v, hv, rfl⟩, n, by omega, en⟩, fun I1 q1 => ?_⟩
        rw [i_s]
        have hwf : mwf I' I1 ∧ (∀ i, i < b → I1 118 i = I' 118 i) ∧ I1 111 11 = nI (n + 1) := by
          unfold post_X6_addTurn at q1
          rw [en, i_nt (by omega)] at q1
          refine ⟨⟨fun c a b => ?_, fun j a b => ?_⟩, fun i hi => ?_, ?_⟩
          · rw [q1, wU_ne a, wU_ne a]
            split
            · rw [wU_ne b]
            · rfl
          · rw [q1, wU_off (Or.inr b), wU_off (Or.inr a)]
            split
            · rw [wU_ne (by decide)]
            · rfl
          · rw [q1, wU_ne (by decide), wU_ne (by decide)]
            split
            · rw [wU_off (Or.inr (by omega))]
            · rfl
          · rw [q1, wU_off (Or.inr (by decide)), wU_at]
        refine vl_X6_addAgain h500 h10 hx3 hXl hab hX Q hQ m (j + 1) I1 (by omega) (fun T h => ?_) (mwf_trans hf hwf.1) (fun i hi => by rw [hwf.2.1 i hi, hw i hi]) ⟨n + 1, by omega, by omega, hwf.2.2⟩
        have h1 := hT T h
        have h2 := mw_11 h1
        rw [en] at h2
        have h3 := nI_inj (by omega) (by omega) h2
        have h4 := (mw_add h1 (by omega) hv q1).1
        rw [take_s' (by omega), ev, ← List.append_assoc]; exact h4
      rcases hx3 with rfl | rfl
      · refine ⟨fun _ => ?_, fun q => absurd rfl q⟩
        unfold v_X6_addAgain_40
        rw [i_cl (by omega), hw _ (by omega)]
        obtain ⟨v, hv, e18⟩ := h10 (a + j) (by omega)
        refine ⟨i_in (by omega) (by decide), fun _ => ?_, fun q => absurd rfl q⟩
        rw [e18]
        exact add_ v hv (by rw [hX j hj, if_pos rfl, e18, i_nt (by omega)])
      · refine ⟨fun q => absurd q (by decide), fun _ => ?_⟩
        rw [l_1, i_add, i_sub (by omega), i_sub (by omega), show a + b - 1 - (a + j) = b - 1 - j by omega]
        unfold v_X6_addAgain_40
        rw [i_cl (by omega), hw _ (by omega)]
        obtain ⟨v, hv, e18⟩ := h10 (b - 1 - j) (by omega)
        refine ⟨i_in (by omega) (by decide), fun q => absurd q (by decide), fun _ => ?_⟩
        rw [e18, l_5, l_10, i_add, i_rem (by omega) (by decide) (by decide)]
        exact add_ ((v + 5) % 10) (Nat.mod_lt _ (by decide)) (by rw [hX j hj, if_neg (by decide), e18, i_nt (by omega)]; rfl)
theorem vc_X6_addAgain (x1 x2 x3 : Int32) (I : wI) (hp : pre_X6_addAgain x1 x2 x3 I) : v_X6_addAgain x1 x2 x3 I (post_X6_addAgain x1 x2 x3 I) := by
  obtain ⟨⟨n, a, b, hn, en, rfl, rfl, hab, hb5, hbn, h10⟩, hx3⟩ := hp
  refine ⟨b - a + 1, vl_X6_addAgain (X := if x3 = 0 then slM I a b else opp (slM I a b)) hb5 h10 hx3 ?_ hab (fun j hj => ?_) _ (fun I' h1 h2 => ⟨fun T h => ?_, h2⟩) (b - a) 0 I (by omega) (fun T h => ?_) (mwf_refl I) (fun _ _ => rfl) ⟨n, hn, hbn, en⟩⟩
  · split
    · exact slM_len I a b
    · rw [opp_len]; exact slM_len I a b
  · split
    · exact slM_gd hj
    · rw [opp_gd (by rw [slM_len]; exact hj), slM_len, slM_gd (by omega), show a + (b - a - 1 - j) = b - 1 - j by omega]
  · rw [List.take_zero, List.append_nil]; exact h
  · rw [i_nt (by omega), i_nt (by omega)]; exact h1 T h
