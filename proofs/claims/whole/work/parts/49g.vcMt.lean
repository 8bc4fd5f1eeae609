/-! ===== the model's text ===== -/
theorem mfr_S {I I' : wI} (h : mfr I I') : frT I I' := ⟨⟨fun c hc => h.1 c (by omega) (by omega), h.2 4 (by decide) (by decide) (by decide), h.2 6 (by decide) (by decide) (by decide), h.2 8 (by decide) (by decide) (by decide)⟩, h.2 0 (by decide) (by decide) (by decide)⟩
theorem mfr_trans {I I1 I2 : wI} (h : mfr I I1) (h2 : mfr I1 I2) : mfr I I2 := ⟨fun c a b => by rw [h2.1 c a b, h.1 c a b], fun j a b c => by rw [h2.2 j a b c, h.2 j a b c]⟩
theorem mfr_refl (I : wI) : mfr I I := ⟨fun _ _ _ => rfl, fun _ _ _ _ => rfl⟩
theorem tFo_step {s s' : TS} {c : Nat} (e : tStep s c = some s') : tFo s' := by
  intro hF
  unfold tStep at e
  split at e
  · split at e
    · cases e; exact absurd hF Bool.false_ne_true
    · cases e
  split at e
  · cases e; exact absurd hF Bool.false_ne_true
  split at e
  · cases e; exact absurd hF Bool.false_ne_true
  split at e
  · split at e
    · cases e; exact absurd hF Bool.false_ne_true
    · cases e
  split at e
  · split at e
    · cases e; exact absurd hF Bool.false_ne_true
    · cases e
  split at e
  · unfold tIn at e
    split at e
    · cases e
    rename_i ho
    split at e
    · cases e; exact ho
    split at e
    · cases e; exact absurd hF Bool.false_ne_true
    split at e
    · cases e; exact absurd hF Bool.false_ne_true
    · cases e
  · cases e
theorem vc_X6_firstError (I : wI) (hp : pre_X6_firstError I) : v_X6_firstError I (post_X6_firstError I) := by
  have h0 : okM I := hp
  intro I1 q1
  obtain ⟨e0, hS, eR⟩ := thr_use q1
  refine ⟨okM_S hS h0, fun r2 I3 h3 => ?_⟩
  obtain ⟨g1, _, g3⟩ := h3
  rw [absM_S hS] at g1
  have hT := mfr_S g3
  exact ⟨g1, by rw [hT.2, e0], frS_trans hS hT.1⟩
theorem vc_X6_isWhole (I : wI) (hp : pre_X6_isWhole I) : v_X6_isWhole I (post_X6_isWhole I) := by
  have h0 : okM I := hp
  refine ⟨h0, fun r1 I2 h2 => ?_⟩
  obtain ⟨g1, g2, g3⟩ := h2
  obtain ⟨L, hL, eL, _⟩ := h0.2.2.2
  have hA : nt (absM I 2 2) = L := by rw [absM_22, eL, i_nt (by omega)]
  have hE : aErr (absM I) ≤ L := by
    have := (tGo_le (xA (absM I)) (nt (absM I 2 2)) 0 t0).2
    show (tGo (xA (absM I)) (nt (absM I 2 2)) 0 t0).1 ≤ L
    rw [hA] at this ⊢; omega
  have no : ¬ aWhole (absM I) → v_X6_isWhole_36 (post_X6_isWhole I) I2 := fun hn => ⟨Or.inl rfl, Or.inr ⟨hn, rfl⟩, g3⟩
  rw [g1, g3.2 8 (by decide) (by decide) (by decide), eL, i_eq (by omega) (by omega)]
  refine ⟨fun z => no (fun q => z (by rw [← hA]; exact q.1)), fun z => ?_⟩
  have hm := g2 (by rw [hA]; exact z)
  have ho := tRes_ok (absM I)
  have hop : mOp (tRes (absM I)).2 ≤ 4 := by unfold mOp; have := ho.1; split <;> omega
  rw [hm.1, l_0, i_eq (by omega) (by decide), hm.2.1, hm.2.2.1, ← l_0, b1_0, b1_0]
  refine ⟨fun z2 => no (fun q => z2 ?_), fun z2 => ⟨fun z3 => no (fun q => by rw [q.2.2.1] at z3; exact absurd z3 (by decide)), fun z3 => ⟨fun z4 => no (fun q => z4 q.2.2.2), fun z4 => ⟨Or.inr rfl, Or.inl ⟨⟨by rw [hA]; exact z, ?_, ?_, z4⟩, rfl⟩, g3⟩⟩⟩⟩
  · unfold mOp; rw [q.2.2.2, if_neg (by decide)]; exact q.2.1
  · unfold mOp at z2; rw [z4, if_neg (by decide)] at z2; exact z2
  · cases h : tH (tRes (absM I)).2
    · exact absurd h z3
    · rfl
