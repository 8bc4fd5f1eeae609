/-! ===== the model's digest ===== -/
theorem mfr_ok {I I' : wI} (h0 : okM I) (h : frT I I') : okM I' ∧ absM I' = absM I ∧ rowM I' = absM I 0 := ⟨okM_S h.1 h0, absM_S h.1, frT_row h⟩
theorem vl_md294 {I0 I : wI} (h0 : okM I) {Q : Int64 → wI → Prop} {L : Nat} {h : Int64} (eL : I 111 8 = nI L) (hL : L ≤ 60) (hQ : Q (dgB (absM I) h L) I) : ∀ m j, j + m = L → v_X6_digest_294 Q (m + 1) (dgB (absM I) h j) (nI j) I
  | m, j, e => by
    show g_X6_digest_294 ..
    unfold g_X6_digest_294
    rw [eL, i_le (by omega) (by omega), i_s]
    refine ⟨fun c => ?_, fun c => ⟨i_in (by omega) (by decide), ?_⟩⟩
    · rw [show j = L by omega]; exact hQ
    · obtain ⟨m, rfl⟩ : ∃ k, m = k + 1 := ⟨m - 1, by omega⟩
      rw [i_cl (by omega)]
      have e2 : (31 : Int64) * dgB (absM I) h j + (I 116 j).toInt64 = dgB (absM I) h (j + 1) := by
        show _ = mx (dgB (absM I) h j) (if j < nt (I 111 8) then I 116 j else 0).toInt64
        rw [eL, i_nt (by omega), if_pos (by omega)]; rfl
      rw [e2]
      exact vl_md294 (I0 := I0) h0 eL hL hQ m (j + 1) (by omega)
theorem vl_md152 {I : wI} (h0 : okM I) {h : Int64} (Q : Int64 → wI → Prop) (hQ : ∀ I', frT I I' → Q (dgB (absM I) (mx (mx (mx (mx (mx (mx (mx (dgR (absM I) h 125) (aOp (absM I 0) 0).toInt64) (aOp (absM I 0) 1).toInt64) (aCl (absM I 0)).toInt64) (shD (aRt (absM I 0))).toInt64) (shF (aNS (absM I 0))).toInt32.toInt64) (absM I 2 0).toInt64) (absM I 2 2).toInt64) (nt (absM I 2 2))) I') :
    ∀ m k I', k + m = 125 → frT I I' → v_X6_digest_152 Q (m + 1) (dgR (absM I) h k) (nI k) I'
  | m, k, I', e, hf => by
    obtain ⟨o1, a1, r1'⟩ := mfr_ok h0 hf
    show g_X6_digest_152 ..
    unfold g_X6_digest_152
    rw [l_125, i_le (by decide) (by omega), l_5, l_25, i_rem (a := k) (by omega) (by decide) (by decide), i_div (a := k) (d := 25) (by omega) (by decide) (by decide), i_div (a := k) (d := 5) (by omega) (by decide) (by decide), i_rem (a := k / 5) (by omega) (by decide) (by decide), i_s]
    refine ⟨fun c => ?_, fun c => ⟨⟨o1.1, ⟨⟨k / 25, by omega, rfl⟩, k / 5 % 5, by omega, rfl⟩, k % 5, by omega, rfl⟩, fun r11 I12 h11 => ?_⟩⟩
    · rw [show k = 125 by omega]
      refine ⟨⟨o1.1, 0, by decide, rfl⟩, fun r1 I2 h1 => ?_⟩
      obtain ⟨g1, f1⟩ := h1
      have f2 := frT_trans hf f1
      obtain ⟨o2, a2, q2⟩ := mfr_ok h0 f2
      refine ⟨⟨o2.1, 1, by decide, rfl⟩, fun r3 I4 h3 => ?_⟩
      obtain ⟨g3, f3⟩ := h3
      have f4 := frT_trans f2 f3
      obtain ⟨o4, a4, q4⟩ := mfr_ok h0 f4
      refine ⟨o4.1, fun r5 I6 h5 => ?_⟩
      obtain ⟨g5, f5⟩ := h5
      have f6 := frT_trans f4 f5
      obtain ⟨o6, a6, q6⟩ := mfr_ok h0 f6
      rw [r1', show nt (0 : Int32) = 0 from rfl] at g1
      rw [q2, show nt (1 : Int32) = 1 from rfl] at g3
      rw [q4] at g5
      refine ⟨o6.1, fun r7 h7 => ?_⟩
      unfold post_X6_right at h7
      rw [q6] at h7
      subst h7
      refine ⟨shD_n (aRt_le _), ⟨_, aRt_le (absM I 0), rfl⟩, fun r8 h8 => ⟨o6.1, fun r9 h9 => ?_⟩⟩
      unfold post_X6_notches at h9
      rw [q6] at h9
      subst h9
      have hns : aNS (absM I 0) ≤ 24 := by rw [← q6]; exact aNS_le o6.1
      refine ⟨shF_n hns, ⟨_, hns, rfl⟩, fun r10 h10 => ?_⟩
      have h8 : r8 = (shD (aRt (absM I 0))).toInt64 := h8
      have h10 : r10 = (shF (aNS (absM I 0))).toInt32 := h10
      rw [g1, g3, g5, h8, h10]
      have fin : ∀ (t : Int32), t = absM I 2 0 → v_X6_digest_277 Q t (31 * mx (mx (mx (mx (mx (dgR (absM I) h 125) (aOp (absM I 0) 0).toInt64) (aOp (absM I 0) 1).toInt64) (aCl (absM I 0)).toInt64) (shD (aRt (absM I 0))).toInt64) (shF (aNS (absM I 0))).toInt32.toInt64) I6 := by
        intro t ht
        obtain ⟨L, hL, eL, _⟩ := o6.2.2.2
        have e8 : absM I 2 2 = nI L := by rw [← a6, absM_22]; exact eL
        refine ⟨L + 1, ?_⟩
        rw [eL, ht]
        have := vl_md294 (I0 := I) (Q := Q) (L := L) (h := mx (mx (mx (mx (mx (mx (mx (dgR (absM I) h 125) (aOp (absM I 0) 0).toInt64) (aOp (absM I 0) 1).toInt64) (aCl (absM I 0)).toInt64) (shD (aRt (absM I 0))).toInt64) (shF (aNS (absM I 0))).toInt32.toInt64) (absM I 2 0).toInt64) (nI L).toInt64) o6 eL hL (by
          have := hQ I6 f6
          rw [e8, i_nt (by omega)] at this
          rw [a6]; exact this) L 0 (Nat.zero_add _)
        exact this
      have eF : I6 111 6 = absM I 2 0 := congrFun (congrFun a6 2) 0
      refine ⟨fun q => fin 0 ?_, fun q => fin 1 ?_⟩
      · rw [← eF, q]
      · rcases o6.2.1 with h | h
        · exact absurd h q
        · rw [← eF, h.1]
    · obtain ⟨m, rfl⟩ : ∃ j, m = j + 1 := ⟨m - 1, by omega⟩
      obtain ⟨g1, g2⟩ := h11
      rw [r1', i_nt (by omega), i_nt (by omega), i_nt (by omega)] at g1
      have e2 : (31 : Int64) * dgR (absM I) h k + r11.toInt64 = dgR (absM I) h (k + 1) := by rw [g1]; rfl
      rw [e2]
      exact vl_md152 h0 Q hQ m (k + 1) I12 (by omega) (frT_trans hf g2)
theorem vl_md90 {I : wI} (h0 : okM I) {h : Int64} {Q : Int64 → wI → Prop} {K82 : Int64 → Int32 → wI → Prop} {c : Nat} (hc : c < 5) (hK : ∀ I', frT I I' → K82 (dgK (absM I) h (c + 1)) (nI (c + 1)) I') :
    ∀ m w I', w + m = 6 → frT I I' → v_X6_digest_90 Q K82 (m + 1) (dg1 (absM I) c (dgK (absM I) h c) w) (nI c) (nI w) I'
  | m, w, I', e, hf => by
    obtain ⟨o1, a1, r1'⟩ := mfr_ok h0 hf
    show g_X6_digest_90 ..
    unfold g_X6_digest_90
    rw [l_6, i_le (by decide) (by omega), i_s, i_s]
    refine ⟨fun cc => ⟨⟨o1.1, ⟨c, hc, rfl⟩, 0, by decide, rfl⟩, fun r1 I2 h1 => ?_⟩, fun cc => ⟨⟨o1.1, ⟨c, hc, rfl⟩, w, by omega, rfl⟩, fun r5 I6 h5 => ?_⟩⟩
    · obtain ⟨g1, f1⟩ := h1
      have f2 := frT_trans hf f1
      obtain ⟨o2, a2, q2⟩ := mfr_ok h0 f2
      rw [r1', show nt (0 : Int32) = 0 from rfl, i_nt (by omega), show 5 * 0 + c = c by omega] at g1
      refine ⟨⟨o2.1, ⟨c, hc, rfl⟩, 1, by decide, rfl⟩, fun r3 I4 h3 => ?_⟩
      obtain ⟨g3, f3⟩ := h3
      rw [q2, show nt (1 : Int32) = 1 from rfl, i_nt (by omega), show 5 * 1 + c = 5 + c by omega] at g3
      rw [g1, g3, show w = 6 by omega]
      exact hK I4 (frT_trans f2 f3)
    · obtain ⟨m, rfl⟩ : ∃ k, m = k + 1 := ⟨m - 1, by omega⟩
      obtain ⟨g1, g2⟩ := h5
      rw [r1', i_nt (by omega), i_nt (by omega)] at g1
      have e2 : (31 : Int64) * dg1 (absM I) c (dgK (absM I) h c) w + r5.toInt64 = dg1 (absM I) c (dgK (absM I) h c) (w + 1) := by rw [g1]; rfl
      rw [e2]
      exact vl_md90 h0 hc hK m (w + 1) I6 (by omega) (frT_trans hf g2)
theorem vl_md82 {I : wI} (h0 : okM I) {h : Int64} (Q : Int64 → wI → Prop) (hQ : ∀ I', frT I I' → ∃ f, v_X6_digest_152 Q f (dgK (absM I) h 5) 0 I') : ∀ m c I', c + m = 5 → frT I I' → v_X6_digest_82 Q (m + 1) (dgK (absM I) h c) (nI c) I'
  | m, c, I', e, hf => by
    show g_X6_digest_82 ..
    unfold g_X6_digest_82
    rw [l_5, i_le (by decide) (by omega)]
    refine ⟨fun cc => ?_, fun cc => ⟨7, ?_⟩⟩
    · rw [show c = 5 by omega]; exact hQ I' hf
    · obtain ⟨m, rfl⟩ : ∃ k, m = k + 1 := ⟨m - 1, by omega⟩
      exact vl_md90 h0 (by omega) (fun I2 hf2 => vl_md82 h0 Q hQ m (c + 1) I2 (by omega) hf2) 6 0 I' rfl hf
theorem vl_md47 {I : wI} (h0 : okM I) {h : Int64} {Q : Int64 → wI → Prop} {K38 : Int64 → Int32 → wI → Prop} {p : Nat} {I' : wI} (hf : frT I I') (hp : p < 6) (hK : K38 (dgP (absM I) h (5 * (p + 1))) (nI (p + 1)) I') : ∀ m w, w + m = 5 → v_X6_digest_47 Q K38 (m + 1) (dgP (absM I) h (5 * p + w)) (nI p) (nI w) I'
  | m, w, e => by
    obtain ⟨o1, a1, r1'⟩ := mfr_ok h0 hf
    show g_X6_digest_47 ..
    unfold g_X6_digest_47
    rw [l_5, i_le (by decide) (by omega), i_s, i_s]
    refine ⟨fun c => ?_, fun c => ⟨⟨o1.1, ⟨p, hp, rfl⟩, w, by omega, rfl⟩, fun r1 h1 => ?_⟩⟩
    · rw [show 5 * p + w = 5 * (p + 1) by omega]; exact hK
    · obtain ⟨m, rfl⟩ : ∃ k, m = k + 1 := ⟨m - 1, by omega⟩
      unfold post_X6_atNow at h1
      rw [r1', i_nt (by omega), i_nt (by omega)] at h1
      have e2 : (31 : Int64) * dgP (absM I) h (5 * p + w) + r1.toInt64 = dgP (absM I) h (5 * p + (w + 1)) := by
        show _ = mx (dgP (absM I) h (5 * p + w)) (aAt (absM I 0) ((5 * p + w) / 5) ((5 * p + w) % 5)).toInt64
        rw [h1, show (5 * p + w) / 5 = p by omega, show (5 * p + w) % 5 = w by omega]; rfl
      rw [e2]
      exact vl_md47 h0 hf hp hK m (w + 1) (by omega)
theorem vl_md38 {I : wI} (h0 : okM I) {h : Int64} (Q : Int64 → wI → Prop) {I' : wI} (hf : frT I I') (hQ : ∃ f, v_X6_digest_82 Q f (dgP (absM I) h 30) 0 I') : ∀ m p, p + m = 6 → v_X6_digest_38 Q (m + 1) (dgP (absM I) h (5 * p)) (nI p) I'
  | m, p, e => by
    show g_X6_digest_38 ..
    unfold g_X6_digest_38
    rw [l_6, i_le (by decide) (by omega)]
    refine ⟨fun cc => ?_, fun cc => ⟨6, ?_⟩⟩
    · rw [show 5 * p = 30 by omega]; exact hQ
    · obtain ⟨m, rfl⟩ : ∃ k, m = k + 1 := ⟨m - 1, by omega⟩
      exact vl_md47 h0 hf (by omega) (vl_md38 h0 Q hf hQ m (p + 1) (by omega)) 5 0 rfl
theorem vl_md11 {I : wI} (h0 : okM I) (Q : Int64 → wI → Prop) {I' : wI} (hf : frS I I') (hQ : ∃ f, v_X6_digest_38 Q f (dgC (absM I) 10) 0 I') : ∀ m k, k + m = 10 → v_X6_digest_11 Q (m + 1) (dgC (absM I) k) (nI k) I'
  | m, k, e => by
    show g_X6_digest_11 ..
    unfold g_X6_digest_11
    rw [l_10, i_le (by decide) (by omega), i_s]
    refine ⟨fun cc => ?_, fun cc => ⟨⟨okM_S hf h0, k, by omega, rfl⟩, fun r1 h1 => ?_⟩⟩
    · rw [show k = 10 by omega]; exact hQ
    · obtain ⟨m, rfl⟩ : ∃ j, m = j + 1 := ⟨m - 1, by omega⟩
      unfold post_X6_countNow at h1
      rw [absM_S hf, i_nt (by omega)] at h1
      have e2 : (31 : Int64) * dgC (absM I) k + r1.toInt64 = dgC (absM I) (k + 1) := by rw [h1]; rfl
      rw [e2]
      exact vl_md11 h0 Q hf hQ m (k + 1) (by omega)
theorem vc_X6_digest (I : wI) (hp : pre_X6_digest I) : v_X6_digest I (post_X6_digest I) := by
  have h0 : okM I := hp
  intro I1 q1
  obtain ⟨e0, hS, eR⟩ := thr_use q1
  have h1 := okM_S hS h0
  have eA := absM_S hS
  refine ⟨11, ?_⟩
  refine vl_md11 h0 _ hS ⟨7, ?_⟩ 10 0 rfl
  rw [← eA]
  refine vl_md38 h1 _ (frT_refl I1) ⟨6, ?_⟩ 6 0 rfl
  refine vl_md82 h1 _ (fun I2 f2 => ⟨126, ?_⟩) 5 0 I1 rfl (frT_refl I1)
  refine vl_md152 h1 _ (fun I3 f3 => ?_) 125 0 I2 rfl f2
  exact ⟨by rw [← eA]; rfl, by rw [f3.2, e0], frS_trans hS f3.1⟩
