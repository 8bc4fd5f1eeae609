/-! ===== shares, case by case ===== -/
def okN64 (x : UInt64) : Bool := decide (x &&& 0x7fffffffffffffff ≤ 0x7ff0000000000000)
def okN32 (x : UInt32) : Bool := decide (x &&& 0x7fffffff ≤ 0x7f800000)
theorem okN64_v {x : UInt64} (h : okN64 x = true) : vf_n64 x := by
  unfold okN64 at h; unfold vf_n64; exact of_decide_eq_true h
theorem okN32_v {x : UInt32} (h : okN32 x = true) : vf_n32 x := by
  unfold okN32 at h; unfold vf_n32; exact of_decide_eq_true h
def chD (T : Int64) : Nat → UInt64 → Int64 → Bool
  | 0, _, _ => false
  | f + 1, v, e => if 0 ≤ Op.cmpValue (FP.dcmp v FP.dconst1) CmpOp.g then
      okN64 (FP.dsub v FP.dconst1) && (okN64 (FP.dmul (FP.dsub v FP.dconst1) 4841369599423283200) && decide ((e <<< (((52 : Int32)).toInt64 &&& 63)) ||| (FP.d2l (FP.dmul (FP.dsub v FP.dconst1) (4841369599423283200 : UInt64))) = T))
    else okN64 (FP.dmul v 4611686018427387904) && chD T f (FP.dmul v 4611686018427387904) (e - 1)
def dbOK (n : Nat) : Bool :=
  okN64 (shD n) && (decide (Op.cmpValue (FP.dcmp (shD n) (shD n)) CmpOp.l = 0) && (if 0 < Op.cmpValue (FP.dcmp (shD n) FP.dconst0) CmpOp.l then chD (shD n).toInt64 5 (shD n) 1023 else decide ((0 : Int64) = (shD n).toInt64)))
theorem dbAll : ∀ n, n < 7 → dbOK n = true := by decide +kernel
def chF2 (T : Int32) : Nat → UInt32 → Int32 → Bool
  | 0, _, _ => false
  | f + 1, v, e => if Op.cmpValue (FP.fcmp v FP.fconst2) CmpOp.l < 0 then
      okN32 (FP.fsub v FP.fconst1) && (okN32 (FP.fmul (FP.fsub v FP.fconst1) 1258291200) && decide ((e <<< ((23 : Int32) &&& 31)) ||| (FP.f2i (FP.fmul (FP.fsub v FP.fconst1) (1258291200 : UInt32))) = T))
    else okN32 (FP.fdiv v FP.fconst2) && chF2 T f (FP.fdiv v FP.fconst2) (e + 1)
def chF (T : Int32) : Nat → UInt32 → Int32 → Bool
  | 0, _, _ => false
  | f + 1, v, e => if 0 ≤ Op.cmpValue (FP.fcmp v FP.fconst1) CmpOp.g then chF2 T 5 v e
    else okN32 (FP.fmul v FP.fconst2) && chF T f (FP.fmul v FP.fconst2) (e + -1)
def fbOK (n : Nat) : Bool :=
  okN32 (shF n) && (decide (Op.cmpValue (FP.fcmp (shF n) (shF n)) CmpOp.l = 0) && (if 0 < Op.cmpValue (FP.fcmp (shF n) FP.fconst0) CmpOp.l then chF (shF n).toInt32 5 (shF n) 127 else decide ((0 : Int32) = (shF n).toInt32)))
theorem fbAll : ∀ n, n < 25 → fbOK n = true := by decide +kernel
theorem vl_dB {x0 : UInt64} {I : wI} {Q : Int64 → Prop} {T : Int64} (hQ : Q T) : ∀ (f i : Nat) (v : UInt64) (e : Int64), i + f ≤ 2000 → chD T f v e = true → v_X5_doubleBits_18 x0 I Q f v e (nI i)
  | 0, i, v, e, _, h => absurd h Bool.false_ne_true
  | f + 1, i, v, e, hi, h => by
    show g_X5_doubleBits_18 ..
    unfold g_X5_doubleBits_18
    unfold chD at h
    refine ⟨fun c => ?_, fun _ => ⟨fun c => ?_, fun c => ?_⟩⟩
    · rw [show (2000 : Int32) = nI 2000 from rfl, i_le (by decide) (by omega)] at c; omega
    · rw [if_pos c] at h
      obtain ⟨h1, h2⟩ := (Bool.and_eq_true _ _).mp h
      obtain ⟨h2, h3⟩ := (Bool.and_eq_true _ _).mp h2
      exact ⟨okN64_v h1, okN64_v h2, by rw [of_decide_eq_true h3]; exact hQ⟩
    · rw [if_neg c] at h
      obtain ⟨h1, h2⟩ := (Bool.and_eq_true _ _).mp h
      refine ⟨okN64_v h1, ?_⟩
      rw [i_s]
      exact vl_dB hQ f (i + 1) _ _ (by omega) h2
theorem vl_fB2 {x0 : UInt32} {I : wI} {Q : Int32 → Prop} {T : Int32} (hQ : Q T) : ∀ (f i : Nat) (v : UInt32) (e : Int32), i + f ≤ 2000 → chF2 T f v e = true → v_X5_floatBits_43 x0 I Q f v e (nI i)
  | 0, i, v, e, _, h => absurd h Bool.false_ne_true
  | f + 1, i, v, e, hi, h => by
    show g_X5_floatBits_43 ..
    unfold g_X5_floatBits_43
    unfold chF2 at h
    refine ⟨fun c => ?_, fun _ => ⟨fun c => ?_, fun c => ?_⟩⟩
    · rw [show (2000 : Int32) = nI 2000 from rfl, i_le (by decide) (by omega)] at c; omega
    · rw [if_pos c] at h
      obtain ⟨h1, h2⟩ := (Bool.and_eq_true _ _).mp h
      obtain ⟨h2, h3⟩ := (Bool.and_eq_true _ _).mp h2
      exact ⟨okN32_v h1, okN32_v h2, by rw [of_decide_eq_true h3]; exact hQ⟩
    · rw [if_neg c] at h
      obtain ⟨h1, h2⟩ := (Bool.and_eq_true _ _).mp h
      refine ⟨okN32_v h1, ?_⟩
      rw [i_s]
      exact vl_fB2 hQ f (i + 1) _ _ (by omega) h2
theorem vl_fB {x0 : UInt32} {I : wI} {Q : Int32 → Prop} {T : Int32} (hQ : Q T) : ∀ (f i : Nat) (v : UInt32) (e : Int32), i + f ≤ 2000 → chF T f v e = true → v_X5_floatBits_15 x0 I Q f v e (nI i)
  | 0, i, v, e, _, h => absurd h Bool.false_ne_true
  | f + 1, i, v, e, hi, h => by
    show g_X5_floatBits_15 ..
    unfold g_X5_floatBits_15
    unfold chF at h
    refine ⟨fun c => ?_, fun _ => ⟨fun c => ?_, fun c => ?_⟩⟩
    · rw [show (2000 : Int32) = nI 2000 from rfl, i_le (by decide) (by omega)] at c; omega
    · rw [if_pos c] at h
      exact ⟨5, vl_fB2 hQ 5 0 v e (by decide) h⟩
    · rw [if_neg c] at h
      obtain ⟨h1, h2⟩ := (Bool.and_eq_true _ _).mp h
      refine ⟨okN32_v h1, ?_⟩
      rw [i_s]
      exact vl_fB hQ f (i + 1) _ _ (by omega) h2
theorem shD_n {n : Nat} (h : n ≤ 6) : vf_n64 (shD n) := okN64_v ((Bool.and_eq_true _ _).mp (dbAll n (by omega))).1
theorem shF_n {n : Nat} (h : n ≤ 24) : vf_n32 (shF n) := okN32_v ((Bool.and_eq_true _ _).mp (fbAll n (by omega))).1
theorem aRt_le (a : Nat → Int32) : aRt a ≤ 6 := by
  unfold aRt aAs
  split
  · omega
  · exact sm_le (c := 1) (fun p _ => by split <;> omega)
theorem aNS_le {a : Nat → Int32} (h : okR a) : aNS a ≤ 24 := sm_le (c := 4) (fun p hp => by have := okR_n h p hp; omega)
theorem vc_X5_openShare (I : wI) (hp : pre_X5_openShare I) : v_X5_openShare I (post_X5_openShare I) := by
  have h0 : okC I := hp
  refine ⟨trivial, fun r1 h1 => ?_⟩
  unfold post_X3_asInSecret at h1
  have e : aAs (rowC 1 I) (I (2 + 1)) (I (2 + 2)) = aRt (rowC 1 I) := by
    unfold aRt aAs
    split
    · rfl
    · exact sm_cong (fun p hp => by
        show (if I 3 p = rowC 1 I (37 + p) ∧ I 4 p = rowC 1 I (43 + p) then 1 else 0) = (if rowC 1 I p = rowC 1 I (37 + p) ∧ rowC 1 I (6 + p) = rowC 1 I (43 + p) then 1 else 0)
        rw [rc_d hp, rc_n hp])
  rw [e] at h1
  subst h1
  exact ⟨shD_n (aRt_le _), rfl⟩
theorem ns_use {I : wI} (h0 : okC I) {r : Int32} (h : post_X0_notchSum 2 I r) : r = nI (aNS (rowC 1 I)) := by
  have e2 : ntc I 2 = aN (rowC 1 I) := congrArg Prod.snd (now_at h0).1
  unfold post_X0_notchSum at h
  rw [e2] at h; exact h
theorem vc_X5_meanNotch (I : wI) (hp : pre_X5_meanNotch I) : v_X5_meanNotch I (post_X5_meanNotch I) := by
  have h0 : okC I := hp
  refine ⟨(now_at h0).2, fun r1 h1 => ?_⟩
  rw [ns_use h0 h1]
  exact ⟨shF_n (aNS_le h0.1.1), rfl⟩
/-! ===== the class's digest ===== -/
theorem vl_mP15 {I : wI} (h0 : okC I) {x1 : Int64} {Q : Int64 → Prop} {K5 : Int64 → Int32 → Prop} {p : Nat} (hp : p < 6) (hK : K5 (dgP (absC I) x1 (5 * (p + 1))) (nI (p + 1))) : ∀ m w, w + m = 5 → v_X5_mixPositions_15 x1 I Q K5 (m + 1) (dgP (absC I) x1 (5 * p + w)) (nI p) (nI w)
  | m, w, e => by
    show g_X5_mixPositions_15 ..
    unfold g_X5_mixPositions_15
    rw [l_4, i_lt (by decide) (by omega), i_s, i_s]
    refine ⟨fun c => ?_, fun c => ⟨⟨h0, ⟨p, hp, rfl⟩, w, by omega, rfl⟩, fun r1 h1 => ⟨trivial, fun r2 h2 => ?_⟩⟩⟩
    · rw [show 5 * p + w = 5 * (p + 1) by omega]; exact hK
    · obtain ⟨m, rfl⟩ : ∃ k, m = k + 1 := ⟨m - 1, by omega⟩
      unfold post_X5_at at h1
      unfold post_X5_mix at h2
      rw [i_nt (by omega), i_nt (by omega)] at h1
      have e1 : r2 = dgP (absC I) x1 (5 * p + (w + 1)) := by
        show r2 = mx (dgP (absC I) x1 (5 * p + w)) (aAt (absC I 0) ((5 * p + w) / 5) ((5 * p + w) % 5)).toInt64
        rw [h2, h1, show (5 * p + w) / 5 = p by omega, show (5 * p + w) % 5 = w by omega]; rfl
      rw [e1]
      exact vl_mP15 h0 hp hK m (w + 1) (by omega)
theorem vl_mP5 {I : wI} (h0 : okC I) {x1 : Int64} : ∀ m p, p + m = 6 → v_X5_mixPositions_5 x1 I (post_X5_mixPositions x1 I) (m + 1) (dgP (absC I) x1 (5 * p)) (nI p)
  | m, p, e => by
    show g_X5_mixPositions_5 ..
    unfold g_X5_mixPositions_5
    rw [l_6, i_le (by decide) (by omega)]
    refine ⟨fun c => ?_, fun c => ⟨6, ?_⟩⟩
    · rw [show 5 * p = 30 by omega]; rfl
    · obtain ⟨m, rfl⟩ : ∃ k, m = k + 1 := ⟨m - 1, by omega⟩
      exact vl_mP15 h0 (by omega) (vl_mP5 h0 m (p + 1) (by omega)) 5 0 rfl
theorem vl_mK14 {I : wI} (h0 : okC I) {x1 : Int64} {Q : Int64 → wI → Prop} {K5 : Int64 → Int32 → wI → Prop} {c : Nat} (hc : c < 5) (hK : ∀ I', frX I I' → K5 (dgK (absC I) x1 (c + 1)) (nI (c + 1)) I') : ∀ m w I', w + m = 6 → frX I I' → v_X5_mixKeys_14 x1 Q K5 (m + 1) (dg1 (absC I) c (dgK (absC I) x1 c) w) (nI c) (nI w) I'
  | m, w, I', e, hX => by
    obtain ⟨ab, ok'⟩ := absC_frX h0 hX
    have eR : rowC 1 I' = absC I 0 := congrFun ab 0
    show g_X5_mixKeys_14 ..
    unfold g_X5_mixKeys_14
    rw [l_5, i_lt (by decide) (by omega), i_s, i_s]
    refine ⟨fun cc => ⟨⟨ok', ⟨c, hc, rfl⟩, 0, by decide, rfl⟩, fun r1 I2 h1 => ⟨trivial, fun r3 h3 => ?_⟩⟩, fun cc => ⟨⟨ok', ⟨c, hc, rfl⟩, w, by omega, rfl⟩, fun r7 I8 h7 => ⟨trivial, fun r9 h9 => ?_⟩⟩⟩
    · obtain ⟨g1, g2⟩ := h1
      have hX2 := frX_trans hX g2
      obtain ⟨ab2, ok2⟩ := absC_frX h0 hX2
      have eR2 : rowC 1 I2 = absC I 0 := congrFun ab2 0
      rw [eR, show nt (0 : Int32) = 0 from rfl, i_nt (by omega), show 5 * 0 + c = c by omega] at g1
      refine ⟨⟨ok2, ⟨c, hc, rfl⟩, 1, by decide, rfl⟩, fun r4 I5 h4 => ⟨trivial, fun r6 h6 => ?_⟩⟩
      obtain ⟨g3, g4⟩ := h4
      rw [eR2, show nt (1 : Int32) = 1 from rfl, i_nt (by omega), show 5 * 1 + c = 5 + c by omega] at g3
      have e6 : r6 = dgK (absC I) x1 (c + 1) := by
        show r6 = mx (mx (dg1 (absC I) c (dgK (absC I) x1 c) 6) (nI (aIf (absC I 0) c)).toInt64) (nI (aIf (absC I 0) (5 + c))).toInt64
        rw [show r6 = mx r3 r4.toInt64 from h6, show r3 = mx _ r1.toInt64 from h3, g1, g3, show w = 6 by omega]
      rw [e6]
      exact hK I5 (frX_trans hX2 g4)
    · obtain ⟨m, rfl⟩ : ∃ k, m = k + 1 := ⟨m - 1, by omega⟩
      obtain ⟨g1, g2⟩ := h7
      rw [eR, i_nt (by omega), i_nt (by omega)] at g1
      have e9 : r9 = dg1 (absC I) c (dgK (absC I) x1 c) (w + 1) := by
        show r9 = mx (dg1 (absC I) c (dgK (absC I) x1 c) w) (aKey (absC I 0) c w).toInt64
        rw [show r9 = mx _ r7.toInt64 from h9, g1]
      rw [e9]
      exact vl_mK14 h0 hc hK m (w + 1) I8 (by omega) (frX_trans hX g2)
theorem vl_mK5 {I : wI} (h0 : okC I) {x1 : Int64} : ∀ m c I', c + m = 5 → frX I I' → v_X5_mixKeys_5 x1 (post_X5_mixKeys x1 I) (m + 1) (dgK (absC I) x1 c) (nI c) I'
  | m, c, I', e, hX => by
    show g_X5_mixKeys_5 ..
    unfold g_X5_mixKeys_5
    rw [l_5, i_le (by decide) (by omega)]
    refine ⟨fun cc => ?_, fun cc => ⟨7, ?_⟩⟩
    · rw [show c = 5 by omega]; exact ⟨rfl, hX⟩
    · obtain ⟨m, rfl⟩ : ∃ k, m = k + 1 := ⟨m - 1, by omega⟩
      exact vl_mK14 h0 (by omega) (fun I2 hX2 => vl_mK5 h0 m (c + 1) I2 (by omega) hX2) 6 0 I' rfl hX
theorem vl_mR23 {I : wI} (h0 : okC I) {x1 : Int64} {Q : Int64 → wI → Prop} {K5 : Int64 → Int32 → wI → Prop} {K14 : Int64 → Int32 → Int32 → wI → Prop} {c d : Nat} (hc : c < 5) (hd : d < 5) (hK : ∀ I', frX I I' → K14 (dgR (absC I) x1 (25 * c + 5 * (d + 1))) (nI c) (nI (d + 1)) I') :
    ∀ m w I', w + m = 5 → frX I I' → v_X5_mixPairs_23 x1 Q K5 K14 (m + 1) (dgR (absC I) x1 (25 * c + 5 * d + w)) (nI c) (nI d) (nI w) I'
  | m, w, I', e, hX => by
    obtain ⟨ab, ok'⟩ := absC_frX h0 hX
    have eR : rowC 1 I' = absC I 0 := congrFun ab 0
    show g_X5_mixPairs_23 ..
    unfold g_X5_mixPairs_23
    rw [l_4, i_lt (by decide) (by omega), i_s, i_s]
    refine ⟨fun cc => ?_, fun cc => ⟨⟨ok', ⟨⟨c, hc, rfl⟩, d, hd, rfl⟩, w, by omega, rfl⟩, fun r1 I2 h1 => ⟨trivial, fun r3 h3 => ?_⟩⟩⟩
    · rw [show 25 * c + 5 * d + w = 25 * c + 5 * (d + 1) by omega]; exact hK I' hX
    · obtain ⟨m, rfl⟩ : ∃ k, m = k + 1 := ⟨m - 1, by omega⟩
      obtain ⟨g1, g2⟩ := h1
      rw [eR, i_nt (by omega), i_nt (by omega), i_nt (by omega)] at g1
      have e3 : r3 = dgR (absC I) x1 (25 * c + 5 * d + (w + 1)) := by
        show r3 = mx (dgR (absC I) x1 (25 * c + 5 * d + w)) (aOf (absC I 0) (prL ((25 * c + 5 * d + w) / 25) ((25 * c + 5 * d + w) / 5 % 5)) ((25 * c + 5 * d + w) % 5)).toInt64
        rw [show r3 = mx _ r1.toInt64 from h3, g1, show (25 * c + 5 * d + w) / 25 = c by omega, show (25 * c + 5 * d + w) / 5 % 5 = d by omega, show (25 * c + 5 * d + w) % 5 = w by omega]
      rw [e3]
      exact vl_mR23 h0 hc hd hK m (w + 1) I2 (by omega) (frX_trans hX g2)
theorem vl_mR14 {I : wI} (h0 : okC I) {x1 : Int64} {Q : Int64 → wI → Prop} {K5 : Int64 → Int32 → wI → Prop} {c : Nat} (hc : c < 5) (hK : ∀ I', frX I I' → K5 (dgR (absC I) x1 (25 * (c + 1))) (nI (c + 1)) I') :
    ∀ m d I', d + m = 5 → frX I I' → v_X5_mixPairs_14 x1 Q K5 (m + 1) (dgR (absC I) x1 (25 * c + 5 * d)) (nI c) (nI d) I'
  | m, d, I', e, hX => by
    show g_X5_mixPairs_14 ..
    unfold g_X5_mixPairs_14
    rw [l_5, i_le (by decide) (by omega), i_s]
    refine ⟨fun cc => ?_, fun cc => ⟨6, ?_⟩⟩
    · rw [show 25 * c + 5 * d = 25 * (c + 1) by omega]; exact hK I' hX
    · obtain ⟨m, rfl⟩ : ∃ k, m = k + 1 := ⟨m - 1, by omega⟩
      exact vl_mR23 h0 hc (by omega) (fun I2 hX2 => vl_mR14 h0 hc hK m (d + 1) I2 (by omega) hX2) 5 0 I' rfl hX
theorem vl_mR5 {I : wI} (h0 : okC I) {x1 : Int64} : ∀ m c I', c + m = 5 → frX I I' → v_X5_mixPairs_5 x1 (post_X5_mixPairs x1 I) (m + 1) (dgR (absC I) x1 (25 * c)) (nI c) I'
  | m, c, I', e, hX => by
    show g_X5_mixPairs_5 ..
    unfold g_X5_mixPairs_5
    rw [l_5, i_le (by decide) (by omega)]
    refine ⟨fun cc => ?_, fun cc => ⟨6, ?_⟩⟩
    · rw [show 25 * c = 125 by omega]; exact ⟨rfl, hX⟩
    · obtain ⟨m, rfl⟩ : ∃ k, m = k + 1 := ⟨m - 1, by omega⟩
      exact vl_mR14 h0 (by omega) (fun I2 hX2 => vl_mR5 h0 m (c + 1) I2 (by omega) hX2) 5 0 I' rfl hX
theorem vl_mB {I : wI} (h0 : okC I) {x1 h : Int64} {L : Nat} (eL : I 24 1 = nI L) (hL : L ≤ 60) {Q : Int64 → Prop} (hQ : Q (dgB (absC I) h L)) : ∀ m j, j + m = L → v_X5_mixBuffer_16 x1 I Q (m + 1) (dgB (absC I) h j) (nI j)
  | m, j, e => by
    show g_X5_mixBuffer_16 ..
    unfold g_X5_mixBuffer_16
    rw [eL, i_le (by omega) (by omega), l_60, i_le (by decide) (by omega), i_s]
    refine ⟨fun c => ?_, fun c => ⟨fun c6 => absurd c6 (by omega), fun c6 => ?_⟩⟩
    · rw [show j = L by omega]; exact hQ
    · obtain ⟨m, rfl⟩ : ∃ k, m = k + 1 := ⟨m - 1, by omega⟩
      obtain ⟨L', hL', eL', hch⟩ := h0.2.2.2.2.2
      have eLL : L' = L := nI_inj (by omega) (by omega) (eL'.symm.trans eL)
      obtain ⟨ch, hc1, hc2, ec⟩ := hch j (by omega)
      refine ⟨⟨j, by omega, rfl, ch, hc1, hc2, ec⟩, fun r1 h1 => ⟨trivial, fun r2 h2 => ?_⟩⟩
      unfold post_X4_signAt at h1
      rw [i_nt (by omega), show (24 + 1 : Nat) = 25 from rfl] at h1
      have e2 : r2 = dgB (absC I) h (j + 1) := by
        show r2 = mx (dgB (absC I) h j) (if j < nt (I 24 1) then I 25 j else 0).toInt64
        rw [show r2 = mx _ r1.toInt64 from h2, h1, eL, i_nt (by omega), if_pos (by omega)]
      rw [e2]
      exact vl_mB h0 eL hL hQ m (j + 1) (by omega)
theorem vl_dig {I : wI} (h0 : okC I) : ∀ m k, k + m = 10 → v_X5_digest_6 (post_X5_digest I) (m + 1) (dgC (absC I) k) (nI k) I
  | m, k, e => by
    show g_X5_digest_6 ..
    unfold g_X5_digest_6
    rw [l_9, i_lt (by decide) (by omega), i_s]
    refine ⟨fun c => ?_, fun c => ⟨⟨h0, k, by omega, rfl⟩, fun r21 h21 => ⟨trivial, fun r22 h22 => ?_⟩⟩⟩
    · rw [show k = 10 by omega]
      refine ⟨h0, fun r1 h1 => ⟨h0, fun r2 I3 h2 => ?_⟩⟩
      obtain ⟨g2, f2⟩ := h2
      obtain ⟨a3, o3⟩ := absC_frX h0 f2
      refine ⟨o3, fun r4 I5 h4 => ?_⟩
      obtain ⟨g4, f4⟩ := h4
      have f5 := frX_trans f2 f4
      obtain ⟨a5, o5⟩ := absC_frX h0 f5
      refine ⟨⟨o5, 0, by decide, rfl⟩, fun r6 I7 h6 => ⟨trivial, fun r8 h8 => ?_⟩⟩
      obtain ⟨g6, f6⟩ := h6
      have f7 := frX_trans f5 f6
      obtain ⟨a7, o7⟩ := absC_frX h0 f7
      refine ⟨⟨o7, 1, by decide, rfl⟩, fun r9 I10 h9 => ⟨trivial, fun r11 h11 => ?_⟩⟩
      obtain ⟨g9, f9⟩ := h9
      have f10 := frX_trans f7 f9
      obtain ⟨a10, o10⟩ := absC_frX h0 f10
      refine ⟨o10, fun r12 I13 h12 => ⟨trivial, fun r14 h14 => ?_⟩⟩
      obtain ⟨g12, f12⟩ := h12
      have f13 := frX_trans f10 f12
      obtain ⟨a13, o13⟩ := absC_frX h0 f13
      have r5 : rowC 1 I5 = absC I 0 := congrFun a5 0
      have r7 : rowC 1 I7 = absC I 0 := congrFun a7 0
      have r10 : rowC 1 I10 = absC I 0 := congrFun a10 0
      have r13 : rowC 1 I13 = absC I 0 := congrFun a13 0
      refine ⟨o13, fun r15 h15 => ⟨⟨aRt (rowC 1 I13), aRt_le _, h15⟩, fun r16 h16 => ⟨trivial, fun r17 h17 => ⟨o13, fun r18 h18 => ⟨⟨aNS (rowC 1 I13), aNS_le o13.1.1, h18⟩, fun r19 h19 => ⟨trivial, fun r20 h20 => ?_⟩⟩⟩⟩⟩⟩
      unfold post_X5_openShare at h15
      unfold post_X5_doubleBits at h16
      unfold post_X5_meanNotch at h18
      unfold post_X5_floatBits at h19
      rw [r13] at h15 h18
      rw [r5] at g6
      rw [r7] at g9
      rw [r10] at g12
      rw [show nt (0 : Int32) = 0 from rfl] at g6
      rw [show nt (1 : Int32) = 1 from rfl] at g9
      have e14 : r14 = dgO (absC I) := by
        rw [show r14 = mx r11 r12.toInt64 from h14, show r11 = mx r8 r9.toInt64 from h11, show r8 = mx r4 r6.toInt64 from h8, g4, a3, g2, show r1 = dgP (absC I) (dgC (absC I) 10) 30 from h1, g6, g9, g12]; rfl
      have fin : ∀ (t : Int64), t = (absC I 2 0).toInt64 → v_X5_digest_117 (post_X5_digest I) t r20 I13 := by
        intro t ht
        refine ⟨trivial, fun s1 k1 => ⟨o13, fun s2 k2 => ⟨?_, f13⟩⟩⟩
        have e1 : s1 = dgS (absC I) := by
          rw [show s1 = mx r20 t from k1, show r20 = mx r17 r19.toInt64 from h20, show r17 = mx r14 r16 from h17, h19, h18, h16, h15, e14, ht]; rfl
        rw [show s2 = dgB (absC I13) (mx s1 (absC I13 2 2).toInt64) (nt (absC I13 2 2)) from k2, a13, e1]; rfl
      have eF : I13 0 2 = absC I 2 0 := congrFun (congrFun a13 2) 0
      refine ⟨fun q => fin 0 ?_, fun q => fin 1 ?_⟩
      · rw [← eF, q]; rfl
      · rcases o13.2.1 with h | h
        · exact absurd h q
        · rw [← eF, h.1]; rfl
    · obtain ⟨m, rfl⟩ : ∃ j, m = j + 1 := ⟨m - 1, by omega⟩
      unfold post_X5_count at h21
      rw [i_nt (by omega)] at h21
      have e22 : r22 = dgC (absC I) (k + 1) := by
        show r22 = mx (dgC (absC I) k) (aCnt (absC I) k).toInt64
        rw [show r22 = mx _ r21.toInt64 from h22, h21]
      rw [e22]
      exact vl_dig h0 m (k + 1) (by omega)