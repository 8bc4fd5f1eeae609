/-! ===== shares, case by case ===== -/
def okN64 (x : UInt64) : Bool := decide (x &&& 0x7fffffffffffffff ≤ 0x7ff0000000000000)
def okN32 (x : UInt32) : Bool := decide (x &&& 0x7fffffff ≤ 0x7f800000)
theorem okN64_v {x : UInt64} (h : okN64 x = true) : vf_n64 x := by
  unfold okN64 at h; unfold vf_n64; exact of_decide_eq_true h
theorem okN32_v {x : UInt32} (h : okN32 x = true) : vf_n32 x := by
  unfold okN32 at h; unfold vf_n32; exact of_decide_eq_true h
def chD (T : Int64) : Nat → UInt64 → Int64 → Bool
  | 0, _, _ => false
  | f + 1, v, e => if 0 ≤ Op.cmpValue (FP.dcmp v FP.dconst1) CmpOp.g then
      okN64 (FP.dsub v FP.dconst1) && (okN64 (FP.dmul (FP.dsub v FP.dconst1) 4841369599423283200) && decide ((e <<< (((52 : Int32)).toInt64 &&& 63)) ||| (FP.d2l (FP.dmul (FP.dsub v FP.dconst1) (4841369599423283200 : UInt64))) = T))
    else okN64 (FP.dmul v 4611686018427387904) && chD T f (FP.dmul v 4611686018427387904) (e - 1)
def dbOK (n : Nat) : Bool :=
  okN64 (shD n) && (decide (Op.cmpValue (FP.dcmp (shD n) (shD n)) CmpOp.l = 0) && (if 0 < Op.cmpValue (FP.dcmp (shD n) FP.dconst0) CmpOp.l then chD (shD n).toInt64 5 (shD n) 1023 else decide ((0 : Int64) = (shD n).toInt64)))
theorem dbAll : ∀ n, n < 7 → dbOK n = true := by decide +kernel
def chF2 (T : Int32) : Nat → UInt32 → Int32 → Bool
  | 0, _, _ => false
  | f + 1, v, e => if Op.cmpValue (FP.fcmp v FP.fconst2) CmpOp.l < 0 then
      okN32 (FP.fsub v FP.fconst1) && (okN32 (FP.fmul (FP.fsub v FP.fconst1) 1258291200) && decide ((e <<< ((23 : Int32) &&& 31)) ||| (FP.f2i (FP.fmul (FP.fsub v FP.fconst1) (1258291200 : UInt32))) = T))
    else okN32 (FP.fdiv v FP.fconst2) && chF2 T f (FP.fdiv v FP.fconst2) (e + 1)
def chF (T : Int32) : Nat → UInt32 → Int32 → Bool
  | 0, _, _ => false
  | f + 1, v, e => if 0 ≤ Op.cmpValue (FP.fcmp v FP.fconst1) CmpOp.g then chF2 T 5 v e
    else okN32 (FP.fmul v FP.fconst2) && chF T f (FP.fmul v FP.fconst2) (e + -1)
def fbOK (n : Nat) : Bool :=
  okN32 (shF n) && (decide (Op.cmpValue (FP.fcmp (shF n) (shF n)) CmpOp.l = 0) && (if 0 < Op.cmpValue (FP.fcmp (shF n) FP.fconst0) CmpOp.l then chF (shF n).toInt32 5 (shF n) 127 else decide ((0 : Int32) = (shF n).toInt32)))
theorem fbAll : ∀ n, n < 25 → fbOK n = true := by decide +kernel
theorem shD_n {n : Nat} (h : n ≤ 6) : vf_n64 (shD n) := okN64_v ((Bool.and_eq_true _ _).mp (dbAll n (by omega))).1
theorem shF_n {n : Nat} (h : n ≤ 24) : vf_n32 (shF n) := okN32_v ((Bool.and_eq_true _ _).mp (fbAll n (by omega))).1
theorem aRt_le (a : Nat → Int32) : aRt a ≤ 6 := by
  unfold aRt aAs
  split
  · omega
  · exact sm_le (c := 1) (fun p _ => by split <;> omega)
theorem aNS_le {a : Nat → Int32} (h : okR a) : aNS a ≤ 24 := sm_le (c := 4) (fun p hp => by have := okR_n h p hp; omega)
theorem vc_X5_openShare (I : wI) (hp : pre_X5_openShare I) : v_X5_openShare I (post_X5_openShare I) := by
  have h0 : okC I := hp
  refine ⟨trivial, fun r1 h1 => ?_⟩
  unfold post_X3_asInSecret at h1
  have e : aAs (rowC 1 I) (I (2 + 1)) (I (2 + 2)) = aRt (rowC 1 I) := by
    unfold aRt aAs
    split
    · rfl
    · exact sm_cong (fun p hp => by
        show (if I 3 p = rowC 1 I (37 + p) ∧ I 4 p = rowC 1 I (43 + p) then 1 else 0) = (if rowC 1 I p = rowC 1 I (37 + p) ∧ rowC 1 I (6 + p) = rowC 1 I (43 + p) then 1 else 0)
        rw [rc_d hp, rc_n hp])
  rw [e] at h1
  subst h1
  exact ⟨shD_n (aRt_le _), rfl⟩
theorem ns_use {I : wI} (h0 : okC I) {r : Int32} (h : post_X0_notchSum 2 I r) : r = nI (aNS (rowC 1 I)) := by
  have e2 : ntc I 2 = aN (rowC 1 I) := congrArg Prod.snd (now_at h0).1
  unfold post_X0_notchSum at h
  rw [e2] at h; exact h
theorem vc_X5_meanNotch (I : wI) (hp : pre_X5_meanNotch I) : v_X5_meanNotch I (post_X5_meanNotch I) := by
  have h0 : okC I := hp
  refine ⟨(now_at h0).2, fun r1 h1 => ?_⟩
  rw [ns_use h0 h1]
  exact ⟨shF_n (aNS_le h0.1.1), rfl⟩
/-! ===== the class's digest ===== -/