def v_X5_openShare  (I : wI) (Q : UInt64 → Prop) : Prop :=
  (pre_X3_asInSecret 1 2 I) ∧ (∀ r1 : Int32, (post_X3_asInSecret 1 2 I r1) → (vf_n64 (FP.ddiv (FP.i2d r1) (4618441417868443648 : UInt64)) ∧ (Q (FP.ddiv (FP.i2d r1) (4618441417868443648 : UInt64)))))
def v_X5_meanNotch  (I : wI) (Q : UInt32 → Prop) : Prop :=
  (pre_X0_notchSum 2 I) ∧ (∀ r1 : Int32, (post_X0_notchSum 2 I r1) → (vf_n32 (FP.fdiv (FP.i2f r1) (1086324736 : UInt32)) ∧ (Q (FP.fdiv (FP.i2f r1) (1086324736 : UInt32)))))
def v_X5_mix (x0 : Int64) (x2 : Int64) (I : wI) (Q : Int64 → Prop) : Prop :=
  Q (((31 : Int64) * x0) + x2)
def g_X5_mixPositions_15 (x1 : Int64) (I : wI) (Q : Int64 → Prop) (K5 : Int64 → Int32 → Prop) (K15 : Int64 → Int32 → Int32 → Prop) (v3 : Int64) (v5 : Int32) (v6 : Int32) : Prop :=
  (((4 : Int32) < v6) → (K5 v3 (v5 + (1 : Int32)))) ∧ ((¬ ((4 : Int32) < v6)) → ((pre_X5_at v5 v6 I) ∧ (∀ r1 : Int32, (post_X5_at v5 v6 I r1) → ((pre_X5_mix v3 (r1).toInt64 I) ∧ (∀ r2 : Int64, (post_X5_mix v3 (r1).toInt64 I r2) → (K15 r2 v5 (v6 + (1 : Int32))))))))
def v_X5_mixPositions_15 (x1 : Int64) (I : wI) (Q : Int64 → Prop) (K5 : Int64 → Int32 → Prop) : Nat → Int64 → Int32 → Int32 → Prop
  | 0 => fun _ _ _ => False
  | f + 1 => g_X5_mixPositions_15 x1 I Q K5 (v_X5_mixPositions_15 x1 I Q K5 f)
def g_X5_mixPositions_5 (x1 : Int64) (I : wI) (Q : Int64 → Prop) (K5 : Int64 → Int32 → Prop) (v3 : Int64) (v5 : Int32) : Prop :=
  (((6 : Int32) ≤ v5) → (Q v3)) ∧ ((¬ ((6 : Int32) ≤ v5)) → (∃ f : Nat, v_X5_mixPositions_15 x1 I Q K5 f v3 v5 (0 : Int32)))
def v_X5_mixPositions_5 (x1 : Int64) (I : wI) (Q : Int64 → Prop) : Nat → Int64 → Int32 → Prop
  | 0 => fun _ _ => False
  | f + 1 => g_X5_mixPositions_5 x1 I Q (v_X5_mixPositions_5 x1 I Q f)
def v_X5_mixPositions (x1 : Int64) (I : wI) (Q : Int64 → Prop) : Prop :=
  ∃ f : Nat, v_X5_mixPositions_5 x1 I Q  f x1 (0 : Int32)
def g_X5_mixPositionsx_15 (x1 : Int64) (I : wI) (X : String → Prop) (K5 : Int64 → Int32 → Prop) (K15 : Int64 → Int32 → Int32 → Prop) (v3 : Int64) (v5 : Int32) (v6 : Int32) : Prop :=
  (((4 : Int32) < v6) → (K5 v3 (v5 + (1 : Int32)))) ∧ ((¬ ((4 : Int32) < v6)) → (((ok_X5_at v5 v6 I) → ((pre_X5_at v5 v6 I) ∧ (∀ r2 : Int32, (post_X5_at v5 v6 I r2) → ((pre_X5_mix v3 (r2).toInt64 I) ∧ (∀ r3 : Int64, (post_X5_mix v3 (r2).toInt64 I r3) → (K15 r3 v5 (v6 + (1 : Int32)))))))) ∧ ((¬ (ok_X5_at v5 v6 I)) → ((pre_X5_atx v5 v6 I) ∧ (∀ E : String, (exc_X5_at v5 v6 I E) → X E)))))
def v_X5_mixPositionsx_15 (x1 : Int64) (I : wI) (X : String → Prop) (K5 : Int64 → Int32 → Prop) : Nat → Int64 → Int32 → Int32 → Prop
  | 0 => fun _ _ _ => False
  | f + 1 => g_X5_mixPositionsx_15 x1 I X K5 (v_X5_mixPositionsx_15 x1 I X K5 f)
def g_X5_mixPositionsx_5 (x1 : Int64) (I : wI) (X : String → Prop) (K5 : Int64 → Int32 → Prop) (v3 : Int64) (v5 : Int32) : Prop :=
  (((6 : Int32) ≤ v5) → (False)) ∧ ((¬ ((6 : Int32) ≤ v5)) → (∃ f : Nat, v_X5_mixPositionsx_15 x1 I X K5 f v3 v5 (0 : Int32)))
def v_X5_mixPositionsx_5 (x1 : Int64) (I : wI) (X : String → Prop) : Nat → Int64 → Int32 → Prop
  | 0 => fun _ _ => False
  | f + 1 => g_X5_mixPositionsx_5 x1 I X (v_X5_mixPositionsx_5 x1 I X f)
def v_X5_mixPositionsx (x1 : Int64) (I : wI) (X : String → Prop) : Prop :=
  ∃ f : Nat, v_X5_mixPositionsx_5 x1 I X  f x1 (0 : Int32)
def g_X5_mixKeys_14 (x1 : Int64) (Q : Int64 → wI → Prop) (K5 : Int64 → Int32 → wI → Prop) (K14 : Int64 → Int32 → Int32 → wI → Prop) (v3 : Int64) (v5 : Int32) (v6 : Int32) (I : wI) : Prop :=
  (((5 : Int32) < v6) → ((pre_X5_ifTurned v5 (0 : Int32) I) ∧ (∀ r1 : Int32, ∀ I2 : wI, (post_X5_ifTurned v5 (0 : Int32) I r1 I2) → ((pre_X5_mix v3 (r1).toInt64 I2) ∧ (∀ r3 : Int64, (post_X5_mix v3 (r1).toInt64 I2 r3) → ((pre_X5_ifTurned v5 (1 : Int32) I2) ∧ (∀ r4 : Int32, ∀ I5 : wI, (post_X5_ifTurned v5 (1 : Int32) I2 r4 I5) → ((pre_X5_mix r3 (r4).toInt64 I5) ∧ (∀ r6 : Int64, (post_X5_mix r3 (r4).toInt64 I5 r6) → (K5 r6 (v5 + (1 : Int32)) I5)))))))))) ∧ ((¬ ((5 : Int32) < v6)) → ((pre_X5_key v5 v6 I) ∧ (∀ r7 : Int32, ∀ I8 : wI, (post_X5_key v5 v6 I r7 I8) → ((pre_X5_mix v3 (r7).toInt64 I8) ∧ (∀ r9 : Int64, (post_X5_mix v3 (r7).toInt64 I8 r9) → (K14 r9 v5 (v6 + (1 : Int32)) I8))))))
def v_X5_mixKeys_14 (x1 : Int64) (Q : Int64 → wI → Prop) (K5 : Int64 → Int32 → wI → Prop) : Nat → Int64 → Int32 → Int32 → wI → Prop
  | 0 => fun _ _ _ _ => False
  | f + 1 => g_X5_mixKeys_14 x1 Q K5 (v_X5_mixKeys_14 x1 Q K5 f)
def g_X5_mixKeys_5 (x1 : Int64) (Q : Int64 → wI → Prop) (K5 : Int64 → Int32 → wI → Prop) (v3 : Int64) (v5 : Int32) (I : wI) : Prop :=
  (((5 : Int32) ≤ v5) → (Q v3 I)) ∧ ((¬ ((5 : Int32) ≤ v5)) → (∃ f : Nat, v_X5_mixKeys_14 x1 Q K5 f v3 v5 (0 : Int32) I))
def v_X5_mixKeys_5 (x1 : Int64) (Q : Int64 → wI → Prop) : Nat → Int64 → Int32 → wI → Prop
  | 0 => fun _ _ _ => False
  | f + 1 => g_X5_mixKeys_5 x1 Q (v_X5_mixKeys_5 x1 Q f)
def v_X5_mixKeys (x1 : Int64) (I : wI) (Q : Int64 → wI → Prop) : Prop :=
  ∃ f : Nat, v_X5_mixKeys_5 x1 Q  f x1 (0 : Int32) I
def g_X5_mixKeysx_14 (x1 : Int64) (X : String → wI → Prop) (K5 : Int64 → Int32 → wI → Prop) (K14 : Int64 → Int32 → Int32 → wI → Prop) (v3 : Int64) (v5 : Int32) (v6 : Int32) (I : wI) : Prop :=
  (((5 : Int32) < v6) → (((ok_X5_ifTurned v5 (0 : Int32) I) → ((pre_X5_ifTurned v5 (0 : Int32) I) ∧ (∀ r3 : Int32, ∀ I4 : wI, (post_X5_ifTurned v5 (0 : Int32) I r3 I4) → ((pre_X5_mix v3 (r3).toInt64 I4) ∧ (∀ r5 : Int64, (post_X5_mix v3 (r3).toInt64 I4 r5) → (((ok_X5_ifTurned v5 (1 : Int32) I4) → ((pre_X5_ifTurned v5 (1 : Int32) I4) ∧ (∀ r8 : Int32, ∀ I9 : wI, (post_X5_ifTurned v5 (1 : Int32) I4 r8 I9) → ((pre_X5_mix r5 (r8).toInt64 I9) ∧ (∀ r10 : Int64, (post_X5_mix r5 (r8).toInt64 I9 r10) → (K5 r10 (v5 + (1 : Int32)) I9)))))) ∧ ((¬ (ok_X5_ifTurned v5 (1 : Int32) I4)) → ((pre_X5_ifTurnedx v5 (1 : Int32) I4) ∧ (∀ (E : String) (u : wI), (exc_X5_ifTurned v5 (1 : Int32) I4 E u) → X E u))))))))) ∧ ((¬ (ok_X5_ifTurned v5 (0 : Int32) I)) → ((pre_X5_ifTurnedx v5 (0 : Int32) I) ∧ (∀ (E : String) (u : wI), (exc_X5_ifTurned v5 (0 : Int32) I E u) → X E u))))) ∧ ((¬ ((5 : Int32) < v6)) → (((ok_X5_key v5 v6 I) → ((pre_X5_key v5 v6 I) ∧ (∀ r13 : Int32, ∀ I14 : wI, (post_X5_key v5 v6 I r13 I14) → ((pre_X5_mix v3 (r13).toInt64 I14) ∧ (∀ r15 : Int64, (post_X5_mix v3 (r13).toInt64 I14 r15) → (K14 r15 v5 (v6 + (1 : Int32)) I14)))))) ∧ ((¬ (ok_X5_key v5 v6 I)) → ((pre_X5_keyx v5 v6 I) ∧ (∀ (E : String) (u : wI), (exc_X5_key v5 v6 I E u) → X E u)))))
def v_X5_mixKeysx_14 (x1 : Int64) (X : String → wI → Prop) (K5 : Int64 → Int32 → wI → Prop) : Nat → Int64 → Int32 → Int32 → wI → Prop
  | 0 => fun _ _ _ _ => False
  | f + 1 => g_X5_mixKeysx_14 x1 X K5 (v_X5_mixKeysx_14 x1 X K5 f)
def g_X5_mixKeysx_5 (x1 : Int64) (X : String → wI → Prop) (K5 : Int64 → Int32 → wI → Prop) (v3 : Int64) (v5 : Int32) (I : wI) : Prop :=
  (((5 : Int32) ≤ v5) → (False)) ∧ ((¬ ((5 : Int32) ≤ v5)) → (∃ f : Nat, v_X5_mixKeysx_14 x1 X K5 f v3 v5 (0 : Int32) I))
def v_X5_mixKeysx_5 (x1 : Int64) (X : String → wI → Prop) : Nat → Int64 → Int32 → wI → Prop
  | 0 => fun _ _ _ => False
  | f + 1 => g_X5_mixKeysx_5 x1 X (v_X5_mixKeysx_5 x1 X f)
def v_X5_mixKeysx (x1 : Int64) (I : wI) (X : String → wI → Prop) : Prop :=
  ∃ f : Nat, v_X5_mixKeysx_5 x1 X  f x1 (0 : Int32) I
def g_X5_mixPairs_23 (x1 : Int64) (Q : Int64 → wI → Prop) (K5 : Int64 → Int32 → wI → Prop) (K14 : Int64 → Int32 → Int32 → wI → Prop) (K23 : Int64 → Int32 → Int32 → Int32 → wI → Prop) (v3 : Int64) (v5 : Int32) (v6 : Int32) (v7 : Int32) (I : wI) : Prop :=
  (((4 : Int32) < v7) → (K14 v3 v5 (v6 + (1 : Int32)) I)) ∧ ((¬ ((4 : Int32) < v7)) → ((pre_X5_pair v5 v6 v7 I) ∧ (∀ r1 : Int32, ∀ I2 : wI, (post_X5_pair v5 v6 v7 I r1 I2) → ((pre_X5_mix v3 (r1).toInt64 I2) ∧ (∀ r3 : Int64, (post_X5_mix v3 (r1).toInt64 I2 r3) → (K23 r3 v5 v6 (v7 + (1 : Int32)) I2))))))
def v_X5_mixPairs_23 (x1 : Int64) (Q : Int64 → wI → Prop) (K5 : Int64 → Int32 → wI → Prop) (K14 : Int64 → Int32 → Int32 → wI → Prop) : Nat → Int64 → Int32 → Int32 → Int32 → wI → Prop
  | 0 => fun _ _ _ _ _ => False
  | f + 1 => g_X5_mixPairs_23 x1 Q K5 K14 (v_X5_mixPairs_23 x1 Q K5 K14 f)
def g_X5_mixPairs_14 (x1 : Int64) (Q : Int64 → wI → Prop) (K5 : Int64 → Int32 → wI → Prop) (K14 : Int64 → Int32 → Int32 → wI → Prop) (v3 : Int64) (v5 : Int32) (v6 : Int32) (I : wI) : Prop :=
  (((5 : Int32) ≤ v6) → (K5 v3 (v5 + (1 : Int32)) I)) ∧ ((¬ ((5 : Int32) ≤ v6)) → (∃ f : Nat, v_X5_mixPairs_23 x1 Q K5 K14 f v3 v5 v6 (0 : Int32) I))
def v_X5_mixPairs_14 (x1 : Int64) (Q : Int64 → wI → Prop) (K5 : Int64 → Int32 → wI → Prop) : Nat → Int64 → Int32 → Int32 → wI → Prop
  | 0 => fun _ _ _ _ => False
  | f + 1 => g_X5_mixPairs_14 x1 Q K5 (v_X5_mixPairs_14 x1 Q K5 f)
def g_X5_mixPairs_5 (x1 : Int64) (Q : Int64 → wI → Prop) (K5 : Int64 → Int32 → wI → Prop) (v3 : Int64) (v5 : Int32) (I : wI) : Prop :=
  (((5 : Int32) ≤ v5) → (Q v3 I)) ∧ ((¬ ((5 : Int32) ≤ v5)) → (∃ f : Nat, v_X5_mixPairs_14 x1 Q K5 f v3 v5 (0 : Int32) I))
def v_X5_mixPairs_5 (x1 : Int64) (Q : Int64 → wI → Prop) : Nat → Int64 → Int32 → wI → Prop
  | 0 => fun _ _ _ => False
  | f + 1 => g_X5_mixPairs_5 x1 Q (v_X5_mixPairs_5 x1 Q f)
def v_X5_mixPairs (x1 : Int64) (I : wI) (Q : Int64 → wI → Prop) : Prop :=
  ∃ f : Nat, v_X5_mixPairs_5 x1 Q  f x1 (0 : Int32) I
def g_X5_mixPairsx_23 (x1 : Int64) (X : String → wI → Prop) (K5 : Int64 → Int32 → wI → Prop) (K14 : Int64 → Int32 → Int32 → wI → Prop) (K23 : Int64 → Int32 → Int32 → Int32 → wI → Prop) (v3 : Int64) (v5 : Int32) (v6 : Int32) (v7 : Int32) (I : wI) : Prop :=
  (((4 : Int32) < v7) → (K14 v3 v5 (v6 + (1 : Int32)) I)) ∧ ((¬ ((4 : Int32) < v7)) → (((ok_X5_pair v5 v6 v7 I) → ((pre_X5_pair v5 v6 v7 I) ∧ (∀ r3 : Int32, ∀ I4 : wI, (post_X5_pair v5 v6 v7 I r3 I4) → ((pre_X5_mix v3 (r3).toInt64 I4) ∧ (∀ r5 : Int64, (post_X5_mix v3 (r3).toInt64 I4 r5) → (K23 r5 v5 v6 (v7 + (1 : Int32)) I4)))))) ∧ ((¬ (ok_X5_pair v5 v6 v7 I)) → ((pre_X5_pairx v5 v6 v7 I) ∧ (∀ (E : String) (u : wI), (exc_X5_pair v5 v6 v7 I E u) → X E u)))))
def v_X5_mixPairsx_23 (x1 : Int64) (X : String → wI → Prop) (K5 : Int64 → Int32 → wI → Prop) (K14 : Int64 → Int32 → Int32 → wI → Prop) : Nat → Int64 → Int32 → Int32 → Int32 → wI → Prop
  | 0 => fun _ _ _ _ _ => False
  | f + 1 => g_X5_mixPairsx_23 x1 X K5 K14 (v_X5_mixPairsx_23 x1 X K5 K14 f)
def g_X5_mixPairsx_14 (x1 : Int64) (X : String → wI → Prop) (K5 : Int64 → Int32 → wI → Prop) (K14 : Int64 → Int32 → Int32 → wI → Prop) (v3 : Int64) (v5 : Int32) (v6 : Int32) (I : wI) : Prop :=
  (((5 : Int32) ≤ v6) → (K5 v3 (v5 + (1 : Int32)) I)) ∧ ((¬ ((5 : Int32) ≤ v6)) → (∃ f : Nat, v_X5_mixPairsx_23 x1 X K5 K14 f v3 v5 v6 (0 : Int32) I))
def v_X5_mixPairsx_14 (x1 : Int64) (X : String → wI → Prop) (K5 : Int64 → Int32 → wI → Prop) : Nat → Int64 → Int32 → Int32 → wI → Prop
  | 0 => fun _ _ _ _ => False
  | f + 1 => g_X5_mixPairsx_14 x1 X K5 (v_X5_mixPairsx_14 x1 X K5 f)
def g_X5_mixPairsx_5 (x1 : Int64) (X : String → wI → Prop) (K5 : Int64 → Int32 → wI → Prop) (v3 : Int64) (v5 : Int32) (I : wI) : Prop :=
  (((5 : Int32) ≤ v5) → (False)) ∧ ((¬ ((5 : Int32) ≤ v5)) → (∃ f : Nat, v_X5_mixPairsx_14 x1 X K5 f v3 v5 (0 : Int32) I))
def v_X5_mixPairsx_5 (x1 : Int64) (X : String → wI → Prop) : Nat → Int64 → Int32 → wI → Prop
  | 0 => fun _ _ _ => False
  | f + 1 => g_X5_mixPairsx_5 x1 X (v_X5_mixPairsx_5 x1 X f)
def v_X5_mixPairsx (x1 : Int64) (I : wI) (X : String → wI → Prop) : Prop :=
  ∃ f : Nat, v_X5_mixPairsx_5 x1 X  f x1 (0 : Int32) I
def v_X5_doubleBits_50 (x0 : UInt64) (I : wI) (Q : Int64 → Prop) (v2 : UInt64) (v4 : Int64) : Prop :=
  vf_n64 (FP.dsub v2 FP.dconst1) ∧ (vf_n64 (FP.dmul (FP.dsub v2 FP.dconst1) (4841369599423283200 : UInt64)) ∧ (Q ((v4 <<< (((52 : Int32)).toInt64 &&& 63)) ||| (FP.d2l (FP.dmul (FP.dsub v2 FP.dconst1) (4841369599423283200 : UInt64))))))
def g_X5_doubleBits_18 (x0 : UInt64) (I : wI) (Q : Int64 → Prop) (K18 : UInt64 → Int64 → Int32 → Prop) (v2 : UInt64) (v4 : Int64) (v6 : Int32) : Prop :=
  (((2000 : Int32) ≤ v6) → (v_X5_doubleBits_50 x0 I Q  v2 v4)) ∧ ((¬ ((2000 : Int32) ≤ v6)) → (((0 ≤ (Op.cmpValue (FP.dcmp v2 FP.dconst1) CmpOp.g)) → (v_X5_doubleBits_50 x0 I Q  v2 v4)) ∧ ((¬ (0 ≤ (Op.cmpValue (FP.dcmp v2 FP.dconst1) CmpOp.g))) → (vf_n64 (FP.dmul v2 (4611686018427387904 : UInt64)) ∧ (K18 (FP.dmul v2 (4611686018427387904 : UInt64)) (v4 - (1 : Int64)) (v6 + (1 : Int32)))))))
def v_X5_doubleBits_18 (x0 : UInt64) (I : wI) (Q : Int64 → Prop) : Nat → UInt64 → Int64 → Int32 → Prop
  | 0 => fun _ _ _ => False
  | f + 1 => g_X5_doubleBits_18 x0 I Q (v_X5_doubleBits_18 x0 I Q f)
def v_X5_doubleBits (x0 : UInt64) (I : wI) (Q : Int64 → Prop) : Prop :=
  ((0 < (Op.cmpValue (FP.dcmp x0 FP.dconst0) CmpOp.l)) → (∃ f : Nat, v_X5_doubleBits_18 x0 I Q  f x0 (1023 : Int64) (0 : Int32))) ∧ ((¬ (0 < (Op.cmpValue (FP.dcmp x0 FP.dconst0) CmpOp.l))) → (Q (0 : Int64)))
def v_X5_floatBits_69 (x0 : UInt32) (I : wI) (Q : Int32 → Prop) (v1 : UInt32) (v2 : Int32) : Prop :=
  vf_n32 (FP.fsub v1 FP.fconst1) ∧ (vf_n32 (FP.fmul (FP.fsub v1 FP.fconst1) (1258291200 : UInt32)) ∧ (Q ((v2 <<< ((23 : Int32) &&& 31)) ||| (FP.f2i (FP.fmul (FP.fsub v1 FP.fconst1) (1258291200 : UInt32))))))
def g_X5_floatBits_43 (x0 : UInt32) (I : wI) (Q : Int32 → Prop) (K43 : UInt32 → Int32 → Int32 → Prop) (v1 : UInt32) (v2 : Int32) (v3 : Int32) : Prop :=
  (((2000 : Int32) ≤ v3) → (v_X5_floatBits_69 x0 I Q  v1 v2)) ∧ ((¬ ((2000 : Int32) ≤ v3)) → ((((Op.cmpValue (FP.fcmp v1 FP.fconst2) CmpOp.l) < 0) → (v_X5_floatBits_69 x0 I Q  v1 v2)) ∧ ((¬ ((Op.cmpValue (FP.fcmp v1 FP.fconst2) CmpOp.l) < 0)) → (vf_n32 (FP.fdiv v1 FP.fconst2) ∧ (K43 (FP.fdiv v1 FP.fconst2) (v2 + (1 : Int32)) (v3 + (1 : Int32)))))))
def v_X5_floatBits_43 (x0 : UInt32) (I : wI) (Q : Int32 → Prop) : Nat → UInt32 → Int32 → Int32 → Prop
  | 0 => fun _ _ _ => False
  | f + 1 => g_X5_floatBits_43 x0 I Q (v_X5_floatBits_43 x0 I Q f)
def v_X5_floatBits_41 (x0 : UInt32) (I : wI) (Q : Int32 → Prop) (v1 : UInt32) (v2 : Int32) : Prop :=
  ∃ f : Nat, v_X5_floatBits_43 x0 I Q  f v1 v2 (0 : Int32)
def g_X5_floatBits_15 (x0 : UInt32) (I : wI) (Q : Int32 → Prop) (K15 : UInt32 → Int32 → Int32 → Prop) (v1 : UInt32) (v2 : Int32) (v3 : Int32) : Prop :=
  (((2000 : Int32) ≤ v3) → (v_X5_floatBits_41 x0 I Q  v1 v2)) ∧ ((¬ ((2000 : Int32) ≤ v3)) → (((0 ≤ (Op.cmpValue (FP.fcmp v1 FP.fconst1) CmpOp.g)) → (v_X5_floatBits_41 x0 I Q  v1 v2)) ∧ ((¬ (0 ≤ (Op.cmpValue (FP.fcmp v1 FP.fconst1) CmpOp.g))) → (vf_n32 (FP.fmul v1 FP.fconst2) ∧ (K15 (FP.fmul v1 FP.fconst2) (v2 + (-1 : Int32)) (v3 + (1 : Int32)))))))
def v_X5_floatBits_15 (x0 : UInt32) (I : wI) (Q : Int32 → Prop) : Nat → UInt32 → Int32 → Int32 → Prop
  | 0 => fun _ _ _ => False
  | f + 1 => g_X5_floatBits_15 x0 I Q (v_X5_floatBits_15 x0 I Q f)
def v_X5_floatBits (x0 : UInt32) (I : wI) (Q : Int32 → Prop) : Prop :=
  ((0 < (Op.cmpValue (FP.fcmp x0 FP.fconst0) CmpOp.l)) → (∃ f : Nat, v_X5_floatBits_15 x0 I Q  f x0 (127 : Int32) (0 : Int32))) ∧ ((¬ (0 < (Op.cmpValue (FP.fcmp x0 FP.fconst0) CmpOp.l))) → (Q (0 : Int32)))
def v_X5_mixBuffer_56 (x1 : Int64) (I : wI) (Q : Int64 → Prop) (v3 : Int64) : Prop :=
  Q v3
def g_X5_mixBuffer_16 (x1 : Int64) (I : wI) (Q : Int64 → Prop) (K16 : Int64 → Int32 → Prop) (v3 : Int64) (v5 : Int32) : Prop :=
  (((I 24 1) ≤ v5) → (v_X5_mixBuffer_56 x1 I Q  v3)) ∧ ((¬ ((I 24 1) ≤ v5)) → ((((60 : Int32) ≤ v5) → (v_X5_mixBuffer_56 x1 I Q  v3)) ∧ ((¬ ((60 : Int32) ≤ v5)) → ((pre_X4_signAt 24 v5 I) ∧ (∀ r1 : Int32, (post_X4_signAt 24 v5 I r1) → ((pre_X5_mix v3 (r1).toInt64 I) ∧ (∀ r2 : Int64, (post_X5_mix v3 (r1).toInt64 I r2) → (K16 r2 (v5 + (1 : Int32))))))))))
def v_X5_mixBuffer_16 (x1 : Int64) (I : wI) (Q : Int64 → Prop) : Nat → Int64 → Int32 → Prop
  | 0 => fun _ _ => False
  | f + 1 => g_X5_mixBuffer_16 x1 I Q (v_X5_mixBuffer_16 x1 I Q f)
def v_X5_mixBuffer (x1 : Int64) (I : wI) (Q : Int64 → Prop) : Prop :=
  (pre_X5_mix x1 ((I 24 1)).toInt64 I) ∧ (∀ r1 : Int64, (post_X5_mix x1 ((I 24 1)).toInt64 I r1) → (∃ f : Nat, v_X5_mixBuffer_16 x1 I Q  f r1 (0 : Int32)))
def v_X5_digest_117  (Q : Int64 → wI → Prop) (t0 : Int64) (t1 : Int64) (I : wI) : Prop :=
  (pre_X5_mix t1 t0 I) ∧ (∀ r1 : Int64, (post_X5_mix t1 t0 I r1) → ((pre_X5_mixBuffer r1 I) ∧ (∀ r2 : Int64, (post_X5_mixBuffer r1 I r2) → (Q r2 I))))
def g_X5_digest_6  (Q : Int64 → wI → Prop) (K6 : Int64 → Int32 → wI → Prop) (v1 : Int64) (v3 : Int32) (I : wI) : Prop :=
  (((9 : Int32) < v3) → ((pre_X5_mixPositions v1 I) ∧ (∀ r1 : Int64, (post_X5_mixPositions v1 I r1) → ((pre_X5_mixKeys r1 I) ∧ (∀ r2 : Int64, ∀ I3 : wI, (post_X5_mixKeys r1 I r2 I3) → ((pre_X5_mixPairs r2 I3) ∧ (∀ r4 : Int64, ∀ I5 : wI, (post_X5_mixPairs r2 I3 r4 I5) → ((pre_X5_openIn (0 : Int32) I5) ∧ (∀ r6 : Int32, ∀ I7 : wI, (post_X5_openIn (0 : Int32) I5 r6 I7) → ((pre_X5_mix r4 (r6).toInt64 I7) ∧ (∀ r8 : Int64, (post_X5_mix r4 (r6).toInt64 I7 r8) → ((pre_X5_openIn (1 : Int32) I7) ∧ (∀ r9 : Int32, ∀ I10 : wI, (post_X5_openIn (1 : Int32) I7 r9 I10) → ((pre_X5_mix r8 (r9).toInt64 I10) ∧ (∀ r11 : Int64, (post_X5_mix r8 (r9).toInt64 I10 r11) → ((pre_X5_closest  I10) ∧ (∀ r12 : Int32, ∀ I13 : wI, (post_X5_closest  I10 r12 I13) → ((pre_X5_mix r11 (r12).toInt64 I13) ∧ (∀ r14 : Int64, (post_X5_mix r11 (r12).toInt64 I13 r14) → ((pre_X5_openShare  I13) ∧ (∀ r15 : UInt64, (post_X5_openShare  I13 r15) → ((pre_X5_doubleBits r15 I13) ∧ (∀ r16 : Int64, (post_X5_doubleBits r15 I13 r16) → ((pre_X5_mix r14 r16 I13) ∧ (∀ r17 : Int64, (post_X5_mix r14 r16 I13 r17) → ((pre_X5_meanNotch  I13) ∧ (∀ r18 : UInt32, (post_X5_meanNotch  I13 r18) → ((pre_X5_floatBits r18 I13) ∧ (∀ r19 : Int32, (post_X5_floatBits r18 I13 r19) → ((pre_X5_mix r17 (r19).toInt64 I13) ∧ (∀ r20 : Int64, (post_X5_mix r17 (r19).toInt64 I13 r20) → ((((I13 0 2) = 0) → (v_X5_digest_117  Q  (0 : Int64) r20 I13)) ∧ ((¬ ((I13 0 2) = 0)) → (v_X5_digest_117  Q  (1 : Int64) r20 I13)))))))))))))))))))))))))))))))))) ∧ ((¬ ((9 : Int32) < v3)) → ((pre_X5_count v3 I) ∧ (∀ r21 : Int32, (post_X5_count v3 I r21) → ((pre_X5_mix v1 (r21).toInt64 I) ∧ (∀ r22 : Int64, (post_X5_mix v1 (r21).toInt64 I r22) → (K6 r22 (v3 + (1 : Int32)) I))))))
def v_X5_digest_6  (Q : Int64 → wI → Prop) : Nat → Int64 → Int32 → wI → Prop
  | 0 => fun _ _ _ => False
  | f + 1 => g_X5_digest_6 Q (v_X5_digest_6 Q f)
def v_X5_digest  (I : wI) (Q : Int64 → wI → Prop) : Prop :=
  ∃ f : Nat, v_X5_digest_6  Q  f (3769 : Int64) (0 : Int32) I
def v_X5_digestx_117  (X : String → wI → Prop) (t0 : Int64) (t1 : Int64) (I : wI) : Prop :=
  (pre_X5_mix t1 t0 I) ∧ (∀ r1 : Int64, (post_X5_mix t1 t0 I r1) → ((pre_X5_mixBuffer r1 I) ∧ (∀ r2 : Int64, (post_X5_mixBuffer r1 I r2) → (False))))
def g_X5_digestx_6  (X : String → wI → Prop) (K6 : Int64 → Int32 → wI → Prop) (v1 : Int64) (v3 : Int32) (I : wI) : Prop :=
  (((9 : Int32) < v3) → (((ok_X5_mixPositions v1 I) → ((pre_X5_mixPositions v1 I) ∧ (∀ r2 : Int64, (post_X5_mixPositions v1 I r2) → (((ok_X5_mixKeys r2 I) → ((pre_X5_mixKeys r2 I) ∧ (∀ r5 : Int64, ∀ I6 : wI, (post_X5_mixKeys r2 I r5 I6) → (((ok_X5_mixPairs r5 I6) → ((pre_X5_mixPairs r5 I6) ∧ (∀ r9 : Int64, ∀ I10 : wI, (post_X5_mixPairs r5 I6 r9 I10) → (((ok_X5_openIn (0 : Int32) I10) → ((pre_X5_openIn (0 : Int32) I10) ∧ (∀ r13 : Int32, ∀ I14 : wI, (post_X5_openIn (0 : Int32) I10 r13 I14) → ((pre_X5_mix r9 (r13).toInt64 I14) ∧ (∀ r15 : Int64, (post_X5_mix r9 (r13).toInt64 I14 r15) → (((ok_X5_openIn (1 : Int32) I14) → ((pre_X5_openIn (1 : Int32) I14) ∧ (∀ r18 : Int32, ∀ I19 : wI, (post_X5_openIn (1 : Int32) I14 r18 I19) → ((pre_X5_mix r15 (r18).toInt64 I19) ∧ (∀ r20 : Int64, (post_X5_mix r15 (r18).toInt64 I19 r20) → ((pre_X5_closest  I19) ∧ (∀ r21 : Int32, ∀ I22 : wI, (post_X5_closest  I19 r21 I22) → ((pre_X5_mix r20 (r21).toInt64 I22) ∧ (∀ r23 : Int64, (post_X5_mix r20 (r21).toInt64 I22 r23) → ((pre_X5_openShare  I22) ∧ (∀ r24 : UInt64, (post_X5_openShare  I22 r24) → ((pre_X5_doubleBits r24 I22) ∧ (∀ r25 : Int64, (post_X5_doubleBits r24 I22 r25) → ((pre_X5_mix r23 r25 I22) ∧ (∀ r26 : Int64, (post_X5_mix r23 r25 I22 r26) → ((pre_X5_meanNotch  I22) ∧ (∀ r27 : UInt32, (post_X5_meanNotch  I22 r27) → ((pre_X5_floatBits r27 I22) ∧ (∀ r28 : Int32, (post_X5_floatBits r27 I22 r28) → ((pre_X5_mix r26 (r28).toInt64 I22) ∧ (∀ r29 : Int64, (post_X5_mix r26 (r28).toInt64 I22 r29) → ((((I22 0 2) = 0) → (v_X5_digestx_117  X  (0 : Int64) r29 I22)) ∧ ((¬ ((I22 0 2) = 0)) → (v_X5_digestx_117  X  (1 : Int64) r29 I22)))))))))))))))))))))))) ∧ ((¬ (ok_X5_openIn (1 : Int32) I14)) → ((pre_X5_openInx (1 : Int32) I14) ∧ (∀ (E : String) (u : wI), (exc_X5_openIn (1 : Int32) I14 E u) → X E u))))))))) ∧ ((¬ (ok_X5_openIn (0 : Int32) I10)) → ((pre_X5_openInx (0 : Int32) I10) ∧ (∀ (E : String) (u : wI), (exc_X5_openIn (0 : Int32) I10 E u) → X E u))))))) ∧ ((¬ (ok_X5_mixPairs r5 I6)) → ((pre_X5_mixPairsx r5 I6) ∧ (∀ (E : String) (u : wI), (exc_X5_mixPairs r5 I6 E u) → X E u))))))) ∧ ((¬ (ok_X5_mixKeys r2 I)) → ((pre_X5_mixKeysx r2 I) ∧ (∀ (E : String) (u : wI), (exc_X5_mixKeys r2 I E u) → X E u))))))) ∧ ((¬ (ok_X5_mixPositions v1 I)) → ((pre_X5_mixPositionsx v1 I) ∧ (∀ E : String, (exc_X5_mixPositions v1 I E) → X E I))))) ∧ ((¬ ((9 : Int32) < v3)) → (((ok_X5_count v3 I) → ((pre_X5_count v3 I) ∧ (∀ r31 : Int32, (post_X5_count v3 I r31) → ((pre_X5_mix v1 (r31).toInt64 I) ∧ (∀ r32 : Int64, (post_X5_mix v1 (r31).toInt64 I r32) → (K6 r32 (v3 + (1 : Int32)) I)))))) ∧ ((¬ (ok_X5_count v3 I)) → ((pre_X5_countx v3 I) ∧ (∀ E : String, (exc_X5_count v3 I E) → X E I)))))
def v_X5_digestx_6  (X : String → wI → Prop) : Nat → Int64 → Int32 → wI → Prop
  | 0 => fun _ _ _ => False
  | f + 1 => g_X5_digestx_6 X (v_X5_digestx_6 X f)
def v_X5_digestx  (I : wI) (X : String → wI → Prop) : Prop :=
  ∃ f : Nat, v_X5_digestx_6  X  f (3769 : Int64) (0 : Int32) I
def v_X6_openShare  (I : wI) (Q : UInt64 → wI → Prop) : Prop :=
  ∀ I1 : wI, I1 = wU I 111 0 (0 : Int32) → ((pre_X6_right  I1) ∧ (∀ r2 : Int32, (post_X6_right  I1 r2) → (vf_n64 (FP.ddiv (FP.i2d r2) (4618441417868443648 : UInt64)) ∧ (Q (FP.ddiv (FP.i2d r2) (4618441417868443648 : UInt64)) I1))))
def v_X6_meanNotch  (I : wI) (Q : UInt32 → wI → Prop) : Prop :=
  ∀ I1 : wI, I1 = wU I 111 0 (0 : Int32) → ((pre_X6_notches  I1) ∧ (∀ r2 : Int32, (post_X6_notches  I1 r2) → (vf_n32 (FP.fdiv (FP.i2f r2) (1086324736 : UInt32)) ∧ (Q (FP.fdiv (FP.i2f r2) (1086324736 : UInt32)) I1))))
def v_J_isNaN_11 (x0 : UInt64) (I : wI) (Q : Int32 → Prop) (t0 : Int32) : Prop :=
  (t0 = 0 ∨ t0 = 1) ∧ Q t0
def v_J_isNaN (x0 : UInt64) (I : wI) (Q : Int32 → Prop) : Prop :=
  (((Op.cmpValue (FP.dcmp x0 x0) CmpOp.l) = 0) → (v_J_isNaN_11 x0 I Q  (0 : Int32))) ∧ ((¬ ((Op.cmpValue (FP.dcmp x0 x0) CmpOp.l) = 0)) → (v_J_isNaN_11 x0 I Q  (1 : Int32)))
def v_J_doubleToLongBits (x0 : UInt64) (I : wI) (Q : Int64 → Prop) : Prop :=
  (pre_J_isNaN x0 I) ∧ (∀ r1 : Int32, (post_J_isNaN x0 I r1) → (((¬ r1 = 0) → (Q (9221120237041090560 : Int64))) ∧ ((r1 = 0) → (Q (x0).toInt64))))
def v_J_isNaNf_11 (x0 : UInt32) (I : wI) (Q : Int32 → Prop) (t0 : Int32) : Prop :=
  (t0 = 0 ∨ t0 = 1) ∧ Q t0
def v_J_isNaNf (x0 : UInt32) (I : wI) (Q : Int32 → Prop) : Prop :=
  (((Op.cmpValue (FP.fcmp x0 x0) CmpOp.l) = 0) → (v_J_isNaNf_11 x0 I Q  (0 : Int32))) ∧ ((¬ ((Op.cmpValue (FP.fcmp x0 x0) CmpOp.l) = 0)) → (v_J_isNaNf_11 x0 I Q  (1 : Int32)))
def v_J_floatToIntBits (x0 : UInt32) (I : wI) (Q : Int32 → Prop) : Prop :=
  (pre_J_isNaNf x0 I) ∧ (∀ r1 : Int32, (post_J_isNaNf x0 I r1) → (((¬ r1 = 0) → (Q (2143289344 : Int32))) ∧ ((r1 = 0) → (Q (x0).toInt32))))
def g_X6_digest_294  (Q : Int64 → wI → Prop) (K294 : Int64 → Int32 → wI → Prop) (v1 : Int64) (v3 : Int32) (I : wI) : Prop :=
  (((I 111 8) ≤ v3) → (Q v1 I)) ∧ ((¬ ((I 111 8) ≤ v3)) → (vp_in v3 60 ∧ (K294 (((31 : Int64) * v1) + ((I 116 (v3).toNatClampNeg)).toInt64) (v3 + (1 : Int32)) I)))
def v_X6_digest_294  (Q : Int64 → wI → Prop) : Nat → Int64 → Int32 → wI → Prop
  | 0 => fun _ _ _ => False
  | f + 1 => g_X6_digest_294 Q (v_X6_digest_294 Q f)
def v_X6_digest_277  (Q : Int64 → wI → Prop) (t0 : Int32) (t1 : Int64) (I : wI) : Prop :=
  ∃ f : Nat, v_X6_digest_294  Q  f (((31 : Int64) * (t1 + (t0).toInt64)) + ((I 111 8)).toInt64) (0 : Int32) I
def g_X6_digest_152  (Q : Int64 → wI → Prop) (K152 : Int64 → Int32 → wI → Prop) (v1 : Int64) (v3 : Int32) (I : wI) : Prop :=
  (((125 : Int32) ≤ v3) → ((pre_X6_findOpen (0 : Int32) I) ∧ (∀ r1 : Int32, ∀ I2 : wI, (post_X6_findOpen (0 : Int32) I r1 I2) → ((pre_X6_findOpen (1 : Int32) I2) ∧ (∀ r3 : Int32, ∀ I4 : wI, (post_X6_findOpen (1 : Int32) I2 r3 I4) → ((pre_X6_findClosest  I4) ∧ (∀ r5 : Int32, ∀ I6 : wI, (post_X6_findClosest  I4 r5 I6) → ((pre_X6_right  I6) ∧ (∀ r7 : Int32, (post_X6_right  I6 r7) → (vf_n64 (FP.ddiv (FP.i2d r7) (4618441417868443648 : UInt64)) ∧ ((pre_J_doubleToLongBits (FP.ddiv (FP.i2d r7) (4618441417868443648 : UInt64)) I6) ∧ (∀ r8 : Int64, (post_J_doubleToLongBits (FP.ddiv (FP.i2d r7) (4618441417868443648 : UInt64)) I6 r8) → ((pre_X6_notches  I6) ∧ (∀ r9 : Int32, (post_X6_notches  I6 r9) → (vf_n32 (FP.fdiv (FP.i2f r9) (1086324736 : UInt32)) ∧ ((pre_J_floatToIntBits (FP.fdiv (FP.i2f r9) (1086324736 : UInt32)) I6) ∧ (∀ r10 : Int32, (post_J_floatToIntBits (FP.fdiv (FP.i2f r9) (1086324736 : UInt32)) I6 r10) → ((((I6 111 6) = 0) → (v_X6_digest_277  Q  (0 : Int32) ((31 : Int64) * (((31 : Int64) * (((31 : Int64) * (((31 : Int64) * (((31 : Int64) * (((31 : Int64) * v1) + (r1).toInt64)) + (r3).toInt64)) + (r5).toInt64)) + r8)) + (r10).toInt64)) I6)) ∧ ((¬ ((I6 111 6) = 0)) → (v_X6_digest_277  Q  (1 : Int32) ((31 : Int64) * (((31 : Int64) * (((31 : Int64) * (((31 : Int64) * (((31 : Int64) * (((31 : Int64) * v1) + (r1).toInt64)) + (r3).toInt64)) + (r5).toInt64)) + r8)) + (r10).toInt64)) I6)))))))))))))))))))) ∧ ((¬ ((125 : Int32) ≤ v3)) → ((pre_X6_pairNow (v3 / (25 : Int32)) ((v3 / (5 : Int32)) - (v3 / (5 : Int32)) / (5 : Int32) * (5 : Int32)) (v3 - v3 / (5 : Int32) * (5 : Int32)) I) ∧ (∀ r11 : Int32, ∀ I12 : wI, (post_X6_pairNow (v3 / (25 : Int32)) ((v3 / (5 : Int32)) - (v3 / (5 : Int32)) / (5 : Int32) * (5 : Int32)) (v3 - v3 / (5 : Int32) * (5 : Int32)) I r11 I12) → (K152 (((31 : Int64) * v1) + (r11).toInt64) (v3 + (1 : Int32)) I12))))
def v_X6_digest_152  (Q : Int64 → wI → Prop) : Nat → Int64 → Int32 → wI → Prop
  | 0 => fun _ _ _ => False
  | f + 1 => g_X6_digest_152 Q (v_X6_digest_152 Q f)
def g_X6_digest_90  (Q : Int64 → wI → Prop) (K82 : Int64 → Int32 → wI → Prop) (K90 : Int64 → Int32 → Int32 → wI → Prop) (v1 : Int64) (v3 : Int32) (v4 : Int32) (I : wI) : Prop :=
  (((6 : Int32) ≤ v4) → ((pre_X6_rightIf v3 (0 : Int32) I) ∧ (∀ r1 : Int32, ∀ I2 : wI, (post_X6_rightIf v3 (0 : Int32) I r1 I2) → ((pre_X6_rightIf v3 (1 : Int32) I2) ∧ (∀ r3 : Int32, ∀ I4 : wI, (post_X6_rightIf v3 (1 : Int32) I2 r3 I4) → (K82 (((31 : Int64) * (((31 : Int64) * v1) + (r1).toInt64)) + (r3).toInt64) (v3 + (1 : Int32)) I4)))))) ∧ ((¬ ((6 : Int32) ≤ v4)) → ((pre_X6_keyNow v3 v4 I) ∧ (∀ r5 : Int32, ∀ I6 : wI, (post_X6_keyNow v3 v4 I r5 I6) → (K90 (((31 : Int64) * v1) + (r5).toInt64) v3 (v4 + (1 : Int32)) I6))))
def v_X6_digest_90  (Q : Int64 → wI → Prop) (K82 : Int64 → Int32 → wI → Prop) : Nat → Int64 → Int32 → Int32 → wI → Prop
  | 0 => fun _ _ _ _ => False
  | f + 1 => g_X6_digest_90 Q K82 (v_X6_digest_90 Q K82 f)
def g_X6_digest_82  (Q : Int64 → wI → Prop) (K82 : Int64 → Int32 → wI → Prop) (v1 : Int64) (v3 : Int32) (I : wI) : Prop :=
  (((5 : Int32) ≤ v3) → (∃ f : Nat, v_X6_digest_152  Q  f v1 (0 : Int32) I)) ∧ ((¬ ((5 : Int32) ≤ v3)) → (∃ f : Nat, v_X6_digest_90  Q K82 f v1 v3 (0 : Int32) I))
def v_X6_digest_82  (Q : Int64 → wI → Prop) : Nat → Int64 → Int32 → wI → Prop
  | 0 => fun _ _ _ => False
  | f + 1 => g_X6_digest_82 Q (v_X6_digest_82 Q f)
def g_X6_digest_47  (Q : Int64 → wI → Prop) (K38 : Int64 → Int32 → wI → Prop) (K47 : Int64 → Int32 → Int32 → wI → Prop) (v1 : Int64) (v3 : Int32) (v4 : Int32) (I : wI) : Prop :=
  (((5 : Int32) ≤ v4) → (K38 v1 (v3 + (1 : Int32)) I)) ∧ ((¬ ((5 : Int32) ≤ v4)) → ((pre_X6_atNow v3 v4 I) ∧ (∀ r1 : Int32, (post_X6_atNow v3 v4 I r1) → (K47 (((31 : Int64) * v1) + (r1).toInt64) v3 (v4 + (1 : Int32)) I))))
def v_X6_digest_47  (Q : Int64 → wI → Prop) (K38 : Int64 → Int32 → wI → Prop) : Nat → Int64 → Int32 → Int32 → wI → Prop
  | 0 => fun _ _ _ _ => False
  | f + 1 => g_X6_digest_47 Q K38 (v_X6_digest_47 Q K38 f)
def g_X6_digest_38  (Q : Int64 → wI → Prop) (K38 : Int64 → Int32 → wI → Prop) (v1 : Int64) (v3 : Int32) (I : wI) : Prop :=
  (((6 : Int32) ≤ v3) → (∃ f : Nat, v_X6_digest_82  Q  f v1 (0 : Int32) I)) ∧ ((¬ ((6 : Int32) ≤ v3)) → (∃ f : Nat, v_X6_digest_47  Q K38 f v1 v3 (0 : Int32) I))
def v_X6_digest_38  (Q : Int64 → wI → Prop) : Nat → Int64 → Int32 → wI → Prop
  | 0 => fun _ _ _ => False
  | f + 1 => g_X6_digest_38 Q (v_X6_digest_38 Q f)
def g_X6_digest_11  (Q : Int64 → wI → Prop) (K11 : Int64 → Int32 → wI → Prop) (v1 : Int64) (v3 : Int32) (I : wI) : Prop :=
  (((10 : Int32) ≤ v3) → (∃ f : Nat, v_X6_digest_38  Q  f v1 (0 : Int32) I)) ∧ ((¬ ((10 : Int32) ≤ v3)) → ((pre_X6_countNow v3 I) ∧ (∀ r1 : Int32, (post_X6_countNow v3 I r1) → (K11 (((31 : Int64) * v1) + (r1).toInt64) (v3 + (1 : Int32)) I))))
def v_X6_digest_11  (Q : Int64 → wI → Prop) : Nat → Int64 → Int32 → wI → Prop
  | 0 => fun _ _ _ => False
  | f + 1 => g_X6_digest_11 Q (v_X6_digest_11 Q f)
def v_X6_digest  (I : wI) (Q : Int64 → wI → Prop) : Prop :=
  ∀ I1 : wI, I1 = wU I 111 0 (0 : Int32) → (∃ f : Nat, v_X6_digest_11  Q  f (3769 : Int64) (0 : Int32) I1)
