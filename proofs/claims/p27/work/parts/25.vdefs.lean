def v_X5_requireKey_9 (x0 : Int32) (I : wI) (Q : Prop)  : Prop :=
  False
def v_X5_requireKey (x0 : Int32) (I : wI) (Q : Prop) : Prop :=
  ((x0 < 0) → (v_X5_requireKey_9 x0 I Q  )) ∧ ((¬ (x0 < 0)) → (((x0 < (5 : Int32)) → (Q)) ∧ ((¬ (x0 < (5 : Int32))) → (v_X5_requireKey_9 x0 I Q  ))))
def v_X5_requireKeyx_9 (x0 : Int32) (I : wI) (X : String → Prop)  : Prop :=
  X "java/lang/IndexOutOfBoundsException"
def v_X5_requireKeyx (x0 : Int32) (I : wI) (X : String → Prop) : Prop :=
  ((x0 < 0) → (v_X5_requireKeyx_9 x0 I X  )) ∧ ((¬ (x0 < 0)) → (((x0 < (5 : Int32)) → (False)) ∧ ((¬ (x0 < (5 : Int32))) → (v_X5_requireKeyx_9 x0 I X  ))))
def v_X5_moveOf_11 (x0 : Int32) (x1 : Int32) (I : wI) (Q : Int32 → Prop) (t0 : Int32) : Prop :=
  Q t0
def v_X5_moveOf (x0 : Int32) (x1 : Int32) (I : wI) (Q : Int32 → Prop) : Prop :=
  ((x1 = 0) → (v_X5_moveOf_11 x0 x1 I Q  x0)) ∧ ((¬ (x1 = 0)) → (v_X5_moveOf_11 x0 x1 I Q  ((5 : Int32) + x0)))
def v_X5_keyOf_12 (x0 : Int32) (I : wI) (Q : Int32 → Prop) (t0 : Int32) : Prop :=
  Q t0
def v_X5_keyOf (x0 : Int32) (I : wI) (Q : Int32 → Prop) : Prop :=
  ((x0 < (5 : Int32)) → (v_X5_keyOf_12 x0 I Q  x0)) ∧ ((¬ (x0 < (5 : Int32))) → (v_X5_keyOf_12 x0 I Q  (x0 - (5 : Int32))))
def v_X1_maskOf_19 (k : Nat) (x1 : Int32) (I : wI) (Q : Int32 → Prop) (t0 : Int32) : Prop :=
  Q t0
def v_X1_maskOf_18 (k : Nat) (x1 : Int32) (I : wI) (Q : Int32 → Prop)  : Prop :=
  v_X1_maskOf_19 k x1 I Q  (0 : Int32)
def v_X1_maskOf (k : Nat) (x1 : Int32) (I : wI) (Q : Int32 → Prop) : Prop :=
  ((x1 < 0) → (v_X1_maskOf_18 k x1 I Q  )) ∧ ((¬ (x1 < 0)) → ((((5 : Int32) ≤ x1) → (v_X1_maskOf_18 k x1 I Q  )) ∧ ((¬ ((5 : Int32) ≤ x1)) → (vp_in x1 5 ∧ (v_X1_maskOf_19 k x1 I Q  (I (k + 1) (x1).toNatClampNeg))))))
def v_X3_allows_24 (k : Nat) (x1 : Int32) (I : wI) (Q : Int32 → Prop) (t0 : Int32) : Prop :=
  (t0 = 0 ∨ t0 = 1) ∧ Q t0
def v_X3_allows (k : Nat) (x1 : Int32) (I : wI) (Q : Int32 → Prop) : Prop :=
  (pre_X5_keyOf x1 I) ∧ (∀ r1 : Int32, (post_X5_keyOf x1 I r1) → ((pre_X1_maskOf (k + 4) r1 I) ∧ (∀ r2 : Int32, (post_X1_maskOf (k + 4) r1 I r2) → (((¬ (r2 &&& (I k 4)) = 0) → (v_X3_allows_24 k x1 I Q  (0 : Int32))) ∧ (((r2 &&& (I k 4)) = 0) → (v_X3_allows_24 k x1 I Q  (1 : Int32)))))))
def g_X5_dropOldest_9  (Q : wI → Prop) (K9 : Int32 → Int32 → wI → Prop) (v1 : Int32) (v2 : Int32) (I : wI) : Prop :=
  (((6 : Int32) ≤ v2) → ((vp_in (5 : Int32) 6 ∧ (v1).toNatClampNeg < 6) ∧ ∀ I1 : wI, I1 = wU I 23 ((5 : Int32)).toNatClampNeg v1 → (∀ I2 : wI, I2 = wU I1 0 4 (5 : Int32) → (Q I2)))) ∧ ((¬ ((6 : Int32) ≤ v2)) → (vp_in v2 6 ∧ ((vp_in (v2 - (1 : Int32)) 6 ∧ ((I 23 (v2).toNatClampNeg)).toNatClampNeg < 6) ∧ ∀ I3 : wI, I3 = wU I 23 ((v2 - (1 : Int32))).toNatClampNeg (I 23 (v2).toNatClampNeg) → (K9 v1 (v2 + (1 : Int32)) I3))))
def v_X5_dropOldest_9  (Q : wI → Prop) : Nat → Int32 → Int32 → wI → Prop
  | 0 => fun _ _ _ => False
  | f + 1 => g_X5_dropOldest_9 Q (v_X5_dropOldest_9 Q f)
def v_X5_dropOldest  (I : wI) (Q : wI → Prop) : Prop :=
  vp_in (0 : Int32) 6 ∧ (∃ f : Nat, v_X5_dropOldest_9  Q  f (I 23 ((0 : Int32)).toNatClampNeg) (1 : Int32) I)
def g_X0_copyFrom_2 (k : Nat) (k1 : Nat) (Q : wI → Prop) (K2 : Int32 → wI → Prop) (v2 : Int32) (I : wI) : Prop :=
  (((6 : Int32) ≤ v2) → (Q I)) ∧ ((¬ ((6 : Int32) ≤ v2)) → (vp_in v2 6 ∧ (vp_in v2 6 ∧ ∀ I1 : wI, I1 = wU I (k + 1) (v2).toNatClampNeg (I (k1 + 1) (v2).toNatClampNeg) → (vp_in v2 6 ∧ (vp_in v2 6 ∧ ∀ I2 : wI, I2 = wU I1 (k + 2) (v2).toNatClampNeg (I1 (k1 + 2) (v2).toNatClampNeg) → (K2 (v2 + (1 : Int32)) I2))))))
def v_X0_copyFrom_2 (k : Nat) (k1 : Nat) (Q : wI → Prop) : Nat → Int32 → wI → Prop
  | 0 => fun _ _ => False
  | f + 1 => g_X0_copyFrom_2 k k1 Q (v_X0_copyFrom_2 k k1 Q f)
def v_X0_copyFrom (k : Nat) (k1 : Nat) (I : wI) (Q : wI → Prop) : Prop :=
  ∃ f : Nat, v_X0_copyFrom_2 k k1 Q  f (0 : Int32) I
def g_X1_copyFrom_2 (k : Nat) (k1 : Nat) (Q : wI → Prop) (K2 : Int32 → wI → Prop) (v2 : Int32) (I : wI) : Prop :=
  (((5 : Int32) ≤ v2) → (Q I)) ∧ ((¬ ((5 : Int32) ≤ v2)) → (vp_in v2 5 ∧ (vp_in v2 5 ∧ ∀ I1 : wI, I1 = wU I (k + 1) (v2).toNatClampNeg (I (k1 + 1) (v2).toNatClampNeg) → (vp_in v2 5 ∧ (vp_in v2 5 ∧ ∀ I2 : wI, I2 = wU I1 (k + 2) (v2).toNatClampNeg (I1 (k1 + 2) (v2).toNatClampNeg) → (K2 (v2 + (1 : Int32)) I2))))))
def v_X1_copyFrom_2 (k : Nat) (k1 : Nat) (Q : wI → Prop) : Nat → Int32 → wI → Prop
  | 0 => fun _ _ => False
  | f + 1 => g_X1_copyFrom_2 k k1 Q (v_X1_copyFrom_2 k k1 Q f)
def v_X1_copyFrom (k : Nat) (k1 : Nat) (I : wI) (Q : wI → Prop) : Prop :=
  ∃ f : Nat, v_X1_copyFrom_2 k k1 Q  f (0 : Int32) I
def g_X3_copyFrom_51 (k : Nat) (k1 : Nat) (Q : wI → Prop) (K51 : Int32 → wI → Prop) (v2 : Int32) (I : wI) : Prop :=
  (((5 : Int32) ≤ v2) → (∀ I1 : wI, I1 = wU I k 6 (I k1 6) → (∀ I2 : wI, I2 = wU I1 k 7 (I1 k1 7) → (∀ I3 : wI, I3 = wU I2 k 8 (I2 k1 8) → (Q I3))))) ∧ ((¬ ((5 : Int32) ≤ v2)) → (vp_in v2 5 ∧ (vp_in v2 5 ∧ ∀ I4 : wI, I4 = wU I (k + 10) (v2).toNatClampNeg (I (k1 + 10) (v2).toNatClampNeg) → (K51 (v2 + (1 : Int32)) I4))))
def v_X3_copyFrom_51 (k : Nat) (k1 : Nat) (Q : wI → Prop) : Nat → Int32 → wI → Prop
  | 0 => fun _ _ => False
  | f + 1 => g_X3_copyFrom_51 k k1 Q (v_X3_copyFrom_51 k k1 Q f)
def v_X3_copyFrom (k : Nat) (k1 : Nat) (I : wI) (Q : wI → Prop) : Prop :=
  (pre_X0_copyFrom (k + 1) (k1 + 1) I) ∧ (∀ I1 : wI, (post_X0_copyFrom (k + 1) (k1 + 1) I I1) → ((pre_X1_copyFrom (k + 4) (k1 + 4) I1) ∧ (∀ I2 : wI, (post_X1_copyFrom (k + 4) (k1 + 4) I1 I2) → ((pre_X0_copyFrom (k + 7) (k1 + 7) I2) ∧ (∀ I3 : wI, (post_X0_copyFrom (k + 7) (k1 + 7) I2 I3) → (((I3 k1 3) = 0 ∨ (I3 k1 3) = 1) ∧ (∀ I4 : wI, I4 = wU I3 k 3 (I3 k1 3) → (∀ I5 : wI, I5 = wU I4 k 4 (I4 k1 4) → (∃ f : Nat, v_X3_copyFrom_51 k k1 Q  f (0 : Int32) I5)))))))))
def v_X5_writeSaved_22 (k1 : Nat) (Q : wI → Prop)  (I : wI) : Prop :=
  Q I
def v_X5_writeSaved (k1 : Nat) (I : wI) (Q : wI → Prop) : Prop :=
  (pre_X3_copyFrom k1 1 I) ∧ (∀ I1 : wI, (post_X3_copyFrom k1 1 I I1) → (∀ I2 : wI, I2 = wU I1 0 4 ((I1 0 4) + (1 : Int32)) → (v_X5_writeSaved_22 k1 Q   I2)))
def v_X5_save_42  (Q : wI → Prop)  (I : wI) : Prop :=
  Q I
def v_X5_save_13  (Q : wI → Prop)  (I : wI) : Prop :=
  (((I 0 4) < 0) → (v_X5_save_42  Q   I)) ∧ ((¬ ((I 0 4) < 0)) → ((((6 : Int32) ≤ (I 0 4)) → (v_X5_save_42  Q   I)) ∧ ((¬ ((6 : Int32) ≤ (I 0 4))) → (vp_in (I 0 4) 6 ∧ (((I 23 ((I 0 4)).toNatClampNeg)).toNatClampNeg < 6 ∧ ((pre_X5_writeSaved (wSv (I 23 ((I 0 4)).toNatClampNeg)) I) ∧ (∀ I1 : wI, (post_X5_writeSaved (wSv (I 23 ((I 0 4)).toNatClampNeg)) I I1) → (v_X5_save_42  Q   I1))))))))
def v_X5_save  (I : wI) (Q : wI → Prop) : Prop :=
  (((I 0 4) < (6 : Int32)) → (v_X5_save_13  Q   I)) ∧ ((¬ ((I 0 4) < (6 : Int32))) → ((pre_X5_dropOldest  I) ∧ (∀ I1 : wI, (post_X5_dropOldest  I I1) → (v_X5_save_13  Q   I1))))
def v_X0_agreeing_43 (k : Nat) (k1 : Nat) (I : wI) (Q : Int32 → Prop) (K4 : Int32 → Int32 → Prop) (v2 : Int32) (v3 : Int32) : Prop :=
  K4 v2 (v3 + (1 : Int32))
def g_X0_agreeing_4 (k : Nat) (k1 : Nat) (I : wI) (Q : Int32 → Prop) (K4 : Int32 → Int32 → Prop) (v2 : Int32) (v3 : Int32) : Prop :=
  (((6 : Int32) ≤ v3) → (Q v2)) ∧ ((¬ ((6 : Int32) ≤ v3)) → (vp_in v3 6 ∧ (vp_in v3 6 ∧ (((¬ (I (k + 1) (v3).toNatClampNeg) = (I (k1 + 1) (v3).toNatClampNeg)) → (v_X0_agreeing_43 k k1 I Q K4 v2 v3)) ∧ (((I (k + 1) (v3).toNatClampNeg) = (I (k1 + 1) (v3).toNatClampNeg)) → (vp_in v3 6 ∧ (vp_in v3 6 ∧ (((¬ (I (k + 2) (v3).toNatClampNeg) = (I (k1 + 2) (v3).toNatClampNeg)) → (v_X0_agreeing_43 k k1 I Q K4 v2 v3)) ∧ (((I (k + 2) (v3).toNatClampNeg) = (I (k1 + 2) (v3).toNatClampNeg)) → (v_X0_agreeing_43 k k1 I Q K4 (v2 + (1 : Int32)) v3))))))))))
def v_X0_agreeing_4 (k : Nat) (k1 : Nat) (I : wI) (Q : Int32 → Prop) : Nat → Int32 → Int32 → Prop
  | 0 => fun _ _ => False
  | f + 1 => g_X0_agreeing_4 k k1 I Q (v_X0_agreeing_4 k k1 I Q f)
def v_X0_agreeing (k : Nat) (k1 : Nat) (I : wI) (Q : Int32 → Prop) : Prop :=
  ∃ f : Nat, v_X0_agreeing_4 k k1 I Q  f (0 : Int32) (0 : Int32)
def v_X3_asInSecret_19 (k : Nat) (k1 : Nat) (I : wI) (Q : Int32 → Prop) (t0 : Int32) : Prop :=
  Q t0
def v_X3_asInSecret (k : Nat) (k1 : Nat) (I : wI) (Q : Int32 → Prop) : Prop :=
  (((I k 3) = 0) → (v_X3_asInSecret_19 k k1 I Q  (0 : Int32))) ∧ ((¬ ((I k 3) = 0)) → ((pre_X0_agreeing k1 (k + 7) I) ∧ (∀ r1 : Int32, (post_X0_agreeing k1 (k + 7) I r1) → (v_X3_asInSecret_19 k k1 I Q  r1))))
def v_X3_opens_18 (k : Nat) (I : wI) (Q : Int32 → Prop) (t0 : Int32) : Prop :=
  (t0 = 0 ∨ t0 = 1) ∧ Q t0
def v_X3_opens (k : Nat) (I : wI) (Q : Int32 → Prop) : Prop :=
  (pre_X3_asInSecret k (k + 1) I) ∧ (∀ r1 : Int32, (post_X3_asInSecret k (k + 1) I r1) → (((¬ r1 = (6 : Int32)) → (v_X3_opens_18 k I Q  (0 : Int32))) ∧ ((r1 = (6 : Int32)) → (v_X3_opens_18 k I Q  (1 : Int32)))))
def v_X1_strengthOf_19 (k : Nat) (x1 : Int32) (I : wI) (Q : Int32 → Prop) (t0 : Int32) : Prop :=
  Q t0
def v_X1_strengthOf_18 (k : Nat) (x1 : Int32) (I : wI) (Q : Int32 → Prop)  : Prop :=
  v_X1_strengthOf_19 k x1 I Q  (0 : Int32)
def v_X1_strengthOf (k : Nat) (x1 : Int32) (I : wI) (Q : Int32 → Prop) : Prop :=
  ((x1 < 0) → (v_X1_strengthOf_18 k x1 I Q  )) ∧ ((¬ (x1 < 0)) → ((((5 : Int32) ≤ x1) → (v_X1_strengthOf_18 k x1 I Q  )) ∧ ((¬ ((5 : Int32) ≤ x1)) → (vp_in x1 5 ∧ (v_X1_strengthOf_19 k x1 I Q  (I (k + 2) (x1).toNatClampNeg))))))
def v_X5_isBack_10 (x0 : Int32) (I : wI) (Q : Int32 → Prop) (t0 : Int32) : Prop :=
  (t0 = 0 ∨ t0 = 1) ∧ Q t0
def v_X5_isBack (x0 : Int32) (I : wI) (Q : Int32 → Prop) : Prop :=
  ((x0 < (5 : Int32)) → (v_X5_isBack_10 x0 I Q  (0 : Int32))) ∧ ((¬ (x0 < (5 : Int32))) → (v_X5_isBack_10 x0 I Q  (1 : Int32)))
def v_X0_rotate_155 (k : Nat) (x1 : Int32) (x2 : Int32) (x3 : Int32) (Q : wI → Prop)  (I : wI) : Prop :=
  Q I
def v_X0_rotate_119 (k : Nat) (x1 : Int32) (x2 : Int32) (x3 : Int32) (Q : wI → Prop) (K25 : Int32 → Int32 → Int32 → Int32 → Int32 → wI → Prop) (v4 : Int32) (v5 : Int32) (v6 : Int32) (v7 : Int32) (v8 : Int32) (I : wI) : Prop :=
  K25 v4 v5 v6 v7 (v8 + (1 : Int32)) I
def v_X0_rotate_111 (k : Nat) (x1 : Int32) (x2 : Int32) (x3 : Int32) (Q : wI → Prop) (K25 : Int32 → Int32 → Int32 → Int32 → Int32 → wI → Prop) (v4 : Int32) (v5 : Int32) (v8 : Int32) (v10 : Int32) (v11 : Int32) (I : wI) : Prop :=
  v_X0_rotate_119 k x1 x2 x3 Q K25 v4 v5 v10 v11 v8 I
def v_X0_rotate_45 (k : Nat) (x1 : Int32) (x2 : Int32) (x3 : Int32) (Q : wI → Prop) (K25 : Int32 → Int32 → Int32 → Int32 → Int32 → wI → Prop) (v4 : Int32) (v5 : Int32) (v6 : Int32) (v7 : Int32) (v8 : Int32) (t0 : Int32) (I : wI) : Prop :=
  ((¬ ((x1 >>> (t0 &&& 31)) &&& (1 : Int32)) = (1 : Int32)) → (v_X0_rotate_119 k x1 x2 x3 Q K25 v4 v5 v6 v7 v8 I)) ∧ ((((x1 >>> (t0 &&& 31)) &&& (1 : Int32)) = (1 : Int32)) → (vp_in t0 6 ∧ (vp_in t0 6 ∧ (((¬ v5 = (-1 : Int32)) → (vp_in t0 6 ∧ ∀ I1 : wI, I1 = wU I (k + 1) (t0).toNatClampNeg v6 → (vp_in t0 6 ∧ ∀ I2 : wI, I2 = wU I1 (k + 2) (t0).toNatClampNeg v7 → (v_X0_rotate_111 k x1 x2 x3 Q K25 v4 v5 v8 (I (k + 1) (t0).toNatClampNeg) (((I (k + 2) (t0).toNatClampNeg) + v4) - ((I (k + 2) (t0).toNatClampNeg) + v4) / (5 : Int32) * (5 : Int32)) I2)))) ∧ ((v5 = (-1 : Int32)) → (v_X0_rotate_111 k x1 x2 x3 Q K25 v4 t0 v8 (I (k + 1) (t0).toNatClampNeg) (((I (k + 2) (t0).toNatClampNeg) + v4) - ((I (k + 2) (t0).toNatClampNeg) + v4) / (5 : Int32) * (5 : Int32)) I))))))
def g_X0_rotate_25 (k : Nat) (x1 : Int32) (x2 : Int32) (x3 : Int32) (Q : wI → Prop) (K25 : Int32 → Int32 → Int32 → Int32 → Int32 → wI → Prop) (v4 : Int32) (v5 : Int32) (v6 : Int32) (v7 : Int32) (v8 : Int32) (I : wI) : Prop :=
  (((6 : Int32) ≤ v8) → (((v5 < 0) → (v_X0_rotate_155 k x1 x2 x3 Q   I)) ∧ ((¬ (v5 < 0)) → ((((6 : Int32) ≤ v5) → (v_X0_rotate_155 k x1 x2 x3 Q   I)) ∧ ((¬ ((6 : Int32) ≤ v5)) → (vp_in v5 6 ∧ ∀ I1 : wI, I1 = wU I (k + 1) (v5).toNatClampNeg v6 → (vp_in v5 6 ∧ ∀ I2 : wI, I2 = wU I1 (k + 2) (v5).toNatClampNeg v7 → (v_X0_rotate_155 k x1 x2 x3 Q   I2)))))))) ∧ ((¬ ((6 : Int32) ≤ v8)) → (((x3 = 0) → (v_X0_rotate_45 k x1 x2 x3 Q K25 v4 v5 v6 v7 v8 v8 I)) ∧ ((¬ (x3 = 0)) → (v_X0_rotate_45 k x1 x2 x3 Q K25 v4 v5 v6 v7 v8 ((5 : Int32) - v8) I))))
def v_X0_rotate_25 (k : Nat) (x1 : Int32) (x2 : Int32) (x3 : Int32) (Q : wI → Prop) : Nat → Int32 → Int32 → Int32 → Int32 → Int32 → wI → Prop
  | 0 => fun _ _ _ _ _ _ => False
  | f + 1 => g_X0_rotate_25 k x1 x2 x3 Q (v_X0_rotate_25 k x1 x2 x3 Q f)
def v_X0_rotate_11 (k : Nat) (x1 : Int32) (x2 : Int32) (x3 : Int32) (Q : wI → Prop) (t0 : Int32) (I : wI) : Prop :=
  ∃ f : Nat, v_X0_rotate_25 k x1 x2 x3 Q  f t0 (-1 : Int32) (0 : Int32) (0 : Int32) (0 : Int32) I
def v_X0_rotate (k : Nat) (x1 : Int32) (x2 : Int32) (x3 : Int32) (I : wI) (Q : wI → Prop) : Prop :=
  ((x3 = 0) → (v_X0_rotate_11 k x1 x2 x3 Q  x2 I)) ∧ ((¬ (x3 = 0)) → (v_X0_rotate_11 k x1 x2 x3 Q  ((5 : Int32) - x2) I))
def v_X1_move (k : Nat) (k1 : Nat) (x2 : Int32) (I : wI) (Q : wI → Prop) : Prop :=
  (pre_X5_keyOf x2 I) ∧ (∀ r1 : Int32, (post_X5_keyOf x2 I r1) → ((pre_X1_maskOf k r1 I) ∧ (∀ r2 : Int32, (post_X1_maskOf k r1 I r2) → ((pre_X1_strengthOf k r1 I) ∧ (∀ r3 : Int32, (post_X1_strengthOf k r1 I r3) → ((pre_X5_isBack x2 I) ∧ (∀ r4 : Int32, (post_X5_isBack x2 I r4) → ((pre_X0_rotate k1 r2 r3 r4 I) ∧ (∀ I5 : wI, (post_X0_rotate k1 r2 r3 r4 I I5) → (Q I5))))))))))
def v_J_bitCount (x0 : Int32) (I : wI) (Q : Int32 → Prop) : Prop :=
  Q ((((((((x0 - (((x0).toUInt32 >>> (((1 : Int32)).toUInt32 &&& Int32.toUInt32 31)).toInt32 &&& (1431655765 : Int32))) &&& (858993459 : Int32)) + ((((x0 - (((x0).toUInt32 >>> (((1 : Int32)).toUInt32 &&& Int32.toUInt32 31)).toInt32 &&& (1431655765 : Int32)))).toUInt32 >>> (((2 : Int32)).toUInt32 &&& Int32.toUInt32 31)).toInt32 &&& (858993459 : Int32))) + (((((x0 - (((x0).toUInt32 >>> (((1 : Int32)).toUInt32 &&& Int32.toUInt32 31)).toInt32 &&& (1431655765 : Int32))) &&& (858993459 : Int32)) + ((((x0 - (((x0).toUInt32 >>> (((1 : Int32)).toUInt32 &&& Int32.toUInt32 31)).toInt32 &&& (1431655765 : Int32)))).toUInt32 >>> (((2 : Int32)).toUInt32 &&& Int32.toUInt32 31)).toInt32 &&& (858993459 : Int32)))).toUInt32 >>> (((4 : Int32)).toUInt32 &&& Int32.toUInt32 31)).toInt32) &&& (252645135 : Int32)) + (((((((x0 - (((x0).toUInt32 >>> (((1 : Int32)).toUInt32 &&& Int32.toUInt32 31)).toInt32 &&& (1431655765 : Int32))) &&& (858993459 : Int32)) + ((((x0 - (((x0).toUInt32 >>> (((1 : Int32)).toUInt32 &&& Int32.toUInt32 31)).toInt32 &&& (1431655765 : Int32)))).toUInt32 >>> (((2 : Int32)).toUInt32 &&& Int32.toUInt32 31)).toInt32 &&& (858993459 : Int32))) + (((((x0 - (((x0).toUInt32 >>> (((1 : Int32)).toUInt32 &&& Int32.toUInt32 31)).toInt32 &&& (1431655765 : Int32))) &&& (858993459 : Int32)) + ((((x0 - (((x0).toUInt32 >>> (((1 : Int32)).toUInt32 &&& Int32.toUInt32 31)).toInt32 &&& (1431655765 : Int32)))).toUInt32 >>> (((2 : Int32)).toUInt32 &&& Int32.toUInt32 31)).toInt32 &&& (858993459 : Int32)))).toUInt32 >>> (((4 : Int32)).toUInt32 &&& Int32.toUInt32 31)).toInt32) &&& (252645135 : Int32))).toUInt32 >>> (((8 : Int32)).toUInt32 &&& Int32.toUInt32 31)).toInt32) + ((((((((x0 - (((x0).toUInt32 >>> (((1 : Int32)).toUInt32 &&& Int32.toUInt32 31)).toInt32 &&& (1431655765 : Int32))) &&& (858993459 : Int32)) + ((((x0 - (((x0).toUInt32 >>> (((1 : Int32)).toUInt32 &&& Int32.toUInt32 31)).toInt32 &&& (1431655765 : Int32)))).toUInt32 >>> (((2 : Int32)).toUInt32 &&& Int32.toUInt32 31)).toInt32 &&& (858993459 : Int32))) + (((((x0 - (((x0).toUInt32 >>> (((1 : Int32)).toUInt32 &&& Int32.toUInt32 31)).toInt32 &&& (1431655765 : Int32))) &&& (858993459 : Int32)) + ((((x0 - (((x0).toUInt32 >>> (((1 : Int32)).toUInt32 &&& Int32.toUInt32 31)).toInt32 &&& (1431655765 : Int32)))).toUInt32 >>> (((2 : Int32)).toUInt32 &&& Int32.toUInt32 31)).toInt32 &&& (858993459 : Int32)))).toUInt32 >>> (((4 : Int32)).toUInt32 &&& Int32.toUInt32 31)).toInt32) &&& (252645135 : Int32)) + (((((((x0 - (((x0).toUInt32 >>> (((1 : Int32)).toUInt32 &&& Int32.toUInt32 31)).toInt32 &&& (1431655765 : Int32))) &&& (858993459 : Int32)) + ((((x0 - (((x0).toUInt32 >>> (((1 : Int32)).toUInt32 &&& Int32.toUInt32 31)).toInt32 &&& (1431655765 : Int32)))).toUInt32 >>> (((2 : Int32)).toUInt32 &&& Int32.toUInt32 31)).toInt32 &&& (858993459 : Int32))) + (((((x0 - (((x0).toUInt32 >>> (((1 : Int32)).toUInt32 &&& Int32.toUInt32 31)).toInt32 &&& (1431655765 : Int32))) &&& (858993459 : Int32)) + ((((x0 - (((x0).toUInt32 >>> (((1 : Int32)).toUInt32 &&& Int32.toUInt32 31)).toInt32 &&& (1431655765 : Int32)))).toUInt32 >>> (((2 : Int32)).toUInt32 &&& Int32.toUInt32 31)).toInt32 &&& (858993459 : Int32)))).toUInt32 >>> (((4 : Int32)).toUInt32 &&& Int32.toUInt32 31)).toInt32) &&& (252645135 : Int32))).toUInt32 >>> (((8 : Int32)).toUInt32 &&& Int32.toUInt32 31)).toInt32)).toUInt32 >>> (((16 : Int32)).toUInt32 &&& Int32.toUInt32 31)).toInt32) &&& (63 : Int32))
def v_X1_notchesBy_33 (k : Nat) (x1 : Int32) (I : wI) (Q : Int32 → Prop) (t0 : Int32) : Prop :=
  Q t0
def v_X1_notchesBy (k : Nat) (x1 : Int32) (I : wI) (Q : Int32 → Prop) : Prop :=
  (pre_X5_keyOf x1 I) ∧ (∀ r1 : Int32, (post_X5_keyOf x1 I r1) → ((pre_X1_strengthOf k r1 I) ∧ (∀ r2 : Int32, (post_X1_strengthOf k r1 I r2) → ((pre_X1_maskOf k r1 I) ∧ (∀ r3 : Int32, (post_X1_maskOf k r1 I r3) → ((pre_J_bitCount r3 I) ∧ (∀ r4 : Int32, (post_J_bitCount r3 I r4) → ((pre_X5_isBack x1 I) ∧ (∀ r5 : Int32, (post_X5_isBack x1 I r5) → (((r5 = 0) → (v_X1_notchesBy_33 k x1 I Q  (r2 * r4))) ∧ ((¬ (r5 = 0)) → (v_X1_notchesBy_33 k x1 I Q  (-(r2 * r4))))))))))))))
def v_J_floorMod_18 (x0 : Int32) (x1 : Int32) (I : wI) (Q : Int32 → Prop) (v2 : Int32) : Prop :=
  Q v2
def v_J_floorMod (x0 : Int32) (x1 : Int32) (I : wI) (Q : Int32 → Prop) : Prop :=
  (¬ x1 = 0) ∧ (((0 ≤ (x0 ^^^ x1)) → (v_J_floorMod_18 x0 x1 I Q  (x0 - x0 / x1 * x1))) ∧ ((¬ (0 ≤ (x0 ^^^ x1))) → ((((x0 - x0 / x1 * x1) = 0) → (v_J_floorMod_18 x0 x1 I Q  (x0 - x0 / x1 * x1))) ∧ ((¬ ((x0 - x0 / x1 * x1) = 0)) → (Q ((x0 - x0 / x1 * x1) + x1))))))
def v_X3_doMove_93 (k : Nat) (x1 : Int32) (Q : wI → Prop)  (I : wI) : Prop :=
  Q I
def v_X3_doMove_72 (k : Nat) (x1 : Int32) (Q : wI → Prop) (v2 : Int32) (I : wI) : Prop :=
  ((¬ v2 = 0) → (v_X3_doMove_93 k x1 Q   I)) ∧ ((v2 = 0) → ((pre_X3_opens k I) ∧ (∀ r1 : Int32, (post_X3_opens k I r1) → (((r1 = 0) → (v_X3_doMove_93 k x1 Q   I)) ∧ ((¬ (r1 = 0)) → (∀ I2 : wI, I2 = wU I k 8 ((I k 8) + (1 : Int32)) → (v_X3_doMove_93 k x1 Q   I2)))))))
def v_X3_doMove (k : Nat) (x1 : Int32) (I : wI) (Q : wI → Prop) : Prop :=
  (pre_X3_opens k I) ∧ (∀ r1 : Int32, (post_X3_opens k I r1) → ((pre_X1_move (k + 4) (k + 1) x1 I) ∧ (∀ I2 : wI, (post_X1_move (k + 4) (k + 1) x1 I I2) → ((pre_X1_notchesBy (k + 4) x1 I2) ∧ (∀ r3 : Int32, (post_X1_notchesBy (k + 4) x1 I2 r3) → ((pre_J_floorMod ((I2 k 7) + r3) (5 : Int32) I2) ∧ (∀ r4 : Int32, (post_J_floorMod ((I2 k 7) + r3) (5 : Int32) I2 r4) → (∀ I5 : wI, I5 = wU I2 k 7 r4 → (∀ I6 : wI, I6 = wU I5 k 6 ((I5 k 6) + (1 : Int32)) → ((pre_X5_keyOf x1 I6) ∧ (∀ r7 : Int32, (post_X5_keyOf x1 I6 r7) → (((r7 < 0) → (v_X3_doMove_72 k x1 Q  r1 I6)) ∧ ((¬ (r7 < 0)) → ((((5 : Int32) ≤ r7) → (v_X3_doMove_72 k x1 Q  r1 I6)) ∧ ((¬ ((5 : Int32) ≤ r7)) → (vp_in r7 5 ∧ (vp_in r7 5 ∧ ∀ I8 : wI, I8 = wU I6 (k + 10) (r7).toNatClampNeg ((I6 (k + 10) (r7).toNatClampNeg) + (1 : Int32)) → (v_X3_doMove_72 k x1 Q  r1 I8))))))))))))))))))
def v_X5_turnOnce (x1 : Int32) (x2 : Int32) (I : wI) (Q : Int32 → wI → Prop) : Prop :=
  (pre_X5_requireKey x1 I) ∧ ((post_X5_requireKey x1 I) → ((pre_X5_moveOf x1 x2 I) ∧ (∀ r1 : Int32, (post_X5_moveOf x1 x2 I r1) → ((pre_X3_allows 1 r1 I) ∧ (∀ r2 : Int32, (post_X3_allows 1 r1 I r2) → (((¬ r2 = 0) → ((pre_X5_save  I) ∧ (∀ I3 : wI, (post_X5_save  I I3) → ((pre_X3_doMove 1 r1 I3) ∧ (∀ I4 : wI, (post_X3_doMove 1 r1 I3 I4) → ((pre_X3_asInSecret 1 2 I4) ∧ (∀ r5 : Int32, (post_X3_asInSecret 1 2 I4 r5) → (Q r5 I4)))))))) ∧ ((r2 = 0) → (False))))))))
def v_X5_turnOncex (x1 : Int32) (x2 : Int32) (I : wI) (X : String → wI → Prop) : Prop :=
  ((ok_X5_requireKey x1 I) → ((pre_X5_requireKey x1 I) ∧ ((post_X5_requireKey x1 I) → ((pre_X5_moveOf x1 x2 I) ∧ (∀ r1 : Int32, (post_X5_moveOf x1 x2 I r1) → ((pre_X3_allows 1 r1 I) ∧ (∀ r2 : Int32, (post_X3_allows 1 r1 I r2) → (((¬ r2 = 0) → ((pre_X5_save  I) ∧ (∀ I3 : wI, (post_X5_save  I I3) → ((pre_X3_doMove 1 r1 I3) ∧ (∀ I4 : wI, (post_X3_doMove 1 r1 I3 I4) → ((pre_X3_asInSecret 1 2 I4) ∧ (∀ r5 : Int32, (post_X3_asInSecret 1 2 I4 r5) → (False)))))))) ∧ ((r2 = 0) → (X "java/lang/IllegalStateException" I)))))))))) ∧ ((¬ (ok_X5_requireKey x1 I)) → ((pre_X5_requireKeyx x1 I) ∧ (∀ E : String, (exc_X5_requireKey x1 I E) → X E I)))
def v_X5_turn (x1 : Int32) (I : wI) (Q : Int32 → wI → Prop) : Prop :=
  (pre_X5_turnOnce x1 (0 : Int32) I) ∧ (∀ r1 : Int32, ∀ I2 : wI, (post_X5_turnOnce x1 (0 : Int32) I r1 I2) → (Q r1 I2))
def v_X5_turnx (x1 : Int32) (I : wI) (X : String → wI → Prop) : Prop :=
  ((ok_X5_turnOnce x1 (0 : Int32) I) → ((pre_X5_turnOnce x1 (0 : Int32) I) ∧ (∀ r3 : Int32, ∀ I4 : wI, (post_X5_turnOnce x1 (0 : Int32) I r3 I4) → (False)))) ∧ ((¬ (ok_X5_turnOnce x1 (0 : Int32) I)) → ((pre_X5_turnOncex x1 (0 : Int32) I) ∧ (∀ (E : String) (u : wI), (exc_X5_turnOnce x1 (0 : Int32) I E u) → X E u)))
def v_X5_back (x1 : Int32) (I : wI) (Q : Int32 → wI → Prop) : Prop :=
  (pre_X5_turnOnce x1 (1 : Int32) I) ∧ (∀ r1 : Int32, ∀ I2 : wI, (post_X5_turnOnce x1 (1 : Int32) I r1 I2) → (Q r1 I2))
def v_X5_backx (x1 : Int32) (I : wI) (X : String → wI → Prop) : Prop :=
  ((ok_X5_turnOnce x1 (1 : Int32) I) → ((pre_X5_turnOnce x1 (1 : Int32) I) ∧ (∀ r3 : Int32, ∀ I4 : wI, (post_X5_turnOnce x1 (1 : Int32) I r3 I4) → (False)))) ∧ ((¬ (ok_X5_turnOnce x1 (1 : Int32) I)) → ((pre_X5_turnOncex x1 (1 : Int32) I) ∧ (∀ (E : String) (u : wI), (exc_X5_turnOnce x1 (1 : Int32) I E u) → X E u)))
def v_X0_reach_35 (k : Nat) (I : wI) (Q : Int32 → Prop) (K4 : Int32 → Int32 → Prop) (v1 : Int32) (v2 : Int32) : Prop :=
  K4 v1 (v2 + (1 : Int32))
def v_X0_reach_29 (k : Nat) (I : wI) (Q : Int32 → Prop) (K4 : Int32 → Int32 → Prop) (v1 : Int32) (v2 : Int32) : Prop :=
  v_X0_reach_35 k I Q K4 (v1 ||| ((1 : Int32) <<< (v2 &&& 31))) v2
def g_X0_reach_4 (k : Nat) (I : wI) (Q : Int32 → Prop) (K4 : Int32 → Int32 → Prop) (v1 : Int32) (v2 : Int32) : Prop :=
  (((6 : Int32) ≤ v2) → (Q v1)) ∧ ((¬ ((6 : Int32) ≤ v2)) → (vp_in v2 6 ∧ (((¬ (I (k + 1) (v2).toNatClampNeg) = v2) → (v_X0_reach_29 k I Q K4 v1 v2)) ∧ (((I (k + 1) (v2).toNatClampNeg) = v2) → (vp_in v2 6 ∧ ((((I (k + 2) (v2).toNatClampNeg) = 0) → (v_X0_reach_35 k I Q K4 v1 v2)) ∧ ((¬ ((I (k + 2) (v2).toNatClampNeg) = 0)) → (v_X0_reach_29 k I Q K4 v1 v2))))))))
def v_X0_reach_4 (k : Nat) (I : wI) (Q : Int32 → Prop) : Nat → Int32 → Int32 → Prop
  | 0 => fun _ _ => False
  | f + 1 => g_X0_reach_4 k I Q (v_X0_reach_4 k I Q f)
def v_X0_reach (k : Nat) (I : wI) (Q : Int32 → Prop) : Prop :=
  ∃ f : Nat, v_X0_reach_4 k I Q  f (0 : Int32) (0 : Int32)
def g_X0_bringHome_2 (k : Nat) (Q : wI → Prop) (K2 : Int32 → wI → Prop) (v1 : Int32) (I : wI) : Prop :=
  (((6 : Int32) ≤ v1) → (Q I)) ∧ ((¬ ((6 : Int32) ≤ v1)) → (vp_in v1 6 ∧ ∀ I1 : wI, I1 = wU I (k + 1) (v1).toNatClampNeg v1 → (vp_in v1 6 ∧ ∀ I2 : wI, I2 = wU I1 (k + 2) (v1).toNatClampNeg (0 : Int32) → (K2 (v1 + (1 : Int32)) I2))))
def v_X0_bringHome_2 (k : Nat) (Q : wI → Prop) : Nat → Int32 → wI → Prop
  | 0 => fun _ _ => False
  | f + 1 => g_X0_bringHome_2 k Q (v_X0_bringHome_2 k Q f)
def v_X0_bringHome (k : Nat) (I : wI) (Q : wI → Prop) : Prop :=
  ∃ f : Nat, v_X0_bringHome_2 k Q  f (0 : Int32) I
def v_X5_home  (I : wI) (Q : Int32 → wI → Prop) : Prop :=
  (pre_X5_save  I) ∧ (∀ I1 : wI, (post_X5_save  I I1) → ((pre_X0_reach 2 I1) ∧ (∀ r2 : Int32, (post_X0_reach 2 I1 r2) → ((pre_J_bitCount r2 I1) ∧ (∀ r3 : Int32, (post_J_bitCount r2 I1 r3) → ((pre_X0_bringHome 2 I1) ∧ (∀ I4 : wI, (post_X0_bringHome 2 I1 I4) → (∀ I5 : wI, I5 = wU I4 1 7 (0 : Int32) → (Q r3 I5)))))))))
def v_X5_isKeyMask_23 (x0 : Int32) (I : wI) (Q : Int32 → Prop) (t0 : Int32) : Prop :=
  (t0 = 0 ∨ t0 = 1) ∧ Q t0
def v_X5_isKeyMask_22 (x0 : Int32) (I : wI) (Q : Int32 → Prop)  : Prop :=
  v_X5_isKeyMask_23 x0 I Q  (0 : Int32)
def v_X5_isKeyMask (x0 : Int32) (I : wI) (Q : Int32 → Prop) : Prop :=
  ((x0 < 0) → (v_X5_isKeyMask_22 x0 I Q  )) ∧ ((¬ (x0 < 0)) → ((((64 : Int32) ≤ x0) → (v_X5_isKeyMask_22 x0 I Q  )) ∧ ((¬ ((64 : Int32) ≤ x0)) → ((pre_J_bitCount x0 I) ∧ (∀ r1 : Int32, (post_J_bitCount x0 I r1) → (((r1 < (2 : Int32)) → (v_X5_isKeyMask_22 x0 I Q  )) ∧ ((¬ (r1 < (2 : Int32))) → (v_X5_isKeyMask_23 x0 I Q  (1 : Int32)))))))))
def v_X1_shape_23 (k : Nat) (x1 : Int32) (x2 : Int32) (x3 : Int32) (Q : wI → Prop)  (I : wI) : Prop :=
  Q I
def v_X1_shape (k : Nat) (x1 : Int32) (x2 : Int32) (x3 : Int32) (I : wI) (Q : wI → Prop) : Prop :=
  ((x1 < 0) → (v_X1_shape_23 k x1 x2 x3 Q   I)) ∧ ((¬ (x1 < 0)) → ((((5 : Int32) ≤ x1) → (v_X1_shape_23 k x1 x2 x3 Q   I)) ∧ ((¬ ((5 : Int32) ≤ x1)) → (vp_in x1 5 ∧ ∀ I1 : wI, I1 = wU I (k + 1) (x1).toNatClampNeg x2 → (vp_in x1 5 ∧ ∀ I2 : wI, I2 = wU I1 (k + 2) (x1).toNatClampNeg x3 → (v_X1_shape_23 k x1 x2 x3 Q   I2))))))
def v_X5_cut_20 (x1 : Int32) (x2 : Int32) (x3 : Int32) (Q : Int32 → wI → Prop)  (I : wI) : Prop :=
  False
def v_X5_cut (x1 : Int32) (x2 : Int32) (x3 : Int32) (I : wI) (Q : Int32 → wI → Prop) : Prop :=
  (pre_X5_requireKey x1 I) ∧ ((post_X5_requireKey x1 I) → ((pre_X5_isKeyMask x2 I) ∧ (∀ r1 : Int32, (post_X5_isKeyMask x2 I r1) → (((r1 = 0) → (v_X5_cut_20 x1 x2 x3 Q   I)) ∧ ((¬ (r1 = 0)) → (((x3 < 0) → (v_X5_cut_20 x1 x2 x3 Q   I)) ∧ ((¬ (x3 < 0)) → (((x3 < (5 : Int32)) → ((pre_X5_save  I) ∧ (∀ I2 : wI, (post_X5_save  I I2) → ((pre_X1_maskOf 5 x1 I2) ∧ (∀ r3 : Int32, (post_X1_maskOf 5 x1 I2 r3) → ((pre_X1_shape 5 x1 x2 x3 I2) ∧ (∀ I4 : wI, (post_X1_shape 5 x1 x2 x3 I2 I4) → (Q r3 I4)))))))) ∧ ((¬ (x3 < (5 : Int32))) → (v_X5_cut_20 x1 x2 x3 Q   I))))))))))
def v_X5_cutx_20 (x1 : Int32) (x2 : Int32) (x3 : Int32) (X : String → wI → Prop)  (I : wI) : Prop :=
  X "java/lang/IllegalArgumentException" I
def v_X5_cutx (x1 : Int32) (x2 : Int32) (x3 : Int32) (I : wI) (X : String → wI → Prop) : Prop :=
  ((ok_X5_requireKey x1 I) → ((pre_X5_requireKey x1 I) ∧ ((post_X5_requireKey x1 I) → ((pre_X5_isKeyMask x2 I) ∧ (∀ r1 : Int32, (post_X5_isKeyMask x2 I r1) → (((r1 = 0) → (v_X5_cutx_20 x1 x2 x3 X   I)) ∧ ((¬ (r1 = 0)) → (((x3 < 0) → (v_X5_cutx_20 x1 x2 x3 X   I)) ∧ ((¬ (x3 < 0)) → (((x3 < (5 : Int32)) → ((pre_X5_save  I) ∧ (∀ I2 : wI, (post_X5_save  I I2) → ((pre_X1_maskOf 5 x1 I2) ∧ (∀ r3 : Int32, (post_X1_maskOf 5 x1 I2 r3) → ((pre_X1_shape 5 x1 x2 x3 I2) ∧ (∀ I4 : wI, (post_X1_shape 5 x1 x2 x3 I2 I4) → (False)))))))) ∧ ((¬ (x3 < (5 : Int32))) → (v_X5_cutx_20 x1 x2 x3 X   I)))))))))))) ∧ ((¬ (ok_X5_requireKey x1 I)) → ((pre_X5_requireKeyx x1 I) ∧ (∀ E : String, (exc_X5_requireKey x1 I E) → X E I)))
def v_X5_requirePosition_10 (x0 : Int32) (I : wI) (Q : Prop)  : Prop :=
  False
def v_X5_requirePosition (x0 : Int32) (I : wI) (Q : Prop) : Prop :=
  ((x0 < 0) → (v_X5_requirePosition_10 x0 I Q  )) ∧ ((¬ (x0 < 0)) → (((x0 < (6 : Int32)) → (Q)) ∧ ((¬ (x0 < (6 : Int32))) → (v_X5_requirePosition_10 x0 I Q  ))))
def v_X5_requirePositionx_10 (x0 : Int32) (I : wI) (X : String → Prop)  : Prop :=
  X "java/lang/IndexOutOfBoundsException"
def v_X5_requirePositionx (x0 : Int32) (I : wI) (X : String → Prop) : Prop :=
  ((x0 < 0) → (v_X5_requirePositionx_10 x0 I X  )) ∧ ((¬ (x0 < 0)) → (((x0 < (6 : Int32)) → (False)) ∧ ((¬ (x0 < (6 : Int32))) → (v_X5_requirePositionx_10 x0 I X  ))))
def v_X3_stuckKeys_20 (k : Nat) (I : wI) (Q : Int32 → Prop) (K4 : Int32 → Int32 → Prop) (v1 : Int32) (v2 : Int32) : Prop :=
  K4 v1 (v2 + (1 : Int32))
def g_X3_stuckKeys_4 (k : Nat) (I : wI) (Q : Int32 → Prop) (K4 : Int32 → Int32 → Prop) (v1 : Int32) (v2 : Int32) : Prop :=
  (((5 : Int32) ≤ v2) → (Q v1)) ∧ ((¬ ((5 : Int32) ≤ v2)) → ((pre_X3_allows k v2 I) ∧ (∀ r1 : Int32, (post_X3_allows k v2 I r1) → (((¬ r1 = 0) → (v_X3_stuckKeys_20 k I Q K4 v1 v2)) ∧ ((r1 = 0) → (v_X3_stuckKeys_20 k I Q K4 (v1 + (1 : Int32)) v2))))))
def v_X3_stuckKeys_4 (k : Nat) (I : wI) (Q : Int32 → Prop) : Nat → Int32 → Int32 → Prop
  | 0 => fun _ _ => False
  | f + 1 => g_X3_stuckKeys_4 k I Q (v_X3_stuckKeys_4 k I Q f)
def v_X3_stuckKeys (k : Nat) (I : wI) (Q : Int32 → Prop) : Prop :=
  ∃ f : Nat, v_X3_stuckKeys_4 k I Q  f (0 : Int32) (0 : Int32)
def v_X5_stick (x1 : Int32) (I : wI) (Q : Int32 → wI → Prop) : Prop :=
  (pre_X5_requirePosition x1 I) ∧ ((post_X5_requirePosition x1 I) → ((pre_X5_save  I) ∧ (∀ I1 : wI, (post_X5_save  I I1) → (∀ I2 : wI, I2 = wU I1 1 4 ((I1 1 4) ^^^ ((1 : Int32) <<< (x1 &&& 31))) → ((pre_X3_stuckKeys 1 I2) ∧ (∀ r3 : Int32, (post_X3_stuckKeys 1 I2 r3) → (Q r3 I2)))))))
def v_X5_stickx (x1 : Int32) (I : wI) (X : String → wI → Prop) : Prop :=
  ((ok_X5_requirePosition x1 I) → ((pre_X5_requirePosition x1 I) ∧ ((post_X5_requirePosition x1 I) → ((pre_X5_save  I) ∧ (∀ I1 : wI, (post_X5_save  I I1) → (∀ I2 : wI, I2 = wU I1 1 4 ((I1 1 4) ^^^ ((1 : Int32) <<< (x1 &&& 31))) → ((pre_X3_stuckKeys 1 I2) ∧ (∀ r3 : Int32, (post_X3_stuckKeys 1 I2 r3) → (False))))))))) ∧ ((¬ (ok_X5_requirePosition x1 I)) → ((pre_X5_requirePositionx x1 I) ∧ (∀ E : String, (exc_X5_requirePosition x1 I E) → X E I)))
def g_X0_notchSum_4 (k : Nat) (I : wI) (Q : Int32 → Prop) (K4 : Int32 → Int32 → Prop) (v1 : Int32) (v2 : Int32) : Prop :=
  (((6 : Int32) ≤ v2) → (Q v1)) ∧ ((¬ ((6 : Int32) ≤ v2)) → (vp_in v2 6 ∧ (K4 (v1 + (I (k + 2) (v2).toNatClampNeg)) (v2 + (1 : Int32)))))
def v_X0_notchSum_4 (k : Nat) (I : wI) (Q : Int32 → Prop) : Nat → Int32 → Int32 → Prop
  | 0 => fun _ _ => False
  | f + 1 => g_X0_notchSum_4 k I Q (v_X0_notchSum_4 k I Q f)
def v_X0_notchSum (k : Nat) (I : wI) (Q : Int32 → Prop) : Prop :=
  ∃ f : Nat, v_X0_notchSum_4 k I Q  f (0 : Int32) (0 : Int32)
def v_X5_learn  (I : wI) (Q : Int32 → wI → Prop) : Prop :=
  (pre_X5_save  I) ∧ (∀ I1 : wI, (post_X5_save  I I1) → ((pre_X0_copyFrom 8 2 I1) ∧ (∀ I2 : wI, (post_X0_copyFrom 8 2 I1 I2) → (∀ I3 : wI, I3 = wU I2 1 3 (1 : Int32) → ((pre_X0_notchSum 2 I3) ∧ (∀ r4 : Int32, (post_X0_notchSum 2 I3 r4) → (Q r4 I3)))))))
def v_X5_goBack  (I : wI) (Q : Int32 → wI → Prop) : Prop :=
  ((¬ (I 0 2) = 0) → ((pre_X5_save  I) ∧ (∀ I1 : wI, (post_X5_save  I I1) → ((pre_X3_copyFrom 1 12 I1) ∧ (∀ I2 : wI, (post_X3_copyFrom 1 12 I1 I2) → (Q (I2 1 6) I2)))))) ∧ (((I 0 2) = 0) → (False))
def v_X5_goBackx  (I : wI) (X : String → wI → Prop) : Prop :=
  ((¬ (I 0 2) = 0) → ((pre_X5_save  I) ∧ (∀ I1 : wI, (post_X5_save  I I1) → ((pre_X3_copyFrom 1 12 I1) ∧ (∀ I2 : wI, (post_X3_copyFrom 1 12 I1 I2) → (False)))))) ∧ (((I 0 2) = 0) → (X "java/lang/IllegalStateException" I))
def v_X5_undo_58  (Q : Int32 → wI → Prop)  (I : wI) : Prop :=
  Q (I 0 4) I
def v_X5_undo_16  (Q : Int32 → wI → Prop)  (I : wI) : Prop :=
  False
def v_X5_undo  (I : wI) (Q : Int32 → wI → Prop) : Prop :=
  (((I 0 4) ≤ 0) → (v_X5_undo_16  Q   I)) ∧ ((¬ ((I 0 4) ≤ 0)) → ((((I 0 4) ≤ (6 : Int32)) → (∀ I1 : wI, I1 = wU I 0 4 ((I 0 4) - (1 : Int32)) → (vp_in (I1 0 4) 6 ∧ (((I1 23 ((I1 0 4)).toNatClampNeg)).toNatClampNeg < 6 ∧ ((pre_X3_copyFrom 1 (wSv (I1 23 ((I1 0 4)).toNatClampNeg)) I1) ∧ (∀ I2 : wI, (post_X3_copyFrom 1 (wSv (I1 23 ((I1 0 4)).toNatClampNeg)) I1 I2) → (v_X5_undo_58  Q   I2))))))) ∧ ((¬ ((I 0 4) ≤ (6 : Int32))) → (v_X5_undo_16  Q   I))))
def v_X5_undox_58  (X : String → wI → Prop)  (I : wI) : Prop :=
  False
def v_X5_undox_16  (X : String → wI → Prop)  (I : wI) : Prop :=
  X "java/lang/IllegalStateException" I
def v_X5_undox  (I : wI) (X : String → wI → Prop) : Prop :=
  (((I 0 4) ≤ 0) → (v_X5_undox_16  X   I)) ∧ ((¬ ((I 0 4) ≤ 0)) → ((((I 0 4) ≤ (6 : Int32)) → (∀ I1 : wI, I1 = wU I 0 4 ((I 0 4) - (1 : Int32)) → (vp_in (I1 0 4) 6 ∧ (((I1 23 ((I1 0 4)).toNatClampNeg)).toNatClampNeg < 6 ∧ ((pre_X3_copyFrom 1 (wSv (I1 23 ((I1 0 4)).toNatClampNeg)) I1) ∧ (∀ I2 : wI, (post_X3_copyFrom 1 (wSv (I1 23 ((I1 0 4)).toNatClampNeg)) I1 I2) → (v_X5_undox_58  X   I2))))))) ∧ ((¬ ((I 0 4) ≤ (6 : Int32))) → (v_X5_undox_16  X   I))))
def v_X0_discAt_20 (k : Nat) (x1 : Int32) (I : wI) (Q : Int32 → Prop) (t0 : Int32) : Prop :=
  Q t0
def v_X0_discAt_19 (k : Nat) (x1 : Int32) (I : wI) (Q : Int32 → Prop)  : Prop :=
  v_X0_discAt_20 k x1 I Q  (-1 : Int32)
def v_X0_discAt (k : Nat) (x1 : Int32) (I : wI) (Q : Int32 → Prop) : Prop :=
  ((x1 < 0) → (v_X0_discAt_19 k x1 I Q  )) ∧ ((¬ (x1 < 0)) → ((((6 : Int32) ≤ x1) → (v_X0_discAt_19 k x1 I Q  )) ∧ ((¬ ((6 : Int32) ≤ x1)) → (vp_in x1 6 ∧ (v_X0_discAt_20 k x1 I Q  (I (k + 1) (x1).toNatClampNeg))))))
def v_X0_notchAt_20 (k : Nat) (x1 : Int32) (I : wI) (Q : Int32 → Prop) (t0 : Int32) : Prop :=
  Q t0
def v_X0_notchAt_19 (k : Nat) (x1 : Int32) (I : wI) (Q : Int32 → Prop)  : Prop :=
  v_X0_notchAt_20 k x1 I Q  (0 : Int32)
def v_X0_notchAt (k : Nat) (x1 : Int32) (I : wI) (Q : Int32 → Prop) : Prop :=
  ((x1 < 0) → (v_X0_notchAt_19 k x1 I Q  )) ∧ ((¬ (x1 < 0)) → ((((6 : Int32) ≤ x1) → (v_X0_notchAt_19 k x1 I Q  )) ∧ ((¬ ((6 : Int32) ≤ x1)) → (vp_in x1 6 ∧ (v_X0_notchAt_20 k x1 I Q  (I (k + 2) (x1).toNatClampNeg))))))
def v_X0_agreesAt_31 (k : Nat) (k1 : Nat) (x2 : Int32) (I : wI) (Q : Int32 → Prop) (t0 : Int32) : Prop :=
  (t0 = 0 ∨ t0 = 1) ∧ Q t0
def v_X0_agreesAt_30 (k : Nat) (k1 : Nat) (x2 : Int32) (I : wI) (Q : Int32 → Prop)  : Prop :=
  v_X0_agreesAt_31 k k1 x2 I Q  (0 : Int32)
def v_X0_agreesAt (k : Nat) (k1 : Nat) (x2 : Int32) (I : wI) (Q : Int32 → Prop) : Prop :=
  (pre_X0_discAt k x2 I) ∧ (∀ r1 : Int32, (post_X0_discAt k x2 I r1) → ((pre_X0_discAt k1 x2 I) ∧ (∀ r2 : Int32, (post_X0_discAt k1 x2 I r2) → (((¬ r1 = r2) → (v_X0_agreesAt_30 k k1 x2 I Q  )) ∧ ((r1 = r2) → ((pre_X0_notchAt k x2 I) ∧ (∀ r3 : Int32, (post_X0_notchAt k x2 I r3) → ((pre_X0_notchAt k1 x2 I) ∧ (∀ r4 : Int32, (post_X0_notchAt k1 x2 I r4) → (((¬ r3 = r4) → (v_X0_agreesAt_30 k k1 x2 I Q  )) ∧ ((r3 = r4) → (v_X0_agreesAt_31 k k1 x2 I Q  (1 : Int32)))))))))))))
def v_X1_keysAt_29 (k : Nat) (x1 : Int32) (I : wI) (Q : Int32 → Prop) (K4 : Int32 → Int32 → Prop) (v2 : Int32) (v3 : Int32) : Prop :=
  K4 v2 (v3 + (1 : Int32))
def g_X1_keysAt_4 (k : Nat) (x1 : Int32) (I : wI) (Q : Int32 → Prop) (K4 : Int32 → Int32 → Prop) (v2 : Int32) (v3 : Int32) : Prop :=
  (((5 : Int32) ≤ v3) → (Q v2)) ∧ ((¬ ((5 : Int32) ≤ v3)) → (vp_in v3 5 ∧ (((¬ (((I (k + 1) (v3).toNatClampNeg) >>> (x1 &&& 31)) &&& (1 : Int32)) = (1 : Int32)) → (v_X1_keysAt_29 k x1 I Q K4 v2 v3)) ∧ (((((I (k + 1) (v3).toNatClampNeg) >>> (x1 &&& 31)) &&& (1 : Int32)) = (1 : Int32)) → (v_X1_keysAt_29 k x1 I Q K4 (v2 ||| ((1 : Int32) <<< (v3 &&& 31))) v3)))))
def v_X1_keysAt_4 (k : Nat) (x1 : Int32) (I : wI) (Q : Int32 → Prop) : Nat → Int32 → Int32 → Prop
  | 0 => fun _ _ => False
  | f + 1 => g_X1_keysAt_4 k x1 I Q (v_X1_keysAt_4 k x1 I Q f)
def v_X1_keysAt (k : Nat) (x1 : Int32) (I : wI) (Q : Int32 → Prop) : Prop :=
  ∃ f : Nat, v_X1_keysAt_4 k x1 I Q  f (0 : Int32) (0 : Int32)
def v_X5_at_112 (x1 : Int32) (x2 : Int32) (I : wI) (Q : Int32 → Prop) (t0 : Int32) : Prop :=
  Q t0
def v_X5_at_111 (x1 : Int32) (x2 : Int32) (I : wI) (Q : Int32 → Prop)  : Prop :=
  v_X5_at_112 x1 x2 I Q  (0 : Int32)
def v_X5_at (x1 : Int32) (x2 : Int32) (I : wI) (Q : Int32 → Prop) : Prop :=
  (pre_X5_requirePosition x1 I) ∧ ((post_X5_requirePosition x1 I) → ((x2 = (0 : Int32) → ((pre_X0_discAt 2 x1 I) ∧ (∀ r1 : Int32, (post_X0_discAt 2 x1 I r1) → (Q r1)))) ∧ (x2 = (1 : Int32) → ((pre_X0_notchAt 2 x1 I) ∧ (∀ r2 : Int32, (post_X0_notchAt 2 x1 I r2) → (Q r2)))) ∧ (x2 = (2 : Int32) → (Q (((I 1 4) >>> (x1 &&& 31)) &&& (1 : Int32)))) ∧ (x2 = (3 : Int32) → ((((I 1 3) = 0) → (v_X5_at_111 x1 x2 I Q  )) ∧ ((¬ ((I 1 3) = 0)) → ((pre_X0_agreesAt 2 8 x1 I) ∧ (∀ r3 : Int32, (post_X0_agreesAt 2 8 x1 I r3) → (((r3 = 0) → (v_X5_at_111 x1 x2 I Q  )) ∧ ((¬ (r3 = 0)) → (v_X5_at_112 x1 x2 I Q  (1 : Int32))))))))) ∧ (x2 = (4 : Int32) → ((pre_X1_keysAt 5 x1 I) ∧ (∀ r4 : Int32, (post_X1_keysAt 5 x1 I r4) → (Q r4)))) ∧ ((¬ x2 = (0 : Int32) ∧ ¬ x2 = (1 : Int32) ∧ ¬ x2 = (2 : Int32) ∧ ¬ x2 = (3 : Int32) ∧ ¬ x2 = (4 : Int32)) → (False))))
def v_X5_atx_112 (x1 : Int32) (x2 : Int32) (I : wI) (X : String → Prop) (t0 : Int32) : Prop :=
  False
def v_X5_atx_111 (x1 : Int32) (x2 : Int32) (I : wI) (X : String → Prop)  : Prop :=
  v_X5_atx_112 x1 x2 I X  (0 : Int32)
def v_X5_atx (x1 : Int32) (x2 : Int32) (I : wI) (X : String → Prop) : Prop :=
  ((ok_X5_requirePosition x1 I) → ((pre_X5_requirePosition x1 I) ∧ ((post_X5_requirePosition x1 I) → ((x2 = (0 : Int32) → ((pre_X0_discAt 2 x1 I) ∧ (∀ r1 : Int32, (post_X0_discAt 2 x1 I r1) → (False)))) ∧ (x2 = (1 : Int32) → ((pre_X0_notchAt 2 x1 I) ∧ (∀ r2 : Int32, (post_X0_notchAt 2 x1 I r2) → (False)))) ∧ (x2 = (2 : Int32) → (False)) ∧ (x2 = (3 : Int32) → ((((I 1 3) = 0) → (v_X5_atx_111 x1 x2 I X  )) ∧ ((¬ ((I 1 3) = 0)) → ((pre_X0_agreesAt 2 8 x1 I) ∧ (∀ r3 : Int32, (post_X0_agreesAt 2 8 x1 I r3) → (((r3 = 0) → (v_X5_atx_111 x1 x2 I X  )) ∧ ((¬ (r3 = 0)) → (v_X5_atx_112 x1 x2 I X  (1 : Int32))))))))) ∧ (x2 = (4 : Int32) → ((pre_X1_keysAt 5 x1 I) ∧ (∀ r4 : Int32, (post_X1_keysAt 5 x1 I r4) → (False)))) ∧ ((¬ x2 = (0 : Int32) ∧ ¬ x2 = (1 : Int32) ∧ ¬ x2 = (2 : Int32) ∧ ¬ x2 = (3 : Int32) ∧ ¬ x2 = (4 : Int32)) → (X "java/lang/IllegalArgumentException")))))) ∧ ((¬ (ok_X5_requirePosition x1 I)) → ((pre_X5_requirePositionx x1 I) ∧ (∀ E : String, (exc_X5_requirePosition x1 I E) → X E)))
def v_X5_showKey (x1 : Int32) (I : wI) (Q : wI → Prop) : Prop :=
  (pre_X0_bringHome 30 I) ∧ (∀ I1 : wI, (post_X0_bringHome 30 I I1) → ((pre_X5_moveOf x1 (0 : Int32) I1) ∧ (∀ r2 : Int32, (post_X5_moveOf x1 (0 : Int32) I1 r2) → ((pre_X1_move 5 30 r2 I1) ∧ (∀ I3 : wI, (post_X1_move 5 30 r2 I1 I3) → (Q I3))))))
def g_X0_putAhead_2 (k : Nat) (k1 : Nat) (Q : wI → Prop) (K2 : Int32 → wI → Prop) (v2 : Int32) (I : wI) : Prop :=
  (((6 : Int32) ≤ v2) → (Q I)) ∧ ((¬ ((6 : Int32) ≤ v2)) → (vp_in v2 6 ∧ ((pre_X0_discAt k1 (I (k + 1) (v2).toNatClampNeg) I) ∧ (∀ r1 : Int32, (post_X0_discAt k1 (I (k + 1) (v2).toNatClampNeg) I r1) → (vp_in v2 6 ∧ ∀ I2 : wI, I2 = wU I (k + 1) (v2).toNatClampNeg r1 → (vp_in v2 6 ∧ ((pre_X0_notchAt k1 (I (k + 1) (v2).toNatClampNeg) I2) ∧ (∀ r3 : Int32, (post_X0_notchAt k1 (I (k + 1) (v2).toNatClampNeg) I2 r3) → (vp_in v2 6 ∧ ∀ I4 : wI, I4 = wU I2 (k + 2) (v2).toNatClampNeg (((I2 (k + 2) (v2).toNatClampNeg) + r3) - ((I2 (k + 2) (v2).toNatClampNeg) + r3) / (5 : Int32) * (5 : Int32)) → (K2 (v2 + (1 : Int32)) I4))))))))))
def v_X0_putAhead_2 (k : Nat) (k1 : Nat) (Q : wI → Prop) : Nat → Int32 → wI → Prop
  | 0 => fun _ _ => False
  | f + 1 => g_X0_putAhead_2 k k1 Q (v_X0_putAhead_2 k k1 Q f)
def v_X0_putAhead (k : Nat) (k1 : Nat) (I : wI) (Q : wI → Prop) : Prop :=
  ∃ f : Nat, v_X0_putAhead_2 k k1 Q  f (0 : Int32) I
def v_X5_periodByDoing_47  (Q : Int32 → wI → Prop) (v1 : Int32) (I : wI) : Prop :=
  Q v1 I
def g_X5_periodByDoing_13  (Q : Int32 → wI → Prop) (K13 : Int32 → wI → Prop) (v1 : Int32) (I : wI) : Prop :=
  (((1000000 : Int32) ≤ v1) → (v_X5_periodByDoing_47  Q  v1 I)) ∧ ((¬ ((1000000 : Int32) ≤ v1)) → ((pre_X0_reach 33 I) ∧ (∀ r1 : Int32, (post_X0_reach 33 I r1) → (((r1 = 0) → (v_X5_periodByDoing_47  Q  v1 I)) ∧ ((¬ (r1 = 0)) → ((pre_X0_putAhead 33 30 I) ∧ (∀ I2 : wI, (post_X0_putAhead 33 30 I I2) → (K13 (v1 + (1 : Int32)) I2))))))))
def v_X5_periodByDoing_13  (Q : Int32 → wI → Prop) : Nat → Int32 → wI → Prop
  | 0 => fun _ _ => False
  | f + 1 => g_X5_periodByDoing_13 Q (v_X5_periodByDoing_13 Q f)
def v_X5_periodByDoing  (I : wI) (Q : Int32 → wI → Prop) : Prop :=
  (pre_X0_copyFrom 33 30 I) ∧ (∀ I1 : wI, (post_X0_copyFrom 33 30 I I1) → (∃ f : Nat, v_X5_periodByDoing_13  Q  f (1 : Int32) I1))
def v_X0_placeOf_22 (k : Nat) (x1 : Int32) (I : wI) (Q : Int32 → Prop) (K4 : Int32 → Int32 → Prop) (v2 : Int32) (v3 : Int32) : Prop :=
  K4 v2 (v3 + (1 : Int32))
def g_X0_placeOf_4 (k : Nat) (x1 : Int32) (I : wI) (Q : Int32 → Prop) (K4 : Int32 → Int32 → Prop) (v2 : Int32) (v3 : Int32) : Prop :=
  (((6 : Int32) ≤ v3) → (Q v2)) ∧ ((¬ ((6 : Int32) ≤ v3)) → (vp_in v3 6 ∧ (((¬ (I (k + 1) (v3).toNatClampNeg) = x1) → (v_X0_placeOf_22 k x1 I Q K4 v2 v3)) ∧ (((I (k + 1) (v3).toNatClampNeg) = x1) → (v_X0_placeOf_22 k x1 I Q K4 v3 v3)))))
def v_X0_placeOf_4 (k : Nat) (x1 : Int32) (I : wI) (Q : Int32 → Prop) : Nat → Int32 → Int32 → Prop
  | 0 => fun _ _ => False
  | f + 1 => g_X0_placeOf_4 k x1 I Q (v_X0_placeOf_4 k x1 I Q f)
def v_X0_placeOf (k : Nat) (x1 : Int32) (I : wI) (Q : Int32 → Prop) : Prop :=
  ∃ f : Nat, v_X0_placeOf_4 k x1 I Q  f x1 (0 : Int32)
def v_X0_leastMultiple_25 (x0 : Int32) (x1 : Int32) (I : wI) (Q : Int32 → Prop) (v2 : Int32) : Prop :=
  Q v2
def g_X0_leastMultiple_4 (x0 : Int32) (x1 : Int32) (I : wI) (Q : Int32 → Prop) (K4 : Int32 → Int32 → Prop) (v2 : Int32) (v3 : Int32) : Prop :=
  ((x1 ≤ v3) → (v_X0_leastMultiple_25 x0 x1 I Q  v2)) ∧ ((¬ (x1 ≤ v3)) → ((¬ x1 = 0) ∧ ((((v2 - v2 / x1 * x1) = 0) → (v_X0_leastMultiple_25 x0 x1 I Q  v2)) ∧ ((¬ ((v2 - v2 / x1 * x1) = 0)) → (K4 (v2 + x0) (v3 + (1 : Int32)))))))
def v_X0_leastMultiple_4 (x0 : Int32) (x1 : Int32) (I : wI) (Q : Int32 → Prop) : Nat → Int32 → Int32 → Prop
  | 0 => fun _ _ => False
  | f + 1 => g_X0_leastMultiple_4 x0 x1 I Q (v_X0_leastMultiple_4 x0 x1 I Q f)
def v_X0_leastMultiple (x0 : Int32) (x1 : Int32) (I : wI) (Q : Int32 → Prop) : Prop :=
  ∃ f : Nat, v_X0_leastMultiple_4 x0 x1 I Q  f x0 (1 : Int32)
def v_X0_periodByRounds_95 (k : Nat) (I : wI) (Q : Int32 → Prop) (K6 : Int32 → Int32 → Int32 → Prop) (v1 : Int32) (v2 : Int32) (v3 : Int32) : Prop :=
  K6 v1 v2 (v3 + (1 : Int32))
def v_X0_periodByRounds_91 (k : Nat) (I : wI) (Q : Int32 → Prop) (K6 : Int32 → Int32 → Int32 → Prop) (v2 : Int32) (v3 : Int32) (t0 : Int32) (t1 : Int32) : Prop :=
  (pre_X0_leastMultiple t1 t0 I) ∧ (∀ r1 : Int32, (post_X0_leastMultiple t1 t0 I r1) → (v_X0_periodByRounds_95 k I Q K6 r1 v2 v3))
def v_X0_periodByRounds_69 (k : Nat) (I : wI) (Q : Int32 → Prop) (K6 : Int32 → Int32 → Int32 → Prop) (v1 : Int32) (v2 : Int32) (v3 : Int32) (v4 : Int32) (v5 : Int32) : Prop :=
  ((v4 ≤ 0) → (v_X0_periodByRounds_95 k I Q K6 v1 v2 v3)) ∧ ((¬ (v4 ≤ 0)) → (((¬ (v5 - v5 / (5 : Int32) * (5 : Int32)) = 0) → (v_X0_periodByRounds_91 k I Q K6 v2 v3 ((5 : Int32) * v4) v1)) ∧ (((v5 - v5 / (5 : Int32) * (5 : Int32)) = 0) → (v_X0_periodByRounds_91 k I Q K6 v2 v3 v4 v1))))
def g_X0_periodByRounds_21 (k : Nat) (I : wI) (Q : Int32 → Prop) (K6 : Int32 → Int32 → Int32 → Prop) (K21 : Int32 → Int32 → Int32 → Int32 → Int32 → Int32 → Prop) (v1 : Int32) (v2 : Int32) (v3 : Int32) (v4 : Int32) (v5 : Int32) (v6 : Int32) : Prop :=
  (((6 : Int32) ≤ v4) → (v_X0_periodByRounds_69 k I Q K6 v1 v2 v3 v4 v5)) ∧ ((¬ ((6 : Int32) ≤ v4)) → (((¬ ((v2 >>> (v6 &&& 31)) &&& (1 : Int32)) = 0) → (v_X0_periodByRounds_69 k I Q K6 v1 v2 v3 v4 v5)) ∧ ((((v2 >>> (v6 &&& 31)) &&& (1 : Int32)) = 0) → ((pre_X0_placeOf k v6 I) ∧ (∀ r1 : Int32, (post_X0_placeOf k v6 I r1) → ((pre_X0_notchAt k r1 I) ∧ (∀ r2 : Int32, (post_X0_notchAt k r1 I r2) → (K21 v1 (v2 ||| ((1 : Int32) <<< (v6 &&& 31))) v3 (v4 + (1 : Int32)) (v5 + r2) r1))))))))
def v_X0_periodByRounds_21 (k : Nat) (I : wI) (Q : Int32 → Prop) (K6 : Int32 → Int32 → Int32 → Prop) : Nat → Int32 → Int32 → Int32 → Int32 → Int32 → Int32 → Prop
  | 0 => fun _ _ _ _ _ _ => False
  | f + 1 => g_X0_periodByRounds_21 k I Q K6 (v_X0_periodByRounds_21 k I Q K6 f)
def g_X0_periodByRounds_6 (k : Nat) (I : wI) (Q : Int32 → Prop) (K6 : Int32 → Int32 → Int32 → Prop) (v1 : Int32) (v2 : Int32) (v3 : Int32) : Prop :=
  (((6 : Int32) ≤ v3) → (Q v1)) ∧ ((¬ ((6 : Int32) ≤ v3)) → (∃ f : Nat, v_X0_periodByRounds_21 k I Q K6 f v1 v2 v3 (0 : Int32) (0 : Int32) v3))
def v_X0_periodByRounds_6 (k : Nat) (I : wI) (Q : Int32 → Prop) : Nat → Int32 → Int32 → Int32 → Prop
  | 0 => fun _ _ _ => False
  | f + 1 => g_X0_periodByRounds_6 k I Q (v_X0_periodByRounds_6 k I Q f)
def v_X0_periodByRounds (k : Nat) (I : wI) (Q : Int32 → Prop) : Prop :=
  ∃ f : Nat, v_X0_periodByRounds_6 k I Q  f (1 : Int32) (0 : Int32) (0 : Int32)
def v_X3_usesOf_19 (k : Nat) (x1 : Int32) (I : wI) (Q : Int32 → Prop) (t0 : Int32) : Prop :=
  Q t0
def v_X3_usesOf_18 (k : Nat) (x1 : Int32) (I : wI) (Q : Int32 → Prop)  : Prop :=
  v_X3_usesOf_19 k x1 I Q  (0 : Int32)
def v_X3_usesOf (k : Nat) (x1 : Int32) (I : wI) (Q : Int32 → Prop) : Prop :=
  ((x1 < 0) → (v_X3_usesOf_18 k x1 I Q  )) ∧ ((¬ (x1 < 0)) → ((((5 : Int32) ≤ x1) → (v_X3_usesOf_18 k x1 I Q  )) ∧ ((¬ ((5 : Int32) ≤ x1)) → (vp_in x1 5 ∧ (v_X3_usesOf_19 k x1 I Q  (I (k + 10) (x1).toNatClampNeg))))))
def v_X5_key_107 (x1 : Int32) (x2 : Int32) (Q : Int32 → wI → Prop) (t0 : Int32) (I : wI) : Prop :=
  Q t0 I
def v_X5_key (x1 : Int32) (x2 : Int32) (I : wI) (Q : Int32 → wI → Prop) : Prop :=
  (pre_X5_requireKey x1 I) ∧ ((post_X5_requireKey x1 I) → ((x2 = (0 : Int32) → ((pre_X1_maskOf 5 x1 I) ∧ (∀ r1 : Int32, (post_X1_maskOf 5 x1 I r1) → (Q r1 I)))) ∧ (x2 = (1 : Int32) → ((pre_X1_strengthOf 5 x1 I) ∧ (∀ r2 : Int32, (post_X1_strengthOf 5 x1 I r2) → (Q r2 I)))) ∧ (x2 = (2 : Int32) → ((pre_X5_showKey x1 I) ∧ (∀ I3 : wI, (post_X5_showKey x1 I I3) → ((pre_X5_periodByDoing  I3) ∧ (∀ r4 : Int32, ∀ I5 : wI, (post_X5_periodByDoing  I3 r4 I5) → (Q r4 I5)))))) ∧ (x2 = (3 : Int32) → ((pre_X5_showKey x1 I) ∧ (∀ I6 : wI, (post_X5_showKey x1 I I6) → ((pre_X0_periodByRounds 30 I6) ∧ (∀ r7 : Int32, (post_X0_periodByRounds 30 I6 r7) → (Q r7 I6)))))) ∧ (x2 = (4 : Int32) → ((pre_X3_allows 1 x1 I) ∧ (∀ r8 : Int32, (post_X3_allows 1 x1 I r8) → (((r8 = 0) → (v_X5_key_107 x1 x2 Q  (1 : Int32) I)) ∧ ((¬ (r8 = 0)) → (v_X5_key_107 x1 x2 Q  (0 : Int32) I)))))) ∧ (x2 = (5 : Int32) → ((pre_X3_usesOf 1 x1 I) ∧ (∀ r9 : Int32, (post_X3_usesOf 1 x1 I r9) → (Q r9 I)))) ∧ ((¬ x2 = (0 : Int32) ∧ ¬ x2 = (1 : Int32) ∧ ¬ x2 = (2 : Int32) ∧ ¬ x2 = (3 : Int32) ∧ ¬ x2 = (4 : Int32) ∧ ¬ x2 = (5 : Int32)) → (False))))
def v_X5_keyx_107 (x1 : Int32) (x2 : Int32) (X : String → wI → Prop) (t0 : Int32) (I : wI) : Prop :=
  False
def v_X5_keyx (x1 : Int32) (x2 : Int32) (I : wI) (X : String → wI → Prop) : Prop :=
  ((ok_X5_requireKey x1 I) → ((pre_X5_requireKey x1 I) ∧ ((post_X5_requireKey x1 I) → ((x2 = (0 : Int32) → ((pre_X1_maskOf 5 x1 I) ∧ (∀ r1 : Int32, (post_X1_maskOf 5 x1 I r1) → (False)))) ∧ (x2 = (1 : Int32) → ((pre_X1_strengthOf 5 x1 I) ∧ (∀ r2 : Int32, (post_X1_strengthOf 5 x1 I r2) → (False)))) ∧ (x2 = (2 : Int32) → ((pre_X5_showKey x1 I) ∧ (∀ I3 : wI, (post_X5_showKey x1 I I3) → ((pre_X5_periodByDoing  I3) ∧ (∀ r4 : Int32, ∀ I5 : wI, (post_X5_periodByDoing  I3 r4 I5) → (False)))))) ∧ (x2 = (3 : Int32) → ((pre_X5_showKey x1 I) ∧ (∀ I6 : wI, (post_X5_showKey x1 I I6) → ((pre_X0_periodByRounds 30 I6) ∧ (∀ r7 : Int32, (post_X0_periodByRounds 30 I6 r7) → (False)))))) ∧ (x2 = (4 : Int32) → ((pre_X3_allows 1 x1 I) ∧ (∀ r8 : Int32, (post_X3_allows 1 x1 I r8) → (((r8 = 0) → (v_X5_keyx_107 x1 x2 X  (1 : Int32) I)) ∧ ((¬ (r8 = 0)) → (v_X5_keyx_107 x1 x2 X  (0 : Int32) I)))))) ∧ (x2 = (5 : Int32) → ((pre_X3_usesOf 1 x1 I) ∧ (∀ r9 : Int32, (post_X3_usesOf 1 x1 I r9) → (False)))) ∧ ((¬ x2 = (0 : Int32) ∧ ¬ x2 = (1 : Int32) ∧ ¬ x2 = (2 : Int32) ∧ ¬ x2 = (3 : Int32) ∧ ¬ x2 = (4 : Int32) ∧ ¬ x2 = (5 : Int32)) → (X "java/lang/IllegalArgumentException" I)))))) ∧ ((¬ (ok_X5_requireKey x1 I)) → ((pre_X5_requireKeyx x1 I) ∧ (∀ E : String, (exc_X5_requireKey x1 I E) → X E I)))
def v_X5_showPair (x1 : Int32) (x2 : Int32) (I : wI) (Q : wI → Prop) : Prop :=
  (pre_X0_bringHome 30 I) ∧ (∀ I1 : wI, (post_X0_bringHome 30 I I1) → ((pre_X5_moveOf x1 (0 : Int32) I1) ∧ (∀ r2 : Int32, (post_X5_moveOf x1 (0 : Int32) I1 r2) → ((pre_X1_move 5 30 r2 I1) ∧ (∀ I3 : wI, (post_X1_move 5 30 r2 I1 I3) → ((pre_X5_moveOf x2 (0 : Int32) I3) ∧ (∀ r4 : Int32, (post_X5_moveOf x2 (0 : Int32) I3 r4) → ((pre_X1_move 5 30 r4 I3) ∧ (∀ I5 : wI, (post_X1_move 5 30 r4 I3 I5) → ((pre_X5_moveOf x1 (1 : Int32) I5) ∧ (∀ r6 : Int32, (post_X5_moveOf x1 (1 : Int32) I5 r6) → ((pre_X1_move 5 30 r6 I5) ∧ (∀ I7 : wI, (post_X1_move 5 30 r6 I5 I7) → ((pre_X5_moveOf x2 (1 : Int32) I7) ∧ (∀ r8 : Int32, (post_X5_moveOf x2 (1 : Int32) I7 r8) → ((pre_X1_move 5 30 r8 I7) ∧ (∀ I9 : wI, (post_X1_move 5 30 r8 I7 I9) → (Q I9))))))))))))))))))
def v_X5_pair_111 (x1 : Int32) (x2 : Int32) (x3 : Int32) (Q : Int32 → wI → Prop) (t0 : Int32) (I : wI) : Prop :=
  Q t0 I
def v_X5_pair_17 (x1 : Int32) (x2 : Int32) (x3 : Int32) (Q : Int32 → wI → Prop)  (I : wI) : Prop :=
  False
def v_X5_pair (x1 : Int32) (x2 : Int32) (x3 : Int32) (I : wI) (Q : Int32 → wI → Prop) : Prop :=
  (pre_X5_requireKey x1 I) ∧ ((post_X5_requireKey x1 I) → ((pre_X5_requireKey x2 I) ∧ ((post_X5_requireKey x2 I) → (((x3 < 0) → (v_X5_pair_17 x1 x2 x3 Q   I)) ∧ ((¬ (x3 < 0)) → (((x3 ≤ (4 : Int32)) → ((pre_X5_showPair x1 x2 I) ∧ (∀ I1 : wI, (post_X5_showPair x1 x2 I I1) → ((x3 = (0 : Int32) → ((pre_X0_reach 30 I1) ∧ (∀ r2 : Int32, (post_X0_reach 30 I1 r2) → (Q r2 I1)))) ∧ (x3 = (1 : Int32) → ((pre_X0_reach 30 I1) ∧ (∀ r3 : Int32, (post_X0_reach 30 I1 r3) → ((pre_J_bitCount r3 I1) ∧ (∀ r4 : Int32, (post_J_bitCount r3 I1 r4) → (Q r4 I1)))))) ∧ (x3 = (2 : Int32) → ((pre_X5_periodByDoing  I1) ∧ (∀ r5 : Int32, ∀ I6 : wI, (post_X5_periodByDoing  I1 r5 I6) → (Q r5 I6)))) ∧ (x3 = (3 : Int32) → ((pre_X0_periodByRounds 30 I1) ∧ (∀ r7 : Int32, (post_X0_periodByRounds 30 I1 r7) → (Q r7 I1)))) ∧ ((¬ x3 = (0 : Int32) ∧ ¬ x3 = (1 : Int32) ∧ ¬ x3 = (2 : Int32) ∧ ¬ x3 = (3 : Int32)) → ((pre_X0_reach 30 I1) ∧ (∀ r8 : Int32, (post_X0_reach 30 I1 r8) → (((¬ r8 = 0) → (v_X5_pair_111 x1 x2 x3 Q  (0 : Int32) I1)) ∧ ((r8 = 0) → (v_X5_pair_111 x1 x2 x3 Q  (1 : Int32) I1)))))))))) ∧ ((¬ (x3 ≤ (4 : Int32))) → (v_X5_pair_17 x1 x2 x3 Q   I))))))))
def v_X5_pairx_111 (x1 : Int32) (x2 : Int32) (x3 : Int32) (X : String → wI → Prop) (t0 : Int32) (I : wI) : Prop :=
  False
def v_X5_pairx_17 (x1 : Int32) (x2 : Int32) (x3 : Int32) (X : String → wI → Prop)  (I : wI) : Prop :=
  X "java/lang/IllegalArgumentException" I
def v_X5_pairx (x1 : Int32) (x2 : Int32) (x3 : Int32) (I : wI) (X : String → wI → Prop) : Prop :=
  ((ok_X5_requireKey x1 I) → ((pre_X5_requireKey x1 I) ∧ ((post_X5_requireKey x1 I) → (((ok_X5_requireKey x2 I) → ((pre_X5_requireKey x2 I) ∧ ((post_X5_requireKey x2 I) → (((x3 < 0) → (v_X5_pairx_17 x1 x2 x3 X   I)) ∧ ((¬ (x3 < 0)) → (((x3 ≤ (4 : Int32)) → ((pre_X5_showPair x1 x2 I) ∧ (∀ I1 : wI, (post_X5_showPair x1 x2 I I1) → ((x3 = (0 : Int32) → ((pre_X0_reach 30 I1) ∧ (∀ r2 : Int32, (post_X0_reach 30 I1 r2) → (False)))) ∧ (x3 = (1 : Int32) → ((pre_X0_reach 30 I1) ∧ (∀ r3 : Int32, (post_X0_reach 30 I1 r3) → ((pre_J_bitCount r3 I1) ∧ (∀ r4 : Int32, (post_J_bitCount r3 I1 r4) → (False)))))) ∧ (x3 = (2 : Int32) → ((pre_X5_periodByDoing  I1) ∧ (∀ r5 : Int32, ∀ I6 : wI, (post_X5_periodByDoing  I1 r5 I6) → (False)))) ∧ (x3 = (3 : Int32) → ((pre_X0_periodByRounds 30 I1) ∧ (∀ r7 : Int32, (post_X0_periodByRounds 30 I1 r7) → (False)))) ∧ ((¬ x3 = (0 : Int32) ∧ ¬ x3 = (1 : Int32) ∧ ¬ x3 = (2 : Int32) ∧ ¬ x3 = (3 : Int32)) → ((pre_X0_reach 30 I1) ∧ (∀ r8 : Int32, (post_X0_reach 30 I1 r8) → (((¬ r8 = 0) → (v_X5_pairx_111 x1 x2 x3 X  (0 : Int32) I1)) ∧ ((r8 = 0) → (v_X5_pairx_111 x1 x2 x3 X  (1 : Int32) I1)))))))))) ∧ ((¬ (x3 ≤ (4 : Int32))) → (v_X5_pairx_17 x1 x2 x3 X   I)))))))) ∧ ((¬ (ok_X5_requireKey x2 I)) → ((pre_X5_requireKeyx x2 I) ∧ (∀ E : String, (exc_X5_requireKey x2 I E) → X E I))))))) ∧ ((¬ (ok_X5_requireKey x1 I)) → ((pre_X5_requireKeyx x1 I) ∧ (∀ E : String, (exc_X5_requireKey x1 I E) → X E I)))
def v_X5_count_117 (x1 : Int32) (I : wI) (Q : Int32 → Prop) (t0 : Int32) : Prop :=
  Q t0
def v_X5_count (x1 : Int32) (I : wI) (Q : Int32 → Prop) : Prop :=
  (x1 = (0 : Int32) → (Q (I 1 6))) ∧ (x1 = (1 : Int32) → ((pre_X0_notchSum 2 I) ∧ (∀ r1 : Int32, (post_X0_notchSum 2 I r1) → (Q (r1 - r1 / (5 : Int32) * (5 : Int32)))))) ∧ (x1 = (2 : Int32) → (Q (I 1 7))) ∧ (x1 = (3 : Int32) → ((pre_X0_reach 2 I) ∧ (∀ r2 : Int32, (post_X0_reach 2 I r2) → ((pre_J_bitCount r2 I) ∧ (∀ r3 : Int32, (post_J_bitCount r2 I r3) → (Q ((6 : Int32) - r3))))))) ∧ (x1 = (4 : Int32) → ((pre_X3_opens 1 I) ∧ (∀ r4 : Int32, (post_X3_opens 1 I r4) → (((r4 = 0) → (v_X5_count_117 x1 I Q  (0 : Int32))) ∧ ((¬ (r4 = 0)) → (v_X5_count_117 x1 I Q  (1 : Int32))))))) ∧ (x1 = (5 : Int32) → ((pre_X3_asInSecret 1 2 I) ∧ (∀ r5 : Int32, (post_X3_asInSecret 1 2 I r5) → (Q r5)))) ∧ (x1 = (6 : Int32) → ((pre_J_bitCount (I 1 4) I) ∧ (∀ r6 : Int32, (post_J_bitCount (I 1 4) I r6) → (Q r6)))) ∧ (x1 = (7 : Int32) → ((pre_X3_stuckKeys 1 I) ∧ (∀ r7 : Int32, (post_X3_stuckKeys 1 I r7) → (Q r7)))) ∧ (x1 = (8 : Int32) → (Q (I 1 8))) ∧ (x1 = (9 : Int32) → (Q (I 0 4))) ∧ ((¬ x1 = (0 : Int32) ∧ ¬ x1 = (1 : Int32) ∧ ¬ x1 = (2 : Int32) ∧ ¬ x1 = (3 : Int32) ∧ ¬ x1 = (4 : Int32) ∧ ¬ x1 = (5 : Int32) ∧ ¬ x1 = (6 : Int32) ∧ ¬ x1 = (7 : Int32) ∧ ¬ x1 = (8 : Int32) ∧ ¬ x1 = (9 : Int32)) → (False))
def v_X5_countx_117 (x1 : Int32) (I : wI) (X : String → Prop) (t0 : Int32) : Prop :=
  False
def v_X5_countx (x1 : Int32) (I : wI) (X : String → Prop) : Prop :=
  (x1 = (0 : Int32) → (False)) ∧ (x1 = (1 : Int32) → ((pre_X0_notchSum 2 I) ∧ (∀ r1 : Int32, (post_X0_notchSum 2 I r1) → (False)))) ∧ (x1 = (2 : Int32) → (False)) ∧ (x1 = (3 : Int32) → ((pre_X0_reach 2 I) ∧ (∀ r2 : Int32, (post_X0_reach 2 I r2) → ((pre_J_bitCount r2 I) ∧ (∀ r3 : Int32, (post_J_bitCount r2 I r3) → (False)))))) ∧ (x1 = (4 : Int32) → ((pre_X3_opens 1 I) ∧ (∀ r4 : Int32, (post_X3_opens 1 I r4) → (((r4 = 0) → (v_X5_countx_117 x1 I X  (0 : Int32))) ∧ ((¬ (r4 = 0)) → (v_X5_countx_117 x1 I X  (1 : Int32))))))) ∧ (x1 = (5 : Int32) → ((pre_X3_asInSecret 1 2 I) ∧ (∀ r5 : Int32, (post_X3_asInSecret 1 2 I r5) → (False)))) ∧ (x1 = (6 : Int32) → ((pre_J_bitCount (I 1 4) I) ∧ (∀ r6 : Int32, (post_J_bitCount (I 1 4) I r6) → (False)))) ∧ (x1 = (7 : Int32) → ((pre_X3_stuckKeys 1 I) ∧ (∀ r7 : Int32, (post_X3_stuckKeys 1 I r7) → (False)))) ∧ (x1 = (8 : Int32) → (False)) ∧ (x1 = (9 : Int32) → (False)) ∧ ((¬ x1 = (0 : Int32) ∧ ¬ x1 = (1 : Int32) ∧ ¬ x1 = (2 : Int32) ∧ ¬ x1 = (3 : Int32) ∧ ¬ x1 = (4 : Int32) ∧ ¬ x1 = (5 : Int32) ∧ ¬ x1 = (6 : Int32) ∧ ¬ x1 = (7 : Int32) ∧ ¬ x1 = (8 : Int32) ∧ ¬ x1 = (9 : Int32)) → (X "java/lang/IllegalArgumentException"))
def g_X0_fingerprint_4 (k : Nat) (I : wI) (Q : Int32 → Prop) (K4 : Int32 → Int32 → Prop) (v1 : Int32) (v2 : Int32) : Prop :=
  (((6 : Int32) ≤ v2) → (Q v1)) ∧ ((¬ ((6 : Int32) ≤ v2)) → (vp_in v2 6 ∧ (vp_in v2 6 ∧ (K4 (((v1 * (30 : Int32)) + ((I (k + 1) (v2).toNatClampNeg) * (5 : Int32))) + (I (k + 2) (v2).toNatClampNeg)) (v2 + (1 : Int32))))))
def v_X0_fingerprint_4 (k : Nat) (I : wI) (Q : Int32 → Prop) : Nat → Int32 → Int32 → Prop
  | 0 => fun _ _ => False
  | f + 1 => g_X0_fingerprint_4 k I Q (v_X0_fingerprint_4 k I Q f)
def v_X0_fingerprint (k : Nat) (I : wI) (Q : Int32 → Prop) : Prop :=
  ∃ f : Nat, v_X0_fingerprint_4 k I Q  f (0 : Int32) (0 : Int32)
def v_X2_list_49 (k : Nat) (k1 : Nat) (x2 : Int32) (Q : wI → Prop)  (I : wI) : Prop :=
  Q I
def v_X2_list (k : Nat) (k1 : Nat) (x2 : Int32) (I : wI) (Q : wI → Prop) : Prop :=
  (((I k 2) < 0) → (v_X2_list_49 k k1 x2 Q   I)) ∧ ((¬ ((I k 2) < 0)) → ((((111 : Int32) ≤ (I k 2)) → (v_X2_list_49 k k1 x2 Q   I)) ∧ ((¬ ((111 : Int32) ≤ (I k 2))) → ((pre_X0_fingerprint k1 I) ∧ (∀ r1 : Int32, (post_X0_fingerprint k1 I r1) → (vp_in (I k 2) 111 ∧ ∀ I2 : wI, I2 = wU I (k + 1) ((I k 2)).toNatClampNeg r1 → (vp_in (I2 k 2) 111 ∧ ∀ I3 : wI, I3 = wU I2 (k + 2) ((I2 k 2)).toNatClampNeg x2 → (∀ I4 : wI, I4 = wU I3 k 2 ((I3 k 2) + (1 : Int32)) → (v_X2_list_49 k k1 x2 Q   I4)))))))))
def v_X2_listBehindOne_48 (k : Nat) (k1 : Nat) (Q : wI → Prop) (K2 : Int32 → wI → Prop) (v2 : Int32) (I : wI) : Prop :=
  K2 (v2 + (1 : Int32)) I
def g_X2_listBehindOne_2 (k : Nat) (k1 : Nat) (Q : wI → Prop) (K2 : Int32 → wI → Prop) (v2 : Int32) (I : wI) : Prop :=
  (((10 : Int32) ≤ v2) → (Q I)) ∧ ((¬ ((10 : Int32) ≤ v2)) → ((pre_X3_allows k1 v2 I) ∧ (∀ r1 : Int32, (post_X3_allows k1 v2 I r1) → (((r1 = 0) → (v_X2_listBehindOne_48 k k1 Q K2 v2 I)) ∧ ((¬ (r1 = 0)) → ((pre_X0_copyFrom (k + 6) (k + 3) I) ∧ (∀ I2 : wI, (post_X0_copyFrom (k + 6) (k + 3) I I2) → ((pre_X1_move (k1 + 4) (k + 6) v2 I2) ∧ (∀ I3 : wI, (post_X1_move (k1 + 4) (k + 6) v2 I2 I3) → ((pre_X2_list k (k + 6) (2 : Int32) I3) ∧ (∀ I4 : wI, (post_X2_list k (k + 6) (2 : Int32) I3 I4) → (v_X2_listBehindOne_48 k k1 Q K2 v2 I4))))))))))))
def v_X2_listBehindOne_2 (k : Nat) (k1 : Nat) (Q : wI → Prop) : Nat → Int32 → wI → Prop
  | 0 => fun _ _ => False
  | f + 1 => g_X2_listBehindOne_2 k k1 Q (v_X2_listBehindOne_2 k k1 Q f)
def v_X2_listBehindOne (k : Nat) (k1 : Nat) (I : wI) (Q : wI → Prop) : Prop :=
  ∃ f : Nat, v_X2_listBehindOne_2 k k1 Q  f (0 : Int32) I
def v_X2_listNear_112 (k : Nat) (k1 : Nat) (Q : wI → Prop) (K70 : Int32 → wI → Prop) (v2 : Int32) (I : wI) : Prop :=
  K70 (v2 + (1 : Int32)) I
def g_X2_listNear_70 (k : Nat) (k1 : Nat) (Q : wI → Prop) (K70 : Int32 → wI → Prop) (v2 : Int32) (I : wI) : Prop :=
  (((10 : Int32) ≤ v2) → (Q I)) ∧ ((¬ ((10 : Int32) ≤ v2)) → ((pre_X3_allows k1 v2 I) ∧ (∀ r1 : Int32, (post_X3_allows k1 v2 I r1) → (((r1 = 0) → (v_X2_listNear_112 k k1 Q K70 v2 I)) ∧ ((¬ (r1 = 0)) → ((pre_X0_copyFrom (k + 3) (k1 + 7) I) ∧ (∀ I2 : wI, (post_X0_copyFrom (k + 3) (k1 + 7) I I2) → ((pre_X1_move (k1 + 4) (k + 3) v2 I2) ∧ (∀ I3 : wI, (post_X1_move (k1 + 4) (k + 3) v2 I2 I3) → ((pre_X2_listBehindOne k k1 I3) ∧ (∀ I4 : wI, (post_X2_listBehindOne k k1 I3 I4) → (v_X2_listNear_112 k k1 Q K70 v2 I4))))))))))))
def v_X2_listNear_70 (k : Nat) (k1 : Nat) (Q : wI → Prop) : Nat → Int32 → wI → Prop
  | 0 => fun _ _ => False
  | f + 1 => g_X2_listNear_70 k k1 Q (v_X2_listNear_70 k k1 Q f)
def v_X2_listNear_62 (k : Nat) (k1 : Nat) (Q : wI → Prop) (K16 : Int32 → wI → Prop) (v2 : Int32) (I : wI) : Prop :=
  K16 (v2 + (1 : Int32)) I
def g_X2_listNear_16 (k : Nat) (k1 : Nat) (Q : wI → Prop) (K16 : Int32 → wI → Prop) (v2 : Int32) (I : wI) : Prop :=
  (((10 : Int32) ≤ v2) → (∃ f : Nat, v_X2_listNear_70 k k1 Q  f (0 : Int32) I)) ∧ ((¬ ((10 : Int32) ≤ v2)) → ((pre_X3_allows k1 v2 I) ∧ (∀ r1 : Int32, (post_X3_allows k1 v2 I r1) → (((r1 = 0) → (v_X2_listNear_62 k k1 Q K16 v2 I)) ∧ ((¬ (r1 = 0)) → ((pre_X0_copyFrom (k + 3) (k1 + 7) I) ∧ (∀ I2 : wI, (post_X0_copyFrom (k + 3) (k1 + 7) I I2) → ((pre_X1_move (k1 + 4) (k + 3) v2 I2) ∧ (∀ I3 : wI, (post_X1_move (k1 + 4) (k + 3) v2 I2 I3) → ((pre_X2_list k (k + 3) (1 : Int32) I3) ∧ (∀ I4 : wI, (post_X2_list k (k + 3) (1 : Int32) I3 I4) → (v_X2_listNear_62 k k1 Q K16 v2 I4))))))))))))
def v_X2_listNear_16 (k : Nat) (k1 : Nat) (Q : wI → Prop) : Nat → Int32 → wI → Prop
  | 0 => fun _ _ => False
  | f + 1 => g_X2_listNear_16 k k1 Q (v_X2_listNear_16 k k1 Q f)
def v_X2_listNear (k : Nat) (k1 : Nat) (I : wI) (Q : wI → Prop) : Prop :=
  ∀ I1 : wI, I1 = wU I k 2 (0 : Int32) → ((pre_X2_list k (k1 + 7) (0 : Int32) I1) ∧ (∀ I2 : wI, (post_X2_list k (k1 + 7) (0 : Int32) I1 I2) → (∃ f : Nat, v_X2_listNear_16 k k1 Q  f (0 : Int32) I2)))
def v_X2_listedTurns_44 (k : Nat) (k1 : Nat) (I : wI) (Q : Int32 → Prop)  : Prop :=
  Q (-1 : Int32)
def g_X2_listedTurns_7 (k : Nat) (k1 : Nat) (I : wI) (Q : Int32 → Prop) (K7 : Int32 → Int32 → Prop) (v2 : Int32) (v3 : Int32) : Prop :=
  (((I k 2) ≤ v3) → (v_X2_listedTurns_44 k k1 I Q  )) ∧ ((¬ ((I k 2) ≤ v3)) → ((((111 : Int32) ≤ v3) → (v_X2_listedTurns_44 k k1 I Q  )) ∧ ((¬ ((111 : Int32) ≤ v3)) → (vp_in v3 111 ∧ (((¬ (I (k + 1) (v3).toNatClampNeg) = v2) → (K7 v2 (v3 + (1 : Int32)))) ∧ (((I (k + 1) (v3).toNatClampNeg) = v2) → (vp_in v3 111 ∧ (Q (I (k + 2) (v3).toNatClampNeg)))))))))
def v_X2_listedTurns_7 (k : Nat) (k1 : Nat) (I : wI) (Q : Int32 → Prop) : Nat → Int32 → Int32 → Prop
  | 0 => fun _ _ => False
  | f + 1 => g_X2_listedTurns_7 k k1 I Q (v_X2_listedTurns_7 k k1 I Q f)
def v_X2_listedTurns (k : Nat) (k1 : Nat) (I : wI) (Q : Int32 → Prop) : Prop :=
  (pre_X0_fingerprint k1 I) ∧ (∀ r1 : Int32, (post_X0_fingerprint k1 I r1) → (∃ f : Nat, v_X2_listedTurns_7 k k1 I Q  f r1 (0 : Int32)))
def v_X2_meetsList_53 (k : Nat) (k1 : Nat) (Q : Int32 → wI → Prop) (K2 : Int32 → wI → Prop) (v2 : Int32) (I : wI) : Prop :=
  K2 (v2 + (1 : Int32)) I
def g_X2_meetsList_2 (k : Nat) (k1 : Nat) (Q : Int32 → wI → Prop) (K2 : Int32 → wI → Prop) (v2 : Int32) (I : wI) : Prop :=
  (((10 : Int32) ≤ v2) → (Q (0 : Int32) I)) ∧ ((¬ ((10 : Int32) ≤ v2)) → ((pre_X3_allows k1 v2 I) ∧ (∀ r1 : Int32, (post_X3_allows k1 v2 I r1) → (((r1 = 0) → (v_X2_meetsList_53 k k1 Q K2 v2 I)) ∧ ((¬ (r1 = 0)) → ((pre_X0_copyFrom (k + 6) (k + 3) I) ∧ (∀ I2 : wI, (post_X0_copyFrom (k + 6) (k + 3) I I2) → ((pre_X1_move (k1 + 4) (k + 6) v2 I2) ∧ (∀ I3 : wI, (post_X1_move (k1 + 4) (k + 6) v2 I2 I3) → ((pre_X2_listedTurns k (k + 6) I3) ∧ (∀ r4 : Int32, (post_X2_listedTurns k (k + 6) I3 r4) → (((r4 = (-1 : Int32)) → (v_X2_meetsList_53 k k1 Q K2 v2 I3)) ∧ ((¬ (r4 = (-1 : Int32))) → (Q (1 : Int32) I3))))))))))))))
def v_X2_meetsList_2 (k : Nat) (k1 : Nat) (Q : Int32 → wI → Prop) : Nat → Int32 → wI → Prop
  | 0 => fun _ _ => False
  | f + 1 => g_X2_meetsList_2 k k1 Q (v_X2_meetsList_2 k k1 Q f)
def v_X2_meetsList (k : Nat) (k1 : Nat) (I : wI) (Q : Int32 → wI → Prop) : Prop :=
  ∃ f : Nat, v_X2_meetsList_2 k k1 Q  f (0 : Int32) I
def v_X2_tryFirst_90 (k : Nat) (k1 : Nat) (x2 : Int32) (Q : wI → Prop)  (I : wI) : Prop :=
  Q I
def v_X2_tryFirst_78 (k : Nat) (k1 : Nat) (x2 : Int32) (Q : wI → Prop) (v3 : Int32) (I : wI) : Prop :=
  ∀ I1 : wI, I1 = wU I k 5 (v3 + (1 : Int32)) → (∀ I2 : wI, I2 = wU I1 k 6 x2 → (v_X2_tryFirst_90 k k1 x2 Q   I2))
def v_X2_tryFirst_55 (k : Nat) (k1 : Nat) (x2 : Int32) (Q : wI → Prop) (v3 : Int32) (I : wI) : Prop :=
  ((v3 = (-1 : Int32)) → (v_X2_tryFirst_90 k k1 x2 Q   I)) ∧ ((¬ (v3 = (-1 : Int32))) → ((((I k 5) = (-1 : Int32)) → (v_X2_tryFirst_78 k k1 x2 Q  v3 I)) ∧ ((¬ ((I k 5) = (-1 : Int32))) → ((((I k 5) ≤ (v3 + (1 : Int32))) → (v_X2_tryFirst_90 k k1 x2 Q   I)) ∧ ((¬ ((I k 5) ≤ (v3 + (1 : Int32)))) → (v_X2_tryFirst_78 k k1 x2 Q  v3 I))))))
def v_X2_tryFirst (k : Nat) (k1 : Nat) (x2 : Int32) (I : wI) (Q : wI → Prop) : Prop :=
  (pre_X0_copyFrom (k + 3) (k1 + 1) I) ∧ (∀ I1 : wI, (post_X0_copyFrom (k + 3) (k1 + 1) I I1) → ((pre_X1_move (k1 + 4) (k + 3) x2 I1) ∧ (∀ I2 : wI, (post_X1_move (k1 + 4) (k + 3) x2 I1 I2) → ((pre_X2_listedTurns k (k + 3) I2) ∧ (∀ r3 : Int32, (post_X2_listedTurns k (k + 3) I2 r3) → (((¬ r3 = (-1 : Int32)) → (v_X2_tryFirst_55 k k1 x2 Q  r3 I2)) ∧ ((r3 = (-1 : Int32)) → (((¬ (I2 k 5) = (-1 : Int32)) → (v_X2_tryFirst_55 k k1 x2 Q  r3 I2)) ∧ (((I2 k 5) = (-1 : Int32)) → ((pre_X2_meetsList k k1 I2) ∧ (∀ r4 : Int32, ∀ I5 : wI, (post_X2_meetsList k k1 I2 r4 I5) → (((r4 = 0) → (v_X2_tryFirst_55 k k1 x2 Q  r3 I5)) ∧ ((¬ (r4 = 0)) → (v_X2_tryFirst_55 k k1 x2 Q  (3 : Int32) I5))))))))))))))
def v_X2_search_58 (k : Nat) (k1 : Nat) (Q : wI → Prop) (K38 : Int32 → wI → Prop) (v2 : Int32) (I : wI) : Prop :=
  K38 (v2 + (1 : Int32)) I
def g_X2_search_38 (k : Nat) (k1 : Nat) (Q : wI → Prop) (K38 : Int32 → wI → Prop) (v2 : Int32) (I : wI) : Prop :=
  (((10 : Int32) ≤ v2) → (Q I)) ∧ ((¬ ((10 : Int32) ≤ v2)) → ((pre_X3_allows k1 v2 I) ∧ (∀ r1 : Int32, (post_X3_allows k1 v2 I r1) → (((r1 = 0) → (v_X2_search_58 k k1 Q K38 v2 I)) ∧ ((¬ (r1 = 0)) → ((pre_X2_tryFirst k k1 v2 I) ∧ (∀ I2 : wI, (post_X2_tryFirst k k1 v2 I I2) → (v_X2_search_58 k k1 Q K38 v2 I2))))))))
def v_X2_search_38 (k : Nat) (k1 : Nat) (Q : wI → Prop) : Nat → Int32 → wI → Prop
  | 0 => fun _ _ => False
  | f + 1 => g_X2_search_38 k k1 Q (v_X2_search_38 k k1 Q f)
def v_X2_search (k : Nat) (k1 : Nat) (I : wI) (Q : wI → Prop) : Prop :=
  ∀ I1 : wI, I1 = wU I k 5 (-1 : Int32) → (∀ I2 : wI, I2 = wU I1 k 6 (-1 : Int32) → (((¬ (I2 k1 3) = 0) → ((pre_X3_opens k1 I2) ∧ (∀ r3 : Int32, (post_X3_opens k1 I2 r3) → (((r3 = 0) → ((pre_X2_listNear k k1 I2) ∧ (∀ I4 : wI, (post_X2_listNear k k1 I2 I4) → (∃ f : Nat, v_X2_search_38 k k1 Q  f (0 : Int32) I4)))) ∧ ((¬ (r3 = 0)) → (∀ I5 : wI, I5 = wU I2 k 5 (0 : Int32) → (Q I5))))))) ∧ (((I2 k1 3) = 0) → (Q I2))))
def v_X5_openIn_51 (x1 : Int32) (Q : Int32 → wI → Prop) (t0 : Int32) (I : wI) : Prop :=
  Q t0 I
def v_X5_openIn_9 (x1 : Int32) (Q : Int32 → wI → Prop)  (I : wI) : Prop :=
  False
def v_X5_openIn (x1 : Int32) (I : wI) (Q : Int32 → wI → Prop) : Prop :=
  ((x1 < 0) → (v_X5_openIn_9 x1 Q   I)) ∧ ((¬ (x1 < 0)) → (((x1 ≤ (1 : Int32)) → ((pre_X2_search 36 1 I) ∧ (∀ I1 : wI, (post_X2_search 36 1 I I1) → (((¬ x1 = 0) → (v_X5_openIn_51 x1 Q  (I1 36 6) I1)) ∧ ((x1 = 0) → (v_X5_openIn_51 x1 Q  (I1 36 5) I1)))))) ∧ ((¬ (x1 ≤ (1 : Int32))) → (v_X5_openIn_9 x1 Q   I))))
def v_X5_openInx_51 (x1 : Int32) (X : String → wI → Prop) (t0 : Int32) (I : wI) : Prop :=
  False
def v_X5_openInx_9 (x1 : Int32) (X : String → wI → Prop)  (I : wI) : Prop :=
  X "java/lang/IllegalArgumentException" I
def v_X5_openInx (x1 : Int32) (I : wI) (X : String → wI → Prop) : Prop :=
  ((x1 < 0) → (v_X5_openInx_9 x1 X   I)) ∧ ((¬ (x1 < 0)) → (((x1 ≤ (1 : Int32)) → ((pre_X2_search 36 1 I) ∧ (∀ I1 : wI, (post_X2_search 36 1 I I1) → (((¬ x1 = 0) → (v_X5_openInx_51 x1 X  (I1 36 6) I1)) ∧ ((x1 = 0) → (v_X5_openInx_51 x1 X  (I1 36 5) I1)))))) ∧ ((¬ (x1 ≤ (1 : Int32))) → (v_X5_openInx_9 x1 X   I))))
def v_X5_ifTurned_59 (x1 : Int32) (x2 : Int32) (Q : Int32 → wI → Prop) (t0 : Int32) (t1 : Int32) (I : wI) : Prop :=
  (pre_X5_moveOf t1 t0 I) ∧ (∀ r1 : Int32, (post_X5_moveOf t1 t0 I r1) → ((pre_X1_move 5 33 r1 I) ∧ (∀ I2 : wI, (post_X1_move 5 33 r1 I I2) → ((pre_X3_asInSecret 1 33 I2) ∧ (∀ r3 : Int32, (post_X3_asInSecret 1 33 I2 r3) → (Q r3 I2))))))
def v_X5_ifTurned_13 (x1 : Int32) (x2 : Int32) (Q : Int32 → wI → Prop)  (I : wI) : Prop :=
  False
def v_X5_ifTurned (x1 : Int32) (x2 : Int32) (I : wI) (Q : Int32 → wI → Prop) : Prop :=
  (pre_X5_requireKey x1 I) ∧ ((post_X5_requireKey x1 I) → (((x2 < 0) → (v_X5_ifTurned_13 x1 x2 Q   I)) ∧ ((¬ (x2 < 0)) → (((x2 ≤ (1 : Int32)) → ((pre_X0_copyFrom 33 2 I) ∧ (∀ I1 : wI, (post_X0_copyFrom 33 2 I I1) → (((¬ x2 = (1 : Int32)) → (v_X5_ifTurned_59 x1 x2 Q  (0 : Int32) x1 I1)) ∧ ((x2 = (1 : Int32)) → (v_X5_ifTurned_59 x1 x2 Q  (1 : Int32) x1 I1)))))) ∧ ((¬ (x2 ≤ (1 : Int32))) → (v_X5_ifTurned_13 x1 x2 Q   I))))))
def v_X5_ifTurnedx_59 (x1 : Int32) (x2 : Int32) (X : String → wI → Prop) (t0 : Int32) (t1 : Int32) (I : wI) : Prop :=
  (pre_X5_moveOf t1 t0 I) ∧ (∀ r1 : Int32, (post_X5_moveOf t1 t0 I r1) → ((pre_X1_move 5 33 r1 I) ∧ (∀ I2 : wI, (post_X1_move 5 33 r1 I I2) → ((pre_X3_asInSecret 1 33 I2) ∧ (∀ r3 : Int32, (post_X3_asInSecret 1 33 I2 r3) → (False))))))
def v_X5_ifTurnedx_13 (x1 : Int32) (x2 : Int32) (X : String → wI → Prop)  (I : wI) : Prop :=
  X "java/lang/IllegalArgumentException" I
def v_X5_ifTurnedx (x1 : Int32) (x2 : Int32) (I : wI) (X : String → wI → Prop) : Prop :=
  ((ok_X5_requireKey x1 I) → ((pre_X5_requireKey x1 I) ∧ ((post_X5_requireKey x1 I) → (((x2 < 0) → (v_X5_ifTurnedx_13 x1 x2 X   I)) ∧ ((¬ (x2 < 0)) → (((x2 ≤ (1 : Int32)) → ((pre_X0_copyFrom 33 2 I) ∧ (∀ I1 : wI, (post_X0_copyFrom 33 2 I I1) → (((¬ x2 = (1 : Int32)) → (v_X5_ifTurnedx_59 x1 x2 X  (0 : Int32) x1 I1)) ∧ ((x2 = (1 : Int32)) → (v_X5_ifTurnedx_59 x1 x2 X  (1 : Int32) x1 I1)))))) ∧ ((¬ (x2 ≤ (1 : Int32))) → (v_X5_ifTurnedx_13 x1 x2 X   I)))))))) ∧ ((¬ (ok_X5_requireKey x1 I)) → ((pre_X5_requireKeyx x1 I) ∧ (∀ E : String, (exc_X5_requireKey x1 I E) → X E I)))
def v_X5_closest_58  (Q : Int32 → wI → Prop) (K7 : Int32 → Int32 → Int32 → wI → Prop) (K17 : Int32 → Int32 → Int32 → Int32 → wI → Prop) (v1 : Int32) (v2 : Int32) (v3 : Int32) (v4 : Int32) (I : wI) : Prop :=
  K17 v1 v2 v3 (v4 + (1 : Int32)) I
def g_X5_closest_17  (Q : Int32 → wI → Prop) (K7 : Int32 → Int32 → Int32 → wI → Prop) (K17 : Int32 → Int32 → Int32 → Int32 → wI → Prop) (v1 : Int32) (v2 : Int32) (v3 : Int32) (v4 : Int32) (I : wI) : Prop :=
  (((5 : Int32) ≤ v4) → (K7 v1 v2 (v3 + (1 : Int32)) I)) ∧ ((¬ ((5 : Int32) ≤ v4)) → ((pre_X5_showPair v3 v4 I) ∧ (∀ I1 : wI, (post_X5_showPair v3 v4 I I1) → ((pre_X0_reach 30 I1) ∧ (∀ r2 : Int32, (post_X0_reach 30 I1 r2) → ((pre_J_bitCount r2 I1) ∧ (∀ r3 : Int32, (post_J_bitCount r2 I1 r3) → (((v2 ≤ r3) → (v_X5_closest_58  Q K7 K17 v1 v2 v3 v4 I1)) ∧ ((¬ (v2 ≤ r3)) → (v_X5_closest_58  Q K7 K17 (((5 : Int32) * v3) + v4) r3 v3 v4 I1))))))))))
def v_X5_closest_17  (Q : Int32 → wI → Prop) (K7 : Int32 → Int32 → Int32 → wI → Prop) : Nat → Int32 → Int32 → Int32 → Int32 → wI → Prop
  | 0 => fun _ _ _ _ _ => False
  | f + 1 => g_X5_closest_17 Q K7 (v_X5_closest_17 Q K7 f)
def g_X5_closest_7  (Q : Int32 → wI → Prop) (K7 : Int32 → Int32 → Int32 → wI → Prop) (v1 : Int32) (v2 : Int32) (v3 : Int32) (I : wI) : Prop :=
  (((5 : Int32) ≤ v3) → (Q v1 I)) ∧ ((¬ ((5 : Int32) ≤ v3)) → (∃ f : Nat, v_X5_closest_17  Q K7 f v1 v2 v3 (v3 + (1 : Int32)) I))
def v_X5_closest_7  (Q : Int32 → wI → Prop) : Nat → Int32 → Int32 → Int32 → wI → Prop
  | 0 => fun _ _ _ _ => False
  | f + 1 => g_X5_closest_7 Q (v_X5_closest_7 Q f)
def v_X5_closest  (I : wI) (Q : Int32 → wI → Prop) : Prop :=
  ∃ f : Nat, v_X5_closest_7  Q  f (-1 : Int32) (7 : Int32) (0 : Int32) I
def v_X5_openShare  (I : wI) (Q : UInt64 → Prop) : Prop :=
  (pre_X3_asInSecret 1 2 I) ∧ (∀ r1 : Int32, (post_X3_asInSecret 1 2 I r1) → (vf_n64 (FP.ddiv (FP.i2d r1) (4618441417868443648 : UInt64)) ∧ (Q (FP.ddiv (FP.i2d r1) (4618441417868443648 : UInt64)))))
def v_X5_meanNotch  (I : wI) (Q : UInt32 → Prop) : Prop :=
  (pre_X0_notchSum 2 I) ∧ (∀ r1 : Int32, (post_X0_notchSum 2 I r1) → (vf_n32 (FP.fdiv (FP.i2f r1) (1086324736 : UInt32)) ∧ (Q (FP.fdiv (FP.i2f r1) (1086324736 : UInt32)))))
