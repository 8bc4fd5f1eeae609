def v_X5_requireKey_9 (x0 : Int32) (I : wI) (Q : Prop)  : Prop :=
  False
def v_X5_requireKey (x0 : Int32) (I : wI) (Q : Prop) : Prop :=
  ((x0 < 0) → (v_X5_requireKey_9 x0 I Q  )) ∧ ((¬ (x0 < 0)) → (((x0 < (5 : Int32)) → (Q)) ∧ ((¬ (x0 < (5 : Int32))) → (v_X5_requireKey_9 x0 I Q  ))))
def v_X5_requireKeyx_9 (x0 : Int32) (I : wI) (X : String → Prop)  : Prop :=
  X "java/lang/IndexOutOfBoundsException"
def v_X5_requireKeyx (x0 : Int32) (I : wI) (X : String → Prop) : Prop :=
  ((x0 < 0) → (v_X5_requireKeyx_9 x0 I X  )) ∧ ((¬ (x0 < 0)) → (((x0 < (5 : Int32)) → (False)) ∧ ((¬ (x0 < (5 : Int32))) → (v_X5_requireKeyx_9 x0 I X  ))))
def v_X5_moveOf_11 (x0 : Int32) (x1 : Int32) (I : wI) (Q : Int32 → Prop) (t0 : Int32) : Prop :=
  Q t0
def v_X5_moveOf (x0 : Int32) (x1 : Int32) (I : wI) (Q : Int32 → Prop) : Prop :=
  ((x1 = 0) → (v_X5_moveOf_11 x0 x1 I Q  x0)) ∧ ((¬ (x1 = 0)) → (v_X5_moveOf_11 x0 x1 I Q  ((5 : Int32) + x0)))
def v_X5_keyOf_12 (x0 : Int32) (I : wI) (Q : Int32 → Prop) (t0 : Int32) : Prop :=
  Q t0
def v_X5_keyOf (x0 : Int32) (I : wI) (Q : Int32 → Prop) : Prop :=
  ((x0 < (5 : Int32)) → (v_X5_keyOf_12 x0 I Q  x0)) ∧ ((¬ (x0 < (5 : Int32))) → (v_X5_keyOf_12 x0 I Q  (x0 - (5 : Int32))))
def v_X1_maskOf_19 (k : Nat) (x1 : Int32) (I : wI) (Q : Int32 → Prop) (t0 : Int32) : Prop :=
  Q t0
def v_X1_maskOf_18 (k : Nat) (x1 : Int32) (I : wI) (Q : Int32 → Prop)  : Prop :=
  v_X1_maskOf_19 k x1 I Q  (0 : Int32)
def v_X1_maskOf (k : Nat) (x1 : Int32) (I : wI) (Q : Int32 → Prop) : Prop :=
  ((x1 < 0) → (v_X1_maskOf_18 k x1 I Q  )) ∧ ((¬ (x1 < 0)) → ((((5 : Int32) ≤ x1) → (v_X1_maskOf_18 k x1 I Q  )) ∧ ((¬ ((5 : Int32) ≤ x1)) → (vp_in x1 5 ∧ (v_X1_maskOf_19 k x1 I Q  (I (k + 1) (x1).toNatClampNeg))))))
def v_X3_allows_24 (k : Nat) (x1 : Int32) (I : wI) (Q : Int32 → Prop) (t0 : Int32) : Prop :=
  (t0 = 0 ∨ t0 = 1) ∧ Q t0
def v_X3_allows (k : Nat) (x1 : Int32) (I : wI) (Q : Int32 → Prop) : Prop :=
  (pre_X5_keyOf x1 I) ∧ (∀ r1 : Int32, (post_X5_keyOf x1 I r1) → ((pre_X1_maskOf (k + 4) r1 I) ∧ (∀ r2 : Int32, (post_X1_maskOf (k + 4) r1 I r2) → (((¬ (r2 &&& (I k 4)) = 0) → (v_X3_allows_24 k x1 I Q  (0 : Int32))) ∧ (((r2 &&& (I k 4)) = 0) → (v_X3_allows_24 k x1 I Q  (1 : Int32)))))))
def g_X5_dropOldest_9  (Q : wI → Prop) (K9 : Int32 → Int32 → wI → Prop) (v1 : Int32) (v2 : Int32) (I : wI) : Prop :=
  (((6 : Int32) ≤ v2) → ((vp_in (5 : Int32) 6 ∧ (v1).toNatClampNeg < 6) ∧ ∀ I1 : wI, I1 = wU I 23 ((5 : Int32)).toNatClampNeg v1 → (∀ I2 : wI, I2 = wU I1 0 4 (5 : Int32) → (Q I2)))) ∧ ((¬ ((6 : Int32) ≤ v2)) → (vp_in v2 6 ∧ ((vp_in (v2 - (1 : Int32)) 6 ∧ ((I 23 (v2).toNatClampNeg)).toNatClampNeg < 6) ∧ ∀ I3 : wI, I3 = wU I 23 ((v2 - (1 : Int32))).toNatClampNeg (I 23 (v2).toNatClampNeg) → (K9 v1 (v2 + (1 : Int32)) I3))))
def v_X5_dropOldest_9  (Q : wI → Prop) : Nat → Int32 → Int32 → wI → Prop
  | 0 => fun _ _ _ => False
  | f + 1 => g_X5_dropOldest_9 Q (v_X5_dropOldest_9 Q f)
def v_X5_dropOldest  (I : wI) (Q : wI → Prop) : Prop :=
  vp_in (0 : Int32) 6 ∧ (∃ f : Nat, v_X5_dropOldest_9  Q  f (I 23 ((0 : Int32)).toNatClampNeg) (1 : Int32) I)
def g_X0_copyFrom_2 (k : Nat) (k1 : Nat) (Q : wI → Prop) (K2 : Int32 → wI → Prop) (v2 : Int32) (I : wI) : Prop :=
  (((6 : Int32) ≤ v2) → (Q I)) ∧ ((¬ ((6 : Int32) ≤ v2)) → (vp_in v2 6 ∧ (vp_in v2 6 ∧ ∀ I1 : wI, I1 = wU I (k + 1) (v2).toNatClampNeg (I (k1 + 1) (v2).toNatClampNeg) → (vp_in v2 6 ∧ (vp_in v2 6 ∧ ∀ I2 : wI, I2 = wU I1 (k + 2) (v2).toNatClampNeg (I1 (k1 + 2) (v2).toNatClampNeg) → (K2 (v2 + (1 : Int32)) I2))))))
def v_X0_copyFrom_2 (k : Nat) (k1 : Nat) (Q : wI → Prop) : Nat → Int32 → wI → Prop
  | 0 => fun _ _ => False
  | f + 1 => g_X0_copyFrom_2 k k1 Q (v_X0_copyFrom_2 k k1 Q f)
def v_X0_copyFrom (k : Nat) (k1 : Nat) (I : wI) (Q : wI → Prop) : Prop :=
  ∃ f : Nat, v_X0_copyFrom_2 k k1 Q  f (0 : Int32) I
def g_X1_copyFrom_2 (k : Nat) (k1 : Nat) (Q : wI → Prop) (K2 : Int32 → wI → Prop) (v2 : Int32) (I : wI) : Prop :=
  (((5 : Int32) ≤ v2) → (Q I)) ∧ ((¬ ((5 : Int32) ≤ v2)) → (vp_in v2 5 ∧ (vp_in v2 5 ∧ ∀ I1 : wI, I1 = wU I (k + 1) (v2).toNatClampNeg (I (k1 + 1) (v2).toNatClampNeg) → (vp_in v2 5 ∧ (vp_in v2 5 ∧ ∀ I2 : wI, I2 = wU I1 (k + 2) (v2).toNatClampNeg (I1 (k1 + 2) (v2).toNatClampNeg) → (K2 (v2 + (1 : Int32)) I2))))))
def v_X1_copyFrom_2 (k : Nat) (k1 : Nat) (Q : wI → Prop) : Nat → Int32 → wI → Prop
  | 0 => fun _ _ => False
  | f + 1 => g_X1_copyFrom_2 k k1 Q (v_X1_copyFrom_2 k k1 Q f)
def v_X1_copyFrom (k : Nat) (k1 : Nat) (I : wI) (Q : wI → Prop) : Prop :=
  ∃ f : Nat, v_X1_copyFrom_2 k k1 Q  f (0 : Int32) I
def g_X3_copyFrom_51 (k : Nat) (k1 : Nat) (Q : wI → Prop) (K51 : Int32 → wI → Prop) (v2 : Int32) (I : wI) : Prop :=
  (((5 : Int32) ≤ v2) → (∀ I1 : wI, I1 = wU I k 6 (I k1 6) → (∀ I2 : wI, I2 = wU I1 k 7 (I1 k1 7) → (∀ I3 : wI, I3 = wU I2 k 8 (I2 k1 8) → (Q I3))))) ∧ ((¬ ((5 : Int32) ≤ v2)) → (vp_in v2 5 ∧ (vp_in v2 5 ∧ ∀ I4 : wI, I4 = wU I (k + 10) (v2).toNatClampNeg (I (k1 + 10) (v2).toNatClampNeg) → (K51 (v2 + (1 : Int32)) I4))))
def v_X3_copyFrom_51 (k : Nat) (k1 : Nat) (Q : wI → Prop) : Nat → Int32 → wI → Prop
  | 0 => fun _ _ => False
  | f + 1 => g_X3_copyFrom_51 k k1 Q (v_X3_copyFrom_51 k k1 Q f)
def v_X3_copyFrom (k : Nat) (k1 : Nat) (I : wI) (Q : wI → Prop) : Prop :=
  (pre_X0_copyFrom (k + 1) (k1 + 1) I) ∧ (∀ I1 : wI, (post_X0_copyFrom (k + 1) (k1 + 1) I I1) → ((pre_X1_copyFrom (k + 4) (k1 + 4) I1) ∧ (∀ I2 : wI, (post_X1_copyFrom (k + 4) (k1 + 4) I1 I2) → ((pre_X0_copyFrom (k + 7) (k1 + 7) I2) ∧ (∀ I3 : wI, (post_X0_copyFrom (k + 7) (k1 + 7) I2 I3) → (((I3 k1 3) = 0 ∨ (I3 k1 3) = 1) ∧ (∀ I4 : wI, I4 = wU I3 k 3 (I3 k1 3) → (∀ I5 : wI, I5 = wU I4 k 4 (I4 k1 4) → (∃ f : Nat, v_X3_copyFrom_51 k k1 Q  f (0 : Int32) I5)))))))))
def v_X5_writeSaved_22 (k1 : Nat) (Q : wI → Prop)  (I : wI) : Prop :=
  Q I
def v_X5_writeSaved (k1 : Nat) (I : wI) (Q : wI → Prop) : Prop :=
  (pre_X3_copyFrom k1 1 I) ∧ (∀ I1 : wI, (post_X3_copyFrom k1 1 I I1) → (∀ I2 : wI, I2 = wU I1 0 4 ((I1 0 4) + (1 : Int32)) → (v_X5_writeSaved_22 k1 Q   I2)))
def v_X5_save_42  (Q : wI → Prop)  (I : wI) : Prop :=
  Q I
def v_X5_save_13  (Q : wI → Prop)  (I : wI) : Prop :=
  (((I 0 4) < 0) → (v_X5_save_42  Q   I)) ∧ ((¬ ((I 0 4) < 0)) → ((((6 : Int32) ≤ (I 0 4)) → (v_X5_save_42  Q   I)) ∧ ((¬ ((6 : Int32) ≤ (I 0 4))) → (vp_in (I 0 4) 6 ∧ (((I 23 ((I 0 4)).toNatClampNeg)).toNatClampNeg < 6 ∧ ((pre_X5_writeSaved (wSv (I 23 ((I 0 4)).toNatClampNeg)) I) ∧ (∀ I1 : wI, (post_X5_writeSaved (wSv (I 23 ((I 0 4)).toNatClampNeg)) I I1) → (v_X5_save_42  Q   I1))))))))
def v_X5_save  (I : wI) (Q : wI → Prop) : Prop :=
  (((I 0 4) < (6 : Int32)) → (v_X5_save_13  Q   I)) ∧ ((¬ ((I 0 4) < (6 : Int32))) → ((pre_X5_dropOldest  I) ∧ (∀ I1 : wI, (post_X5_dropOldest  I I1) → (v_X5_save_13  Q   I1))))
def v_X0_agreeing_43 (k : Nat) (k1 : Nat) (I : wI) (Q : Int32 → Prop) (K4 : Int32 → Int32 → Prop) (v2 : Int32) (v3 : Int32) : Prop :=
  K4 v2 (v3 + (1 : Int32))
def g_X0_agreeing_4 (k : Nat) (k1 : Nat) (I : wI) (Q : Int32 → Prop) (K4 : Int32 → Int32 → Prop) (v2 : Int32) (v3 : Int32) : Prop :=
  (((6 : Int32) ≤ v3) → (Q v2)) ∧ ((¬ ((6 : Int32) ≤ v3)) → (vp_in v3 6 ∧ (vp_in v3 6 ∧ (((¬ (I (k + 1) (v3).toNatClampNeg) = (I (k1 + 1) (v3).toNatClampNeg)) → (v_X0_agreeing_43 k k1 I Q K4 v2 v3)) ∧ (((I (k + 1) (v3).toNatClampNeg) = (I (k1 + 1) (v3).toNatClampNeg)) → (vp_in v3 6 ∧ (vp_in v3 6 ∧ (((¬ (I (k + 2) (v3).toNatClampNeg) = (I (k1 + 2) (v3).toNatClampNeg)) → (v_X0_agreeing_43 k k1 I Q K4 v2 v3)) ∧ (((I (k + 2) (v3).toNatClampNeg) = (I (k1 + 2) (v3).toNatClampNeg)) → (v_X0_agreeing_43 k k1 I Q K4 (v2 + (1 : Int32)) v3))))))))))
def v_X0_agreeing_4 (k : Nat) (k1 : Nat) (I : wI) (Q : Int32 → Prop) : Nat → Int32 → Int32 → Prop
  | 0 => fun _ _ => False
  | f + 1 => g_X0_agreeing_4 k k1 I Q (v_X0_agreeing_4 k k1 I Q f)
def v_X0_agreeing (k : Nat) (k1 : Nat) (I : wI) (Q : Int32 → Prop) : Prop :=
  ∃ f : Nat, v_X0_agreeing_4 k k1 I Q  f (0 : Int32) (0 : Int32)
def v_X3_asInSecret_19 (k : Nat) (k1 : Nat) (I : wI) (Q : Int32 → Prop) (t0 : Int32) : Prop :=
  Q t0
def v_X3_asInSecret (k : Nat) (k1 : Nat) (I : wI) (Q : Int32 → Prop) : Prop :=
  (((I k 3) = 0) → (v_X3_asInSecret_19 k k1 I Q  (0 : Int32))) ∧ ((¬ ((I k 3) = 0)) → ((pre_X0_agreeing k1 (k + 7) I) ∧ (∀ r1 : Int32, (post_X0_agreeing k1 (k + 7) I r1) → (v_X3_asInSecret_19 k k1 I Q  r1))))
def v_X3_opens_18 (k : Nat) (I : wI) (Q : Int32 → Prop) (t0 : Int32) : Prop :=
  (t0 = 0 ∨ t0 = 1) ∧ Q t0
def v_X3_opens (k : Nat) (I : wI) (Q : Int32 → Prop) : Prop :=
  (pre_X3_asInSecret k (k + 1) I) ∧ (∀ r1 : Int32, (post_X3_asInSecret k (k + 1) I r1) → (((¬ r1 = (6 : Int32)) → (v_X3_opens_18 k I Q  (0 : Int32))) ∧ ((r1 = (6 : Int32)) → (v_X3_opens_18 k I Q  (1 : Int32)))))
def v_X1_strengthOf_19 (k : Nat) (x1 : Int32) (I : wI) (Q : Int32 → Prop) (t0 : Int32) : Prop :=
  Q t0
def v_X1_strengthOf_18 (k : Nat) (x1 : Int32) (I : wI) (Q : Int32 → Prop)  : Prop :=
  v_X1_strengthOf_19 k x1 I Q  (0 : Int32)
def v_X1_strengthOf (k : Nat) (x1 : Int32) (I : wI) (Q : Int32 → Prop) : Prop :=
  ((x1 < 0) → (v_X1_strengthOf_18 k x1 I Q  )) ∧ ((¬ (x1 < 0)) → ((((5 : Int32) ≤ x1) → (v_X1_strengthOf_18 k x1 I Q  )) ∧ ((¬ ((5 : Int32) ≤ x1)) → (vp_in x1 5 ∧ (v_X1_strengthOf_19 k x1 I Q  (I (k + 2) (x1).toNatClampNeg))))))
def v_X5_isBack_10 (x0 : Int32) (I : wI) (Q : Int32 → Prop) (t0 : Int32) : Prop :=
  (t0 = 0 ∨ t0 = 1) ∧ Q t0
def v_X5_isBack (x0 : Int32) (I : wI) (Q : Int32 → Prop) : Prop :=
  ((x0 < (5 : Int32)) → (v_X5_isBack_10 x0 I Q  (0 : Int32))) ∧ ((¬ (x0 < (5 : Int32))) → (v_X5_isBack_10 x0 I Q  (1 : Int32)))
def v_X0_rotate_155 (k : Nat) (x1 : Int32) (x2 : Int32) (x3 : Int32) (Q : wI → Prop)  (I : wI) : Prop :=
  Q I
def v_X0_rotate_119 (k : Nat) (x1 : Int32) (x2 : Int32) (x3 : Int32) (Q : wI → Prop) (K25 : Int32 → Int32 → Int32 → Int32 → Int32 → wI → Prop) (v4 : Int32) (v5 : Int32) (v6 : Int32) (v7 : Int32) (v8 : Int32) (I : wI) : Prop :=
  K25 v4 v5 v6 v7 (v8 + (1 : Int32)) I
def v_X0_rotate_111 (k : Nat) (x1 : Int32) (x2 : Int32) (x3 : Int32) (Q : wI → Prop) (K25 : Int32 → Int32 → Int32 → Int32 → Int32 → wI → Prop) (v4 : Int32) (v5 : Int32) (v8 : Int32) (v10 : Int32) (v11 : Int32) (I : wI) : Prop :=
  v_X0_rotate_119 k x1 x2 x3 Q K25 v4 v5 v10 v11 v8 I
def v_X0_rotate_45 (k : Nat) (x1 : Int32) (x2 : Int32) (x3 : Int32) (Q : wI → Prop) (K25 : Int32 → Int32 → Int32 → Int32 → Int32 → wI → Prop) (v4 : Int32) (v5 : Int32) (v6 : Int32) (v7 : Int32) (v8 : Int32) (t0 : Int32) (I : wI) : Prop :=
  ((¬ ((x1 >>> (t0 &&& 31)) &&& (1 : Int32)) = (1 : Int32)) → (v_X0_rotate_119 k x1 x2 x3 Q K25 v4 v5 v6 v7 v8 I)) ∧ ((((x1 >>> (t0 &&& 31)) &&& (1 : Int32)) = (1 : Int32)) → (vp_in t0 6 ∧ (vp_in t0 6 ∧ (((¬ v5 = (-1 : Int32)) → (vp_in t0 6 ∧ ∀ I1 : wI, I1 = wU I (k + 1) (t0).toNatClampNeg v6 → (vp_in t0 6 ∧ ∀ I2 : wI, I2 = wU I1 (k + 2) (t0).toNatClampNeg v7 → (v_X0_rotate_111 k x1 x2 x3 Q K25 v4 v5 v8 (I (k + 1) (t0).toNatClampNeg) (((I (k + 2) (t0).toNatClampNeg) + v4) - ((I (k + 2) (t0).toNatClampNeg) + v4) / (5 : Int32) * (5 : Int32)) I2)))) ∧ ((v5 = (-1 : Int32)) → (v_X0_rotate_111 k x1 x2 x3 Q K25 v4 t0 v8 (I (k + 1) (t0).toNatClampNeg) (((I (k + 2) (t0).toNatClampNeg) + v4) - ((I (k + 2) (t0).toNatClampNeg) + v4) / (5 : Int32) * (5 : Int32)) I))))))
def g_X0_rotate_25 (k : Nat) (x1 : Int32) (x2 : Int32) (x3 : Int32) (Q : wI → Prop) (K25 : Int32 → Int32 → Int32 → Int32 → Int32 → wI → Prop) (v4 : Int32) (v5 : Int32) (v6 : Int32) (v7 : Int32) (v8 : Int32) (I : wI) : Prop :=
  (((6 : Int32) ≤ v8) → (((v5 < 0) → (v_X0_rotate_155 k x1 x2 x3 Q   I)) ∧ ((¬ (v5 < 0)) → ((((6 : Int32) ≤ v5) → (v_X0_rotate_155 k x1 x2 x3 Q   I)) ∧ ((¬ ((6 : Int32) ≤ v5)) → (vp_in v5 6 ∧ ∀ I1 : wI, I1 = wU I (k + 1) (v5).toNatClampNeg v6 → (vp_in v5 6 ∧ ∀ I2 : wI, I2 = wU I1 (k + 2) (v5).toNatClampNeg v7 → (v_X0_rotate_155 k x1 x2 x3 Q   I2)))))))) ∧ ((¬ ((6 : Int32) ≤ v8)) → (((x3 = 0) → (v_X0_rotate_45 k x1 x2 x3 Q K25 v4 v5 v6 v7 v8 v8 I)) ∧ ((¬ (x3 = 0)) → (v_X0_rotate_45 k x1 x2 x3 Q K25 v4 v5 v6 v7 v8 ((5 : Int32) - v8) I))))
def v_X0_rotate_25 (k : Nat) (x1 : Int32) (x2 : Int32) (x3 : Int32) (Q : wI → Prop) : Nat → Int32 → Int32 → Int32 → Int32 → Int32 → wI → Prop
  | 0 => fun _ _ _ _ _ _ => False
  | f + 1 => g_X0_rotate_25 k x1 x2 x3 Q (v_X0_rotate_25 k x1 x2 x3 Q f)
def v_X0_rotate_11 (k : Nat) (x1 : Int32) (x2 : Int32) (x3 : Int32) (Q : wI → Prop) (t0 : Int32) (I : wI) : Prop :=
  ∃ f : Nat, v_X0_rotate_25 k x1 x2 x3 Q  f t0 (-1 : Int32) (0 : Int32) (0 : Int32) (0 : Int32) I
def v_X0_rotate (k : Nat) (x1 : Int32) (x2 : Int32) (x3 : Int32) (I : wI) (Q : wI → Prop) : Prop :=
  ((x3 = 0) → (v_X0_rotate_11 k x1 x2 x3 Q  x2 I)) ∧ ((¬ (x3 = 0)) → (v_X0_rotate_11 k x1 x2 x3 Q  ((5 : Int32) - x2) I))
def v_X1_move (k : Nat) (k1 : Nat) (x2 : Int32) (I : wI) (Q : wI → Prop) : Prop :=
  (pre_X5_keyOf x2 I) ∧ (∀ r1 : Int32, (post_X5_keyOf x2 I r1) → ((pre_X1_maskOf k r1 I) ∧ (∀ r2 : Int32, (post_X1_maskOf k r1 I r2) → ((pre_X1_strengthOf k r1 I) ∧ (∀ r3 : Int32, (post_X1_strengthOf k r1 I r3) → ((pre_X5_isBack x2 I) ∧ (∀ r4 : Int32, (post_X5_isBack x2 I r4) → ((pre_X0_rotate k1 r2 r3 r4 I) ∧ (∀ I5 : wI, (post_X0_rotate k1 r2 r3 r4 I I5) → (Q I5))))))))))
def v_J_bitCount (x0 : Int32) (I : wI) (Q : Int32 → Prop) : Prop :=
  Q ((((((((x0 - (((x0).toUInt32 >>> (((1 : Int32)).toUInt32 &&& Int32.toUInt32 31)).toInt32 &&& (1431655765 : Int32))) &&& (858993459 : Int32)) + ((((x0 - (((x0).toUInt32 >>> (((1 : Int32)).toUInt32 &&& Int32.toUInt32 31)).toInt32 &&& (1431655765 : Int32)))).toUInt32 >>> (((2 : Int32)).toUInt32 &&& Int32.toUInt32 31)).toInt32 &&& (858993459 : Int32))) + (((((x0 - (((x0).toUInt32 >>> (((1 : Int32)).toUInt32 &&& Int32.toUInt32 31)).toInt32 &&& (1431655765 : Int32))) &&& (858993459 : Int32)) + ((((x0 - (((x0).toUInt32 >>> (((1 : Int32)).toUInt32 &&& Int32.toUInt32 31)).toInt32 &&& (1431655765 : Int32)))).toUInt32 >>> (((2 : Int32)).toUInt32 &&& Int32.toUInt32 31)).toInt32 &&& (858993459 : Int32)))).toUInt32 >>> (((4 : Int32)).toUInt32 &&& Int32.toUInt32 31)).toInt32) &&& (252645135 : Int32)) + (((((((x0 - (((x0).toUInt32 >>> (((1 : Int32)).toUInt32 &&& Int32.toUInt32 31)).toInt32 &&& (1431655765 : Int32))) &&& (858993459 : Int32)) + ((((x0 - (((x0).toUInt32 >>> (((1 : Int32)).toUInt32 &&& Int32.toUInt32 31)).toInt32 &&& (1431655765 : Int32)))).toUInt32 >>> (((2 : Int32)).toUInt32 &&& Int32.toUInt32 31)).toInt32 &&& (858993459 : Int32))) + (((((x0 - (((x0).toUInt32 >>> (((1 : Int32)).toUInt32 &&& Int32.toUInt32 31)).toInt32 &&& (1431655765 : Int32))) &&& (858993459 : Int32)) + ((((x0 - (((x0).toUInt32 >>> (((1 : Int32)).toUInt32 &&& Int32.toUInt32 31)).toInt32 &&& (1431655765 : Int32)))).toUInt32 >>> (((2 : Int32)).toUInt32 &&& Int32.toUInt32 31)).toInt32 &&& (858993459 : Int32)))).toUInt32 >>> (((4 : Int32)).toUInt32 &&& Int32.toUInt32 31)).toInt32) &&& (252645135 : Int32))).toUInt32 >>> (((8 : Int32)).toUInt32 &&& Int32.toUInt32 31)).toInt32) + ((((((((x0 - (((x0).toUInt32 >>> (((1 : Int32)).toUInt32 &&& Int32.toUInt32 31)).toInt32 &&& (1431655765 : Int32))) &&& (858993459 : Int32)) + ((((x0 - (((x0).toUInt32 >>> (((1 : Int32)).toUInt32 &&& Int32.toUInt32 31)).toInt32 &&& (1431655765 : Int32)))).toUInt32 >>> (((2 : Int32)).toUInt32 &&& Int32.toUInt32 31)).toInt32 &&& (858993459 : Int32))) + (((((x0 - (((x0).toUInt32 >>> (((1 : Int32)).toUInt32 &&& Int32.toUInt32 31)).toInt32 &&& (1431655765 : Int32))) &&& (858993459 : Int32)) + ((((x0 - (((x0).toUInt32 >>> (((1 : Int32)).toUInt32 &&& Int32.toUInt32 31)).toInt32 &&& (1431655765 : Int32)))).toUInt32 >>> (((2 : Int32)).toUInt32 &&& Int32.toUInt32 31)).toInt32 &&& (858993459 : Int32)))).toUInt32 >>> (((4 : Int32)).toUInt32 &&& Int32.toUInt32 31)).toInt32) &&& (252645135 : Int32)) + (((((((x0 - (((x0).toUInt32 >>> (((1 : Int32)).toUInt32 &&& Int32.toUInt32 31)).toInt32 &&& (1431655765 : Int32))) &&& (858993459 : Int32)) + ((((x0 - (((x0).toUInt32 >>> (((1 : Int32)).toUInt32 &&& Int32.toUInt32 31)).toInt32 &&& (1431655765 : Int32)))).toUInt32 >>> (((2 : Int32)).toUInt32 &&& Int32.toUInt32 31)).toInt32 &&& (858993459 : Int32))) + (((((x0 - (((x0).toUInt32 >>> (((1 : Int32)).toUInt32 &&& Int32.toUInt32 31)).toInt32 &&& (1431655765 : Int32))) &&& (858993459 : Int32)) + ((((x0 - (((x0).toUInt32 >>> (((1 : Int32)).toUInt32 &&& Int32.toUInt32 31)).toInt32 &&& (1431655765 : Int32)))).toUInt32 >>> (((2 : Int32)).toUInt32 &&& Int32.toUInt32 31)).toInt32 &&& (858993459 : Int32)))).toUInt32 >>> (((4 : Int32)).toUInt32 &&& Int32.toUInt32 31)).toInt32) &&& (252645135 : Int32))).toUInt32 >>> (((8 : Int32)).toUInt32 &&& Int32.toUInt32 31)).toInt32)).toUInt32 >>> (((16 : Int32)).toUInt32 &&& Int32.toUInt32 31)).toInt32) &&& (63 : Int32))
def v_X1_notchesBy_33 (k : Nat) (x1 : Int32) (I : wI) (Q : Int32 → Prop) (t0 : Int32) : Prop :=
  Q t0
def v_X1_notchesBy (k : Nat) (x1 : Int32) (I : wI) (Q : Int32 → Prop) : Prop :=
  (pre_X5_keyOf x1 I) ∧ (∀ r1 : Int32, (post_X5_keyOf x1 I r1) → ((pre_X1_strengthOf k r1 I) ∧ (∀ r2 : Int32, (post_X1_strengthOf k r1 I r2) → ((pre_X1_maskOf k r1 I) ∧ (∀ r3 : Int32, (post_X1_maskOf k r1 I r3) → ((pre_J_bitCount r3 I) ∧ (∀ r4 : Int32, (post_J_bitCount r3 I r4) → ((pre_X5_isBack x1 I) ∧ (∀ r5 : Int32, (post_X5_isBack x1 I r5) → (((r5 = 0) → (v_X1_notchesBy_33 k x1 I Q  (r2 * r4))) ∧ ((¬ (r5 = 0)) → (v_X1_notchesBy_33 k x1 I Q  (-(r2 * r4))))))))))))))
def v_J_floorMod_18 (x0 : Int32) (x1 : Int32) (I : wI) (Q : Int32 → Prop) (v2 : Int32) : Prop :=
  Q v2
def v_J_floorMod (x0 : Int32) (x1 : Int32) (I : wI) (Q : Int32 → Prop) : Prop :=
  (¬ x1 = 0) ∧ (((0 ≤ (x0 ^^^ x1)) → (v_J_floorMod_18 x0 x1 I Q  (x0 - x0 / x1 * x1))) ∧ ((¬ (0 ≤ (x0 ^^^ x1))) → ((((x0 - x0 / x1 * x1) = 0) → (v_J_floorMod_18 x0 x1 I Q  (x0 - x0 / x1 * x1))) ∧ ((¬ ((x0 - x0 / x1 * x1) = 0)) → (Q ((x0 - x0 / x1 * x1) + x1))))))
def v_X3_doMove_93 (k : Nat) (x1 : Int32) (Q : wI → Prop)  (I : wI) : Prop :=
  Q I
def v_X3_doMove_72 (k : Nat) (x1 : Int32) (Q : wI → Prop) (v2 : Int32) (I : wI) : Prop :=
  ((¬ v2 = 0) → (v_X3_doMove_93 k x1 Q   I)) ∧ ((v2 = 0) → ((pre_X3_opens k I) ∧ (∀ r1 : Int32, (post_X3_opens k I r1) → (((r1 = 0) → (v_X3_doMove_93 k x1 Q   I)) ∧ ((¬ (r1 = 0)) → (∀ I2 : wI, I2 = wU I k 8 ((I k 8) + (1 : Int32)) → (v_X3_doMove_93 k x1 Q   I2)))))))
def v_X3_doMove (k : Nat) (x1 : Int32) (I : wI) (Q : wI → Prop) : Prop :=
  (pre_X3_opens k I) ∧ (∀ r1 : Int32, (post_X3_opens k I r1) → ((pre_X1_move (k + 4) (k + 1) x1 I) ∧ (∀ I2 : wI, (post_X1_move (k + 4) (k + 1) x1 I I2) → ((pre_X1_notchesBy (k + 4) x1 I2) ∧ (∀ r3 : Int32, (post_X1_notchesBy (k + 4) x1 I2 r3) → ((pre_J_floorMod ((I2 k 7) + r3) (5 : Int32) I2) ∧ (∀ r4 : Int32, (post_J_floorMod ((I2 k 7) + r3) (5 : Int32) I2 r4) → (∀ I5 : wI, I5 = wU I2 k 7 r4 → (∀ I6 : wI, I6 = wU I5 k 6 ((I5 k 6) + (1 : Int32)) → ((pre_X5_keyOf x1 I6) ∧ (∀ r7 : Int32, (post_X5_keyOf x1 I6 r7) → (((r7 < 0) → (v_X3_doMove_72 k x1 Q  r1 I6)) ∧ ((¬ (r7 < 0)) → ((((5 : Int32) ≤ r7) → (v_X3_doMove_72 k x1 Q  r1 I6)) ∧ ((¬ ((5 : Int32) ≤ r7)) → (vp_in r7 5 ∧ (vp_in r7 5 ∧ ∀ I8 : wI, I8 = wU I6 (k + 10) (r7).toNatClampNeg ((I6 (k + 10) (r7).toNatClampNeg) + (1 : Int32)) → (v_X3_doMove_72 k x1 Q  r1 I8))))))))))))))))))
def v_X5_turnOnce (x1 : Int32) (x2 : Int32) (I : wI) (Q : Int32 → wI → Prop) : Prop :=
  (pre_X5_requireKey x1 I) ∧ ((post_X5_requireKey x1 I) → ((pre_X5_moveOf x1 x2 I) ∧ (∀ r1 : Int32, (post_X5_moveOf x1 x2 I r1) → ((pre_X3_allows 1 r1 I) ∧ (∀ r2 : Int32, (post_X3_allows 1 r1 I r2) → (((¬ r2 = 0) → ((pre_X5_save  I) ∧ (∀ I3 : wI, (post_X5_save  I I3) → ((pre_X3_doMove 1 r1 I3) ∧ (∀ I4 : wI, (post_X3_doMove 1 r1 I3 I4) → ((pre_X3_asInSecret 1 2 I4) ∧ (∀ r5 : Int32, (post_X3_asInSecret 1 2 I4 r5) → (Q r5 I4)))))))) ∧ ((r2 = 0) → (False))))))))
def v_X5_turnOncex (x1 : Int32) (x2 : Int32) (I : wI) (X : String → wI → Prop) : Prop :=
  ((ok_X5_requireKey x1 I) → ((pre_X5_requireKey x1 I) ∧ ((post_X5_requireKey x1 I) → ((pre_X5_moveOf x1 x2 I) ∧ (∀ r1 : Int32, (post_X5_moveOf x1 x2 I r1) → ((pre_X3_allows 1 r1 I) ∧ (∀ r2 : Int32, (post_X3_allows 1 r1 I r2) → (((¬ r2 = 0) → ((pre_X5_save  I) ∧ (∀ I3 : wI, (post_X5_save  I I3) → ((pre_X3_doMove 1 r1 I3) ∧ (∀ I4 : wI, (post_X3_doMove 1 r1 I3 I4) → ((pre_X3_asInSecret 1 2 I4) ∧ (∀ r5 : Int32, (post_X3_asInSecret 1 2 I4 r5) → (False)))))))) ∧ ((r2 = 0) → (X "java/lang/IllegalStateException" I)))))))))) ∧ ((¬ (ok_X5_requireKey x1 I)) → ((pre_X5_requireKeyx x1 I) ∧ (∀ E : String, (exc_X5_requireKey x1 I E) → X E I)))
def v_X5_turn (x1 : Int32) (I : wI) (Q : Int32 → wI → Prop) : Prop :=
  (pre_X5_turnOnce x1 (0 : Int32) I) ∧ (∀ r1 : Int32, ∀ I2 : wI, (post_X5_turnOnce x1 (0 : Int32) I r1 I2) → (Q r1 I2))
def v_X5_turnx (x1 : Int32) (I : wI) (X : String → wI → Prop) : Prop :=
  ((ok_X5_turnOnce x1 (0 : Int32) I) → ((pre_X5_turnOnce x1 (0 : Int32) I) ∧ (∀ r3 : Int32, ∀ I4 : wI, (post_X5_turnOnce x1 (0 : Int32) I r3 I4) → (False)))) ∧ ((¬ (ok_X5_turnOnce x1 (0 : Int32) I)) → ((pre_X5_turnOncex x1 (0 : Int32) I) ∧ (∀ (E : String) (u : wI), (exc_X5_turnOnce x1 (0 : Int32) I E u) → X E u)))
def v_X5_back (x1 : Int32) (I : wI) (Q : Int32 → wI → Prop) : Prop :=
  (pre_X5_turnOnce x1 (1 : Int32) I) ∧ (∀ r1 : Int32, ∀ I2 : wI, (post_X5_turnOnce x1 (1 : Int32) I r1 I2) → (Q r1 I2))
def v_X5_backx (x1 : Int32) (I : wI) (X : String → wI → Prop) : Prop :=
  ((ok_X5_turnOnce x1 (1 : Int32) I) → ((pre_X5_turnOnce x1 (1 : Int32) I) ∧ (∀ r3 : Int32, ∀ I4 : wI, (post_X5_turnOnce x1 (1 : Int32) I r3 I4) → (False)))) ∧ ((¬ (ok_X5_turnOnce x1 (1 : Int32) I)) → ((pre_X5_turnOncex x1 (1 : Int32) I) ∧ (∀ (E : String) (u : wI), (exc_X5_turnOnce x1 (1 : Int32) I E u) → X E u)))
def v_X4_signAt_20 (k : Nat) (x1 : Int32) (I : wI) (Q : Int32 → Prop) (t0 : Int32) : Prop :=
  (narrow .char (.int t0) = .int t0) ∧ Q t0
def v_X4_signAt_19 (k : Nat) (x1 : Int32) (I : wI) (Q : Int32 → Prop)  : Prop :=
  v_X4_signAt_20 k x1 I Q  (0 : Int32)
def v_X4_signAt (k : Nat) (x1 : Int32) (I : wI) (Q : Int32 → Prop) : Prop :=
  ((x1 < 0) → (v_X4_signAt_19 k x1 I Q  )) ∧ ((¬ (x1 < 0)) → ((((60 : Int32) ≤ x1) → (v_X4_signAt_19 k x1 I Q  )) ∧ ((¬ ((60 : Int32) ≤ x1)) → (vp_in x1 60 ∧ (v_X4_signAt_20 k x1 I Q  (I (k + 1) (x1).toNatClampNeg))))))
def v_X4_moveAt_21 (k : Nat) (x1 : Int32) (I : wI) (Q : Int32 → Prop) (t0 : Int32) : Prop :=
  Q t0
def v_X4_moveAt_20 (k : Nat) (x1 : Int32) (I : wI) (Q : Int32 → Prop)  : Prop :=
  v_X4_moveAt_21 k x1 I Q  (0 : Int32)
def v_X4_moveAt (k : Nat) (x1 : Int32) (I : wI) (Q : Int32 → Prop) : Prop :=
  ((x1 < 0) → (v_X4_moveAt_20 k x1 I Q  )) ∧ ((¬ (x1 < 0)) → ((((500 : Int32) ≤ x1) → (v_X4_moveAt_20 k x1 I Q  )) ∧ ((¬ ((500 : Int32) ≤ x1)) → (vp_in x1 500 ∧ (v_X4_moveAt_21 k x1 I Q  (I (k + 2) (x1).toNatClampNeg))))))
def v_X4_addMove_27 (k : Nat) (x1 : Int32) (Q : wI → Prop)  (I : wI) : Prop :=
  ∀ I1 : wI, I1 = wU I k 3 ((I k 3) + (1 : Int32)) → (Q I1)
def v_X4_addMove (k : Nat) (x1 : Int32) (I : wI) (Q : wI → Prop) : Prop :=
  (((I k 3) < 0) → (v_X4_addMove_27 k x1 Q   I)) ∧ ((¬ ((I k 3) < 0)) → ((((500 : Int32) ≤ (I k 3)) → (v_X4_addMove_27 k x1 Q   I)) ∧ ((¬ ((500 : Int32) ≤ (I k 3))) → (vp_in (I k 3) 500 ∧ ∀ I1 : wI, I1 = wU I (k + 2) ((I k 3)).toNatClampNeg x1 → (v_X4_addMove_27 k x1 Q   I1)))))
def v_X4_repeat_53 (k : Nat) (x1 : Int32) (x2 : Int32) (Q : wI → Prop) (v4 : Int32) (I : wI) : Prop :=
  ∀ I1 : wI, I1 = wU I k 3 v4 → (Q I1)
def g_X4_repeat_20 (k : Nat) (x1 : Int32) (x2 : Int32) (Q : wI → Prop) (K20 : Int32 → Int32 → Int32 → wI → Prop) (v3 : Int32) (v4 : Int32) (v5 : Int32) (I : wI) : Prop :=
  ((v4 ≤ v5) → (v_X4_repeat_53 k x1 x2 Q  v4 I)) ∧ ((¬ (v4 ≤ v5)) → ((((500 : Int32) ≤ v5) → (v_X4_repeat_53 k x1 x2 Q  v4 I)) ∧ ((¬ ((500 : Int32) ≤ v5)) → ((pre_X4_moveAt k (v5 - v3) I) ∧ (∀ r1 : Int32, (post_X4_moveAt k (v5 - v3) I r1) → ((pre_X4_addMove k r1 I) ∧ (∀ I2 : wI, (post_X4_addMove k r1 I I2) → (K20 v3 v4 (v5 + (1 : Int32)) I2))))))))
def v_X4_repeat_20 (k : Nat) (x1 : Int32) (x2 : Int32) (Q : wI → Prop) : Nat → Int32 → Int32 → Int32 → wI → Prop
  | 0 => fun _ _ _ _ => False
  | f + 1 => g_X4_repeat_20 k x1 x2 Q (v_X4_repeat_20 k x1 x2 Q f)
def v_X4_repeat (k : Nat) (x1 : Int32) (x2 : Int32) (I : wI) (Q : wI → Prop) : Prop :=
  ∃ f : Nat, v_X4_repeat_20 k x1 x2 Q  f ((I k 3) - x1) (x1 + (((I k 3) - x1) * x2)) (I k 3) I
def v_X4_takesFigure_28 (k : Nat) (x1 : Int32) (Q : Int32 → wI → Prop)  (I : wI) : Prop :=
  Q (0 : Int32) I
def v_X4_takesFigure (k : Nat) (x1 : Int32) (I : wI) (Q : Int32 → wI → Prop) : Prop :=
  ((x1 < (50 : Int32)) → (v_X4_takesFigure_28 k x1 Q   I)) ∧ ((¬ (x1 < (50 : Int32))) → ((((57 : Int32) < x1) → (v_X4_takesFigure_28 k x1 Q   I)) ∧ ((¬ ((57 : Int32) < x1)) → (((((I k 8) - (1 : Int32)) < 0) → (v_X4_takesFigure_28 k x1 Q   I)) ∧ ((¬ (((I k 8) - (1 : Int32)) < 0)) → (((((I k 8) - (1 : Int32)) < (4 : Int32)) → (∀ I1 : wI, I1 = wU I k 10 (0 : Int32) → (∀ I2 : wI, I2 = wU I1 k 8 ((I k 8) - (1 : Int32)) → (vp_in ((I k 8) - (1 : Int32)) 4 ∧ ((pre_X4_repeat k (I2 (k + 4) (((I k 8) - (1 : Int32))).toNatClampNeg) (x1 - (48 : Int32)) I2) ∧ (∀ I3 : wI, (post_X4_repeat k (I2 (k + 4) (((I k 8) - (1 : Int32))).toNatClampNeg) (x1 - (48 : Int32)) I2 I3) → (Q (1 : Int32) I3))))))) ∧ ((¬ (((I k 8) - (1 : Int32)) < (4 : Int32))) → (v_X4_takesFigure_28 k x1 Q   I))))))))
def v_X4_takesMove (k : Nat) (x1 : Int32) (I : wI) (Q : Int32 → wI → Prop) : Prop :=
  (pre_X4_addMove k x1 I) ∧ (∀ I1 : wI, (post_X4_addMove k x1 I I1) → (∀ I2 : wI, I2 = wU I1 k 9 (1 : Int32) → (Q (1 : Int32) I2)))
def v_X4_takesOpening_15 (k : Nat) (x1 : Int32) (Q : Int32 → wI → Prop)  (I : wI) : Prop :=
  Q (0 : Int32) I
def v_X4_takesOpening (k : Nat) (x1 : Int32) (I : wI) (Q : Int32 → wI → Prop) : Prop :=
  (((I k 8) < 0) → (v_X4_takesOpening_15 k x1 Q   I)) ∧ ((¬ ((I k 8) < 0)) → ((((I k 8) < (4 : Int32)) → (vp_in (I k 8) 4 ∧ ∀ I1 : wI, I1 = wU I (k + 3) ((I k 8)).toNatClampNeg x1 → (vp_in (I1 k 8) 4 ∧ ∀ I2 : wI, I2 = wU I1 (k + 4) ((I1 k 8)).toNatClampNeg (I1 k 3) → (vp_in (I2 k 8) 4 ∧ ∀ I3 : wI, I3 = wU I2 (k + 5) ((I2 k 8)).toNatClampNeg (I2 k 3) → (∀ I4 : wI, I4 = wU I3 k 8 ((I3 k 8) + (1 : Int32)) → (∀ I5 : wI, I5 = wU I4 k 9 (0 : Int32) → (Q (1 : Int32) I5))))))) ∧ ((¬ ((I k 8) < (4 : Int32))) → (v_X4_takesOpening_15 k x1 Q   I))))
def v_X5_opposite_16 (x0 : Int32) (I : wI) (Q : Int32 → Prop) (t0 : Int32) (t1 : Int32) : Prop :=
  (pre_X5_moveOf t1 t0 I) ∧ (∀ r1 : Int32, (post_X5_moveOf t1 t0 I r1) → (Q r1))
def v_X5_opposite (x0 : Int32) (I : wI) (Q : Int32 → Prop) : Prop :=
  (pre_X5_keyOf x0 I) ∧ (∀ r1 : Int32, (post_X5_keyOf x0 I r1) → ((pre_X5_isBack x0 I) ∧ (∀ r2 : Int32, (post_X5_isBack x0 I r2) → (((¬ r2 = 0) → (v_X5_opposite_16 x0 I Q  (0 : Int32) r1)) ∧ ((r2 = 0) → (v_X5_opposite_16 x0 I Q  (1 : Int32) r1))))))
def v_X4_addOpposite_87 (k : Nat) (x1 : Int32) (x2 : Int32) (x3 : Int32) (Q : wI → Prop) (v4 : Int32) (I : wI) : Prop :=
  ∀ I1 : wI, I1 = wU I k 3 v4 → (Q I1)
def g_X4_addOpposite_52 (k : Nat) (x1 : Int32) (x2 : Int32) (x3 : Int32) (Q : wI → Prop) (K52 : Int32 → Int32 → wI → Prop) (v4 : Int32) (v5 : Int32) (I : wI) : Prop :=
  ((v5 < x2) → (v_X4_addOpposite_87 k x1 x2 x3 Q  v4 I)) ∧ ((¬ (v5 < x2)) → ((((500 : Int32) ≤ (I k 3)) → (v_X4_addOpposite_87 k x1 x2 x3 Q  v4 I)) ∧ ((¬ ((500 : Int32) ≤ (I k 3))) → ((pre_X4_moveAt k v5 I) ∧ (∀ r1 : Int32, (post_X4_moveAt k v5 I r1) → ((pre_X5_opposite r1 I) ∧ (∀ r2 : Int32, (post_X5_opposite r1 I r2) → ((pre_X4_addMove k r2 I) ∧ (∀ I3 : wI, (post_X4_addMove k r2 I I3) → (K52 v4 (v5 + (-1 : Int32)) I3))))))))))
def v_X4_addOpposite_52 (k : Nat) (x1 : Int32) (x2 : Int32) (x3 : Int32) (Q : wI → Prop) : Nat → Int32 → Int32 → wI → Prop
  | 0 => fun _ _ _ => False
  | f + 1 => g_X4_addOpposite_52 k x1 x2 x3 Q (v_X4_addOpposite_52 k x1 x2 x3 Q f)
def v_X4_addOpposite_47 (k : Nat) (x1 : Int32) (x2 : Int32) (x3 : Int32) (Q : wI → Prop) (v4 : Int32) (I : wI) : Prop :=
  ∃ f : Nat, v_X4_addOpposite_52 k x1 x2 x3 Q  f v4 (x3 - (1 : Int32)) I
def g_X4_addOpposite_12 (k : Nat) (x1 : Int32) (x2 : Int32) (x3 : Int32) (Q : wI → Prop) (K12 : Int32 → Int32 → wI → Prop) (v4 : Int32) (v5 : Int32) (I : wI) : Prop :=
  ((v5 < x1) → (v_X4_addOpposite_47 k x1 x2 x3 Q  v4 I)) ∧ ((¬ (v5 < x1)) → ((((500 : Int32) ≤ (I k 3)) → (v_X4_addOpposite_47 k x1 x2 x3 Q  v4 I)) ∧ ((¬ ((500 : Int32) ≤ (I k 3))) → ((pre_X4_moveAt k v5 I) ∧ (∀ r1 : Int32, (post_X4_moveAt k v5 I r1) → ((pre_X5_opposite r1 I) ∧ (∀ r2 : Int32, (post_X5_opposite r1 I r2) → ((pre_X4_addMove k r2 I) ∧ (∀ I3 : wI, (post_X4_addMove k r2 I I3) → (K12 v4 (v5 + (-1 : Int32)) I3))))))))))
def v_X4_addOpposite_12 (k : Nat) (x1 : Int32) (x2 : Int32) (x3 : Int32) (Q : wI → Prop) : Nat → Int32 → Int32 → wI → Prop
  | 0 => fun _ _ _ => False
  | f + 1 => g_X4_addOpposite_12 k x1 x2 x3 Q (v_X4_addOpposite_12 k x1 x2 x3 Q f)
def v_X4_addOpposite (k : Nat) (x1 : Int32) (x2 : Int32) (x3 : Int32) (I : wI) (Q : wI → Prop) : Prop :=
  ∃ f : Nat, v_X4_addOpposite_12 k x1 x2 x3 Q  f ((x3 + x3) - x1) (x2 - (1 : Int32)) I
def v_X4_takesInBracket_123 (k : Nat) (x1 : Int32) (Q : Int32 → wI → Prop)  (I : wI) : Prop :=
  Q (0 : Int32) I
def v_X4_takesInBracket_80 (k : Nat) (x1 : Int32) (Q : Int32 → wI → Prop) (v2 : Int32) (I : wI) : Prop :=
  vp_in v2 4 ∧ (((¬ (I (k + 3) (v2).toNatClampNeg) = (2 : Int32)) → (v_X4_takesInBracket_123 k x1 Q   I)) ∧ (((I (k + 3) (v2).toNatClampNeg) = (2 : Int32)) → (((¬ x1 = (93 : Int32)) → (v_X4_takesInBracket_123 k x1 Q   I)) ∧ ((x1 = (93 : Int32)) → (∀ I1 : wI, I1 = wU I k 8 v2 → (vp_in v2 4 ∧ (vp_in v2 4 ∧ ((pre_X4_addOpposite k (I1 (k + 4) (v2).toNatClampNeg) (I1 (k + 5) (v2).toNatClampNeg) (I1 k 3) I1) ∧ (∀ I2 : wI, (post_X4_addOpposite k (I1 (k + 4) (v2).toNatClampNeg) (I1 (k + 5) (v2).toNatClampNeg) (I1 k 3) I1 I2) → (Q (1 : Int32) I2))))))))))
def v_X4_takesInBracket_40 (k : Nat) (x1 : Int32) (Q : Int32 → wI → Prop) (v2 : Int32) (I : wI) : Prop :=
  vp_in v2 4 ∧ (((¬ (I (k + 3) (v2).toNatClampNeg) = (1 : Int32)) → (v_X4_takesInBracket_80 k x1 Q  v2 I)) ∧ (((I (k + 3) (v2).toNatClampNeg) = (1 : Int32)) → (((¬ x1 = (44 : Int32)) → (v_X4_takesInBracket_80 k x1 Q  v2 I)) ∧ ((x1 = (44 : Int32)) → (vp_in v2 4 ∧ ∀ I1 : wI, I1 = wU I (k + 3) (v2).toNatClampNeg (2 : Int32) → (vp_in v2 4 ∧ ∀ I2 : wI, I2 = wU I1 (k + 5) (v2).toNatClampNeg (I1 k 3) → (∀ I3 : wI, I3 = wU I2 k 9 (0 : Int32) → (Q (1 : Int32) I3))))))))
def v_X4_takesInBracket_16 (k : Nat) (x1 : Int32) (Q : Int32 → wI → Prop)  (I : wI) : Prop :=
  Q (0 : Int32) I
def v_X4_takesInBracket (k : Nat) (x1 : Int32) (I : wI) (Q : Int32 → wI → Prop) : Prop :=
  ((((I k 8) - (1 : Int32)) < 0) → (v_X4_takesInBracket_16 k x1 Q   I)) ∧ ((¬ (((I k 8) - (1 : Int32)) < 0)) → (((((I k 8) - (1 : Int32)) < (4 : Int32)) → (vp_in ((I k 8) - (1 : Int32)) 4 ∧ (((¬ (I (k + 3) (((I k 8) - (1 : Int32))).toNatClampNeg) = 0) → (v_X4_takesInBracket_40 k x1 Q  ((I k 8) - (1 : Int32)) I)) ∧ (((I (k + 3) (((I k 8) - (1 : Int32))).toNatClampNeg) = 0) → (((¬ x1 = (41 : Int32)) → (v_X4_takesInBracket_40 k x1 Q  ((I k 8) - (1 : Int32)) I)) ∧ ((x1 = (41 : Int32)) → (∀ I1 : wI, I1 = wU I k 10 (1 : Int32) → (Q (1 : Int32) I1)))))))) ∧ ((¬ (((I k 8) - (1 : Int32)) < (4 : Int32))) → (v_X4_takesInBracket_16 k x1 Q   I))))
def v_X4_takes_107 (k : Nat) (x1 : Int32) (Q : Int32 → wI → Prop) (t0 : Int32) (I : wI) : Prop :=
  (t0 = 0 ∨ t0 = 1) ∧ Q t0 I
def v_X4_takes_106 (k : Nat) (x1 : Int32) (Q : Int32 → wI → Prop)  (I : wI) : Prop :=
  v_X4_takes_107 k x1 Q  (0 : Int32) I
def v_X4_takes_63 (k : Nat) (x1 : Int32) (Q : Int32 → wI → Prop)  (I : wI) : Prop :=
  ((¬ x1 = (40 : Int32)) → (((¬ x1 = (91 : Int32)) → ((((I k 9) = 0) → (v_X4_takes_106 k x1 Q   I)) ∧ ((¬ ((I k 9) = 0)) → ((pre_X4_takesInBracket k x1 I) ∧ (∀ r1 : Int32, ∀ I2 : wI, (post_X4_takesInBracket k x1 I r1 I2) → (((r1 = 0) → (v_X4_takes_106 k x1 Q   I2)) ∧ ((¬ (r1 = 0)) → (v_X4_takes_107 k x1 Q  (1 : Int32) I2)))))))) ∧ ((x1 = (91 : Int32)) → ((pre_X4_takesOpening k (1 : Int32) I) ∧ (∀ r3 : Int32, ∀ I4 : wI, (post_X4_takesOpening k (1 : Int32) I r3 I4) → ((r3 = 0 ∨ r3 = 1) ∧ Q r3 I4)))))) ∧ ((x1 = (40 : Int32)) → ((pre_X4_takesOpening k (0 : Int32) I) ∧ (∀ r5 : Int32, ∀ I6 : wI, (post_X4_takesOpening k (0 : Int32) I r5 I6) → ((r5 = 0 ∨ r5 = 1) ∧ Q r5 I6))))
def v_X4_takes_38 (k : Nat) (x1 : Int32) (Q : Int32 → wI → Prop)  (I : wI) : Prop :=
  ((x1 < (65 : Int32)) → (v_X4_takes_63 k x1 Q   I)) ∧ ((¬ (x1 < (65 : Int32))) → ((((69 : Int32) < x1) → (v_X4_takes_63 k x1 Q   I)) ∧ ((¬ ((69 : Int32) < x1)) → ((pre_X5_moveOf (x1 - (65 : Int32)) (1 : Int32) I) ∧ (∀ r1 : Int32, (post_X5_moveOf (x1 - (65 : Int32)) (1 : Int32) I r1) → ((pre_X4_takesMove k r1 I) ∧ (∀ r2 : Int32, ∀ I3 : wI, (post_X4_takesMove k r1 I r2 I3) → ((r2 = 0 ∨ r2 = 1) ∧ Q r2 I3))))))))
def v_X4_takes (k : Nat) (x1 : Int32) (I : wI) (Q : Int32 → wI → Prop) : Prop :=
  (((I k 10) = 0) → (((x1 < (97 : Int32)) → (v_X4_takes_38 k x1 Q   I)) ∧ ((¬ (x1 < (97 : Int32))) → ((((101 : Int32) < x1) → (v_X4_takes_38 k x1 Q   I)) ∧ ((¬ ((101 : Int32) < x1)) → ((pre_X5_moveOf (x1 - (97 : Int32)) (0 : Int32) I) ∧ (∀ r1 : Int32, (post_X5_moveOf (x1 - (97 : Int32)) (0 : Int32) I r1) → ((pre_X4_takesMove k r1 I) ∧ (∀ r2 : Int32, ∀ I3 : wI, (post_X4_takesMove k r1 I r2 I3) → ((r2 = 0 ∨ r2 = 1) ∧ Q r2 I3)))))))))) ∧ ((¬ ((I k 10) = 0)) → ((pre_X4_takesFigure k x1 I) ∧ (∀ r4 : Int32, ∀ I5 : wI, (post_X4_takesFigure k x1 I r4 I5) → ((r4 = 0 ∨ r4 = 1) ∧ Q r4 I5))))
def v_X4_read_83 (k : Nat) (Q : Int32 → wI → Prop) (v1 : Int32) (t0 : Int32) (I : wI) : Prop :=
  (t0 = 0 ∨ t0 = 1) ∧ (∀ I1 : wI, I1 = wU I k 4 t0 → (Q v1 I1))
def v_X4_read_82 (k : Nat) (Q : Int32 → wI → Prop) (v1 : Int32) (I : wI) : Prop :=
  v_X4_read_83 k Q  v1 (0 : Int32) I
def v_X4_read_48 (k : Nat) (Q : Int32 → wI → Prop) (v1 : Int32) (I : wI) : Prop :=
  ((¬ v1 = (I k 1)) → (v_X4_read_82 k Q  v1 I)) ∧ ((v1 = (I k 1)) → (((¬ (I k 8) = 0) → (v_X4_read_82 k Q  v1 I)) ∧ (((I k 8) = 0) → ((((I k 9) = 0) → (v_X4_read_82 k Q  v1 I)) ∧ ((¬ ((I k 9) = 0)) → (((¬ (I k 10) = 0) → (v_X4_read_82 k Q  v1 I)) ∧ (((I k 10) = 0) → (v_X4_read_83 k Q  v1 (1 : Int32) I))))))))
def g_X4_read_22 (k : Nat) (Q : Int32 → wI → Prop) (K22 : Int32 → wI → Prop) (v1 : Int32) (I : wI) : Prop :=
  (((I k 1) ≤ v1) → (v_X4_read_48 k Q  v1 I)) ∧ ((¬ ((I k 1) ≤ v1)) → ((pre_X4_signAt k v1 I) ∧ (∀ r1 : Int32, (post_X4_signAt k v1 I r1) → ((pre_X4_takes k r1 I) ∧ (∀ r2 : Int32, ∀ I3 : wI, (post_X4_takes k r1 I r2 I3) → (((r2 = 0) → (v_X4_read_48 k Q  v1 I3)) ∧ ((¬ (r2 = 0)) → (K22 (v1 + (1 : Int32)) I3))))))))
def v_X4_read_22 (k : Nat) (Q : Int32 → wI → Prop) : Nat → Int32 → wI → Prop
  | 0 => fun _ _ => False
  | f + 1 => g_X4_read_22 k Q (v_X4_read_22 k Q f)
def v_X4_read (k : Nat) (I : wI) (Q : Int32 → wI → Prop) : Prop :=
  ∀ I1 : wI, I1 = wU I k 3 (0 : Int32) → (∀ I2 : wI, I2 = wU I1 k 8 (0 : Int32) → (∀ I3 : wI, I3 = wU I2 k 9 (0 : Int32) → (∀ I4 : wI, I4 = wU I3 k 10 (0 : Int32) → (∃ f : Nat, v_X4_read_22 k Q  f (0 : Int32) I4))))
def v_X5_word_107  (Q : Int32 → wI → Prop) (v1 : Int32) (I : wI) : Prop :=
  ∀ I1 : wI, I1 = wU I 24 1 (0 : Int32) → (Q v1 I1)
def g_X5_word_57  (Q : Int32 → wI → Prop) (K57 : Int32 → wI → Prop) (v1 : Int32) (I : wI) : Prop :=
  (((I 24 3) ≤ v1) → (v_X5_word_107  Q  v1 I)) ∧ ((¬ ((I 24 3) ≤ v1)) → ((pre_X4_moveAt 24 v1 I) ∧ (∀ r1 : Int32, (post_X4_moveAt 24 v1 I r1) → ((pre_X3_allows 1 r1 I) ∧ (∀ r2 : Int32, (post_X3_allows 1 r1 I r2) → (((r2 = 0) → (v_X5_word_107  Q  v1 I)) ∧ ((¬ (r2 = 0)) → ((pre_X4_moveAt 24 v1 I) ∧ (∀ r3 : Int32, (post_X4_moveAt 24 v1 I r3) → ((pre_X3_doMove 1 r3 I) ∧ (∀ I4 : wI, (post_X3_doMove 1 r3 I I4) → (K57 (v1 + (1 : Int32)) I4))))))))))))
def v_X5_word_57  (Q : Int32 → wI → Prop) : Nat → Int32 → wI → Prop
  | 0 => fun _ _ => False
  | f + 1 => g_X5_word_57 Q (v_X5_word_57 Q f)
def v_X5_word  (I : wI) (Q : Int32 → wI → Prop) : Prop :=
  (pre_X4_read 24 I) ∧ (∀ r1 : Int32, ∀ I2 : wI, (post_X4_read 24 I r1 I2) → (((¬ (I2 24 4) = 0) → ((((I2 24 3) ≤ (500 : Int32)) → ((pre_X5_save  I2) ∧ (∀ I3 : wI, (post_X5_save  I2 I3) → (∃ f : Nat, v_X5_word_57  Q  f (0 : Int32) I3)))) ∧ ((¬ ((I2 24 3) ≤ (500 : Int32))) → (False)))) ∧ (((I2 24 4) = 0) → (False))))
def v_X5_wordx_107  (X : String → wI → Prop) (v1 : Int32) (I : wI) : Prop :=
  ∀ I1 : wI, I1 = wU I 24 1 (0 : Int32) → (False)
def g_X5_wordx_57  (X : String → wI → Prop) (K57 : Int32 → wI → Prop) (v1 : Int32) (I : wI) : Prop :=
  (((I 24 3) ≤ v1) → (v_X5_wordx_107  X  v1 I)) ∧ ((¬ ((I 24 3) ≤ v1)) → ((pre_X4_moveAt 24 v1 I) ∧ (∀ r1 : Int32, (post_X4_moveAt 24 v1 I r1) → ((pre_X3_allows 1 r1 I) ∧ (∀ r2 : Int32, (post_X3_allows 1 r1 I r2) → (((r2 = 0) → (v_X5_wordx_107  X  v1 I)) ∧ ((¬ (r2 = 0)) → ((pre_X4_moveAt 24 v1 I) ∧ (∀ r3 : Int32, (post_X4_moveAt 24 v1 I r3) → ((pre_X3_doMove 1 r3 I) ∧ (∀ I4 : wI, (post_X3_doMove 1 r3 I I4) → (K57 (v1 + (1 : Int32)) I4))))))))))))
def v_X5_wordx_57  (X : String → wI → Prop) : Nat → Int32 → wI → Prop
  | 0 => fun _ _ => False
  | f + 1 => g_X5_wordx_57 X (v_X5_wordx_57 X f)
def v_X5_wordx  (I : wI) (X : String → wI → Prop) : Prop :=
  (pre_X4_read 24 I) ∧ (∀ r1 : Int32, ∀ I2 : wI, (post_X4_read 24 I r1 I2) → (((¬ (I2 24 4) = 0) → ((((I2 24 3) ≤ (500 : Int32)) → ((pre_X5_save  I2) ∧ (∀ I3 : wI, (post_X5_save  I2 I3) → (∃ f : Nat, v_X5_wordx_57  X  f (0 : Int32) I3)))) ∧ ((¬ ((I2 24 3) ≤ (500 : Int32))) → (X "java/lang/IllegalStateException" I2)))) ∧ (((I2 24 4) = 0) → (X "java/lang/IllegalArgumentException" I2))))
def v_X0_reach_35 (k : Nat) (I : wI) (Q : Int32 → Prop) (K4 : Int32 → Int32 → Prop) (v1 : Int32) (v2 : Int32) : Prop :=
  K4 v1 (v2 + (1 : Int32))
def v_X0_reach_29 (k : Nat) (I : wI) (Q : Int32 → Prop) (K4 : Int32 → Int32 → Prop) (v1 : Int32) (v2 : Int32) : Prop :=
  v_X0_reach_35 k I Q K4 (v1 ||| ((1 : Int32) <<< (v2 &&& 31))) v2
def g_X0_reach_4 (k : Nat) (I : wI) (Q : Int32 → Prop) (K4 : Int32 → Int32 → Prop) (v1 : Int32) (v2 : Int32) : Prop :=
  (((6 : Int32) ≤ v2) → (Q v1)) ∧ ((¬ ((6 : Int32) ≤ v2)) → (vp_in v2 6 ∧ (((¬ (I (k + 1) (v2).toNatClampNeg) = v2) → (v_X0_reach_29 k I Q K4 v1 v2)) ∧ (((I (k + 1) (v2).toNatClampNeg) = v2) → (vp_in v2 6 ∧ ((((I (k + 2) (v2).toNatClampNeg) = 0) → (v_X0_reach_35 k I Q K4 v1 v2)) ∧ ((¬ ((I (k + 2) (v2).toNatClampNeg) = 0)) → (v_X0_reach_29 k I Q K4 v1 v2))))))))
def v_X0_reach_4 (k : Nat) (I : wI) (Q : Int32 → Prop) : Nat → Int32 → Int32 → Prop
  | 0 => fun _ _ => False
  | f + 1 => g_X0_reach_4 k I Q (v_X0_reach_4 k I Q f)
def v_X0_reach (k : Nat) (I : wI) (Q : Int32 → Prop) : Prop :=
  ∃ f : Nat, v_X0_reach_4 k I Q  f (0 : Int32) (0 : Int32)
def g_X0_bringHome_2 (k : Nat) (Q : wI → Prop) (K2 : Int32 → wI → Prop) (v1 : Int32) (I : wI) : Prop :=
  (((6 : Int32) ≤ v1) → (Q I)) ∧ ((¬ ((6 : Int32) ≤ v1)) → (vp_in v1 6 ∧ ∀ I1 : wI, I1 = wU I (k + 1) (v1).toNatClampNeg v1 → (vp_in v1 6 ∧ ∀ I2 : wI, I2 = wU I1 (k + 2) (v1).toNatClampNeg (0 : Int32) → (K2 (v1 + (1 : Int32)) I2))))
def v_X0_bringHome_2 (k : Nat) (Q : wI → Prop) : Nat → Int32 → wI → Prop
  | 0 => fun _ _ => False
  | f + 1 => g_X0_bringHome_2 k Q (v_X0_bringHome_2 k Q f)
def v_X0_bringHome (k : Nat) (I : wI) (Q : wI → Prop) : Prop :=
  ∃ f : Nat, v_X0_bringHome_2 k Q  f (0 : Int32) I
def v_X5_home  (I : wI) (Q : Int32 → wI → Prop) : Prop :=
  (pre_X5_save  I) ∧ (∀ I1 : wI, (post_X5_save  I I1) → ((pre_X0_reach 2 I1) ∧ (∀ r2 : Int32, (post_X0_reach 2 I1 r2) → ((pre_J_bitCount r2 I1) ∧ (∀ r3 : Int32, (post_J_bitCount r2 I1 r3) → ((pre_X0_bringHome 2 I1) ∧ (∀ I4 : wI, (post_X0_bringHome 2 I1 I4) → (∀ I5 : wI, I5 = wU I4 1 7 (0 : Int32) → (Q r3 I5)))))))))
def v_X5_isKeyMask_23 (x0 : Int32) (I : wI) (Q : Int32 → Prop) (t0 : Int32) : Prop :=
  (t0 = 0 ∨ t0 = 1) ∧ Q t0
def v_X5_isKeyMask_22 (x0 : Int32) (I : wI) (Q : Int32 → Prop)  : Prop :=
  v_X5_isKeyMask_23 x0 I Q  (0 : Int32)
def v_X5_isKeyMask (x0 : Int32) (I : wI) (Q : Int32 → Prop) : Prop :=
  ((x0 < 0) → (v_X5_isKeyMask_22 x0 I Q  )) ∧ ((¬ (x0 < 0)) → ((((64 : Int32) ≤ x0) → (v_X5_isKeyMask_22 x0 I Q  )) ∧ ((¬ ((64 : Int32) ≤ x0)) → ((pre_J_bitCount x0 I) ∧ (∀ r1 : Int32, (post_J_bitCount x0 I r1) → (((r1 < (2 : Int32)) → (v_X5_isKeyMask_22 x0 I Q  )) ∧ ((¬ (r1 < (2 : Int32))) → (v_X5_isKeyMask_23 x0 I Q  (1 : Int32)))))))))
def v_X1_shape_23 (k : Nat) (x1 : Int32) (x2 : Int32) (x3 : Int32) (Q : wI → Prop)  (I : wI) : Prop :=
  Q I
def v_X1_shape (k : Nat) (x1 : Int32) (x2 : Int32) (x3 : Int32) (I : wI) (Q : wI → Prop) : Prop :=
  ((x1 < 0) → (v_X1_shape_23 k x1 x2 x3 Q   I)) ∧ ((¬ (x1 < 0)) → ((((5 : Int32) ≤ x1) → (v_X1_shape_23 k x1 x2 x3 Q   I)) ∧ ((¬ ((5 : Int32) ≤ x1)) → (vp_in x1 5 ∧ ∀ I1 : wI, I1 = wU I (k + 1) (x1).toNatClampNeg x2 → (vp_in x1 5 ∧ ∀ I2 : wI, I2 = wU I1 (k + 2) (x1).toNatClampNeg x3 → (v_X1_shape_23 k x1 x2 x3 Q   I2))))))
def v_X5_cut_20 (x1 : Int32) (x2 : Int32) (x3 : Int32) (Q : Int32 → wI → Prop)  (I : wI) : Prop :=
  False
def v_X5_cut (x1 : Int32) (x2 : Int32) (x3 : Int32) (I : wI) (Q : Int32 → wI → Prop) : Prop :=
  (pre_X5_requireKey x1 I) ∧ ((post_X5_requireKey x1 I) → ((pre_X5_isKeyMask x2 I) ∧ (∀ r1 : Int32, (post_X5_isKeyMask x2 I r1) → (((r1 = 0) → (v_X5_cut_20 x1 x2 x3 Q   I)) ∧ ((¬ (r1 = 0)) → (((x3 < 0) → (v_X5_cut_20 x1 x2 x3 Q   I)) ∧ ((¬ (x3 < 0)) → (((x3 < (5 : Int32)) → ((pre_X5_save  I) ∧ (∀ I2 : wI, (post_X5_save  I I2) → ((pre_X1_maskOf 5 x1 I2) ∧ (∀ r3 : Int32, (post_X1_maskOf 5 x1 I2 r3) → ((pre_X1_shape 5 x1 x2 x3 I2) ∧ (∀ I4 : wI, (post_X1_shape 5 x1 x2 x3 I2 I4) → (Q r3 I4)))))))) ∧ ((¬ (x3 < (5 : Int32))) → (v_X5_cut_20 x1 x2 x3 Q   I))))))))))
def v_X5_cutx_20 (x1 : Int32) (x2 : Int32) (x3 : Int32) (X : String → wI → Prop)  (I : wI) : Prop :=
  X "java/lang/IllegalArgumentException" I
def v_X5_cutx (x1 : Int32) (x2 : Int32) (x3 : Int32) (I : wI) (X : String → wI → Prop) : Prop :=
  ((ok_X5_requireKey x1 I) → ((pre_X5_requireKey x1 I) ∧ ((post_X5_requireKey x1 I) → ((pre_X5_isKeyMask x2 I) ∧ (∀ r1 : Int32, (post_X5_isKeyMask x2 I r1) → (((r1 = 0) → (v_X5_cutx_20 x1 x2 x3 X   I)) ∧ ((¬ (r1 = 0)) → (((x3 < 0) → (v_X5_cutx_20 x1 x2 x3 X   I)) ∧ ((¬ (x3 < 0)) → (((x3 < (5 : Int32)) → ((pre_X5_save  I) ∧ (∀ I2 : wI, (post_X5_save  I I2) → ((pre_X1_maskOf 5 x1 I2) ∧ (∀ r3 : Int32, (post_X1_maskOf 5 x1 I2 r3) → ((pre_X1_shape 5 x1 x2 x3 I2) ∧ (∀ I4 : wI, (post_X1_shape 5 x1 x2 x3 I2 I4) → (False)))))))) ∧ ((¬ (x3 < (5 : Int32))) → (v_X5_cutx_20 x1 x2 x3 X   I)))))))))))) ∧ ((¬ (ok_X5_requireKey x1 I)) → ((pre_X5_requireKeyx x1 I) ∧ (∀ E : String, (exc_X5_requireKey x1 I E) → X E I)))
def v_X5_requirePosition_10 (x0 : Int32) (I : wI) (Q : Prop)  : Prop :=
  False
def v_X5_requirePosition (x0 : Int32) (I : wI) (Q : Prop) : Prop :=
  ((x0 < 0) → (v_X5_requirePosition_10 x0 I Q  )) ∧ ((¬ (x0 < 0)) → (((x0 < (6 : Int32)) → (Q)) ∧ ((¬ (x0 < (6 : Int32))) → (v_X5_requirePosition_10 x0 I Q  ))))
def v_X5_requirePositionx_10 (x0 : Int32) (I : wI) (X : String → Prop)  : Prop :=
  X "java/lang/IndexOutOfBoundsException"
def v_X5_requirePositionx (x0 : Int32) (I : wI) (X : String → Prop) : Prop :=
  ((x0 < 0) → (v_X5_requirePositionx_10 x0 I X  )) ∧ ((¬ (x0 < 0)) → (((x0 < (6 : Int32)) → (False)) ∧ ((¬ (x0 < (6 : Int32))) → (v_X5_requirePositionx_10 x0 I X  ))))
def v_X3_stuckKeys_20 (k : Nat) (I : wI) (Q : Int32 → Prop) (K4 : Int32 → Int32 → Prop) (v1 : Int32) (v2 : Int32) : Prop :=
  K4 v1 (v2 + (1 : Int32))
def g_X3_stuckKeys_4 (k : Nat) (I : wI) (Q : Int32 → Prop) (K4 : Int32 → Int32 → Prop) (v1 : Int32) (v2 : Int32) : Prop :=
  (((5 : Int32) ≤ v2) → (Q v1)) ∧ ((¬ ((5 : Int32) ≤ v2)) → ((pre_X3_allows k v2 I) ∧ (∀ r1 : Int32, (post_X3_allows k v2 I r1) → (((¬ r1 = 0) → (v_X3_stuckKeys_20 k I Q K4 v1 v2)) ∧ ((r1 = 0) → (v_X3_stuckKeys_20 k I Q K4 (v1 + (1 : Int32)) v2))))))
def v_X3_stuckKeys_4 (k : Nat) (I : wI) (Q : Int32 → Prop) : Nat → Int32 → Int32 → Prop
  | 0 => fun _ _ => False
  | f + 1 => g_X3_stuckKeys_4 k I Q (v_X3_stuckKeys_4 k I Q f)
def v_X3_stuckKeys (k : Nat) (I : wI) (Q : Int32 → Prop) : Prop :=
  ∃ f : Nat, v_X3_stuckKeys_4 k I Q  f (0 : Int32) (0 : Int32)
def v_X5_stick (x1 : Int32) (I : wI) (Q : Int32 → wI → Prop) : Prop :=
  (pre_X5_requirePosition x1 I) ∧ ((post_X5_requirePosition x1 I) → ((pre_X5_save  I) ∧ (∀ I1 : wI, (post_X5_save  I I1) → (∀ I2 : wI, I2 = wU I1 1 4 ((I1 1 4) ^^^ ((1 : Int32) <<< (x1 &&& 31))) → ((pre_X3_stuckKeys 1 I2) ∧ (∀ r3 : Int32, (post_X3_stuckKeys 1 I2 r3) → (Q r3 I2)))))))
def v_X5_stickx (x1 : Int32) (I : wI) (X : String → wI → Prop) : Prop :=
  ((ok_X5_requirePosition x1 I) → ((pre_X5_requirePosition x1 I) ∧ ((post_X5_requirePosition x1 I) → ((pre_X5_save  I) ∧ (∀ I1 : wI, (post_X5_save  I I1) → (∀ I2 : wI, I2 = wU I1 1 4 ((I1 1 4) ^^^ ((1 : Int32) <<< (x1 &&& 31))) → ((pre_X3_stuckKeys 1 I2) ∧ (∀ r3 : Int32, (post_X3_stuckKeys 1 I2 r3) → (False))))))))) ∧ ((¬ (ok_X5_requirePosition x1 I)) → ((pre_X5_requirePositionx x1 I) ∧ (∀ E : String, (exc_X5_requirePosition x1 I E) → X E I)))
def g_X0_notchSum_4 (k : Nat) (I : wI) (Q : Int32 → Prop) (K4 : Int32 → Int32 → Prop) (v1 : Int32) (v2 : Int32) : Prop :=
  (((6 : Int32) ≤ v2) → (Q v1)) ∧ ((¬ ((6 : Int32) ≤ v2)) → (vp_in v2 6 ∧ (K4 (v1 + (I (k + 2) (v2).toNatClampNeg)) (v2 + (1 : Int32)))))
def v_X0_notchSum_4 (k : Nat) (I : wI) (Q : Int32 → Prop) : Nat → Int32 → Int32 → Prop
  | 0 => fun _ _ => False
  | f + 1 => g_X0_notchSum_4 k I Q (v_X0_notchSum_4 k I Q f)
def v_X0_notchSum (k : Nat) (I : wI) (Q : Int32 → Prop) : Prop :=
  ∃ f : Nat, v_X0_notchSum_4 k I Q  f (0 : Int32) (0 : Int32)
def v_X5_learn  (I : wI) (Q : Int32 → wI → Prop) : Prop :=
  (pre_X5_save  I) ∧ (∀ I1 : wI, (post_X5_save  I I1) → ((pre_X0_copyFrom 8 2 I1) ∧ (∀ I2 : wI, (post_X0_copyFrom 8 2 I1 I2) → (∀ I3 : wI, I3 = wU I2 1 3 (1 : Int32) → ((pre_X0_notchSum 2 I3) ∧ (∀ r4 : Int32, (post_X0_notchSum 2 I3 r4) → (Q r4 I3)))))))
def v_X4_addSign_36 (k : Nat) (x1 : Int32) (Q : wI → Prop)  (I : wI) : Prop :=
  Q I
def v_X4_addSign (k : Nat) (x1 : Int32) (I : wI) (Q : wI → Prop) : Prop :=
  (((I k 1) < 0) → (v_X4_addSign_36 k x1 Q   I)) ∧ ((¬ ((I k 1) < 0)) → ((((60 : Int32) ≤ (I k 1)) → (v_X4_addSign_36 k x1 Q   I)) ∧ ((¬ ((60 : Int32) ≤ (I k 1))) → (vp_in (I k 1) 60 ∧ ∀ I1 : wI, I1 = wU I (k + 1) ((I k 1)).toNatClampNeg (vp_nar .char x1) → (∀ I2 : wI, I2 = wU I1 k 1 ((I1 k 1) + (1 : Int32)) → (v_X4_addSign_36 k x1 Q   I2))))))
def v_X5_append_12 (x1 : Int32) (Q : Int32 → wI → Prop)  (I : wI) : Prop :=
  False
def v_X5_append (x1 : Int32) (I : wI) (Q : Int32 → wI → Prop) : Prop :=
  ((x1 < (33 : Int32)) → (v_X5_append_12 x1 Q   I)) ∧ ((¬ (x1 < (33 : Int32))) → (((x1 ≤ (126 : Int32)) → ((((I 24 1) < (60 : Int32)) → ((pre_X4_addSign 24 ((x1).toUInt32 % 65536).toInt32 I) ∧ (∀ I1 : wI, (post_X4_addSign 24 ((x1).toUInt32 % 65536).toInt32 I I1) → (Q (I1 24 1) I1)))) ∧ ((¬ ((I 24 1) < (60 : Int32))) → (False)))) ∧ ((¬ (x1 ≤ (126 : Int32))) → (v_X5_append_12 x1 Q   I))))
def v_X5_appendx_12 (x1 : Int32) (X : String → wI → Prop)  (I : wI) : Prop :=
  X "java/lang/IllegalArgumentException" I
def v_X5_appendx (x1 : Int32) (I : wI) (X : String → wI → Prop) : Prop :=
  ((x1 < (33 : Int32)) → (v_X5_appendx_12 x1 X   I)) ∧ ((¬ (x1 < (33 : Int32))) → (((x1 ≤ (126 : Int32)) → ((((I 24 1) < (60 : Int32)) → ((pre_X4_addSign 24 ((x1).toUInt32 % 65536).toInt32 I) ∧ (∀ I1 : wI, (post_X4_addSign 24 ((x1).toUInt32 % 65536).toInt32 I I1) → (False)))) ∧ ((¬ ((I 24 1) < (60 : Int32))) → (X "java/lang/IllegalStateException" I)))) ∧ ((¬ (x1 ≤ (126 : Int32))) → (v_X5_appendx_12 x1 X   I))))
def v_X5_clearBuffer  (I : wI) (Q : Int32 → wI → Prop) : Prop :=
  ∀ I1 : wI, I1 = wU I 24 1 (0 : Int32) → (Q (I 24 1) I1)
def v_X5_firstError  (I : wI) (Q : Int32 → wI → Prop) : Prop :=
  (pre_X4_read 24 I) ∧ (∀ r1 : Int32, ∀ I2 : wI, (post_X4_read 24 I r1 I2) → (Q r1 I2))
def v_X5_keep  (I : wI) (Q : Int32 → wI → Prop) : Prop :=
  (pre_X3_copyFrom 12 1 I) ∧ (∀ I1 : wI, (post_X3_copyFrom 12 1 I I1) → (∀ I2 : wI, I2 = wU I1 0 2 (1 : Int32) → (Q (I2 1 6) I2)))
def v_X5_goBack  (I : wI) (Q : Int32 → wI → Prop) : Prop :=
  ((¬ (I 0 2) = 0) → ((pre_X5_save  I) ∧ (∀ I1 : wI, (post_X5_save  I I1) → ((pre_X3_copyFrom 1 12 I1) ∧ (∀ I2 : wI, (post_X3_copyFrom 1 12 I1 I2) → (Q (I2 1 6) I2)))))) ∧ (((I 0 2) = 0) → (False))
def v_X5_goBackx  (I : wI) (X : String → wI → Prop) : Prop :=
  ((¬ (I 0 2) = 0) → ((pre_X5_save  I) ∧ (∀ I1 : wI, (post_X5_save  I I1) → ((pre_X3_copyFrom 1 12 I1) ∧ (∀ I2 : wI, (post_X3_copyFrom 1 12 I1 I2) → (False)))))) ∧ (((I 0 2) = 0) → (X "java/lang/IllegalStateException" I))
def v_X5_undo_58  (Q : Int32 → wI → Prop)  (I : wI) : Prop :=
  Q (I 0 4) I
def v_X5_undo_16  (Q : Int32 → wI → Prop)  (I : wI) : Prop :=
  False
def v_X5_undo  (I : wI) (Q : Int32 → wI → Prop) : Prop :=
  (((I 0 4) ≤ 0) → (v_X5_undo_16  Q   I)) ∧ ((¬ ((I 0 4) ≤ 0)) → ((((I 0 4) ≤ (6 : Int32)) → (∀ I1 : wI, I1 = wU I 0 4 ((I 0 4) - (1 : Int32)) → (vp_in (I1 0 4) 6 ∧ (((I1 23 ((I1 0 4)).toNatClampNeg)).toNatClampNeg < 6 ∧ ((pre_X3_copyFrom 1 (wSv (I1 23 ((I1 0 4)).toNatClampNeg)) I1) ∧ (∀ I2 : wI, (post_X3_copyFrom 1 (wSv (I1 23 ((I1 0 4)).toNatClampNeg)) I1 I2) → (v_X5_undo_58  Q   I2))))))) ∧ ((¬ ((I 0 4) ≤ (6 : Int32))) → (v_X5_undo_16  Q   I))))
def v_X5_undox_58  (X : String → wI → Prop)  (I : wI) : Prop :=
  False
def v_X5_undox_16  (X : String → wI → Prop)  (I : wI) : Prop :=
  X "java/lang/IllegalStateException" I
def v_X5_undox  (I : wI) (X : String → wI → Prop) : Prop :=
  (((I 0 4) ≤ 0) → (v_X5_undox_16  X   I)) ∧ ((¬ ((I 0 4) ≤ 0)) → ((((I 0 4) ≤ (6 : Int32)) → (∀ I1 : wI, I1 = wU I 0 4 ((I 0 4) - (1 : Int32)) → (vp_in (I1 0 4) 6 ∧ (((I1 23 ((I1 0 4)).toNatClampNeg)).toNatClampNeg < 6 ∧ ((pre_X3_copyFrom 1 (wSv (I1 23 ((I1 0 4)).toNatClampNeg)) I1) ∧ (∀ I2 : wI, (post_X3_copyFrom 1 (wSv (I1 23 ((I1 0 4)).toNatClampNeg)) I1 I2) → (v_X5_undox_58  X   I2))))))) ∧ ((¬ ((I 0 4) ≤ (6 : Int32))) → (v_X5_undox_16  X   I))))
def v_X0_discAt_20 (k : Nat) (x1 : Int32) (I : wI) (Q : Int32 → Prop) (t0 : Int32) : Prop :=
  Q t0
def v_X0_discAt_19 (k : Nat) (x1 : Int32) (I : wI) (Q : Int32 → Prop)  : Prop :=
  v_X0_discAt_20 k x1 I Q  (-1 : Int32)
def v_X0_discAt (k : Nat) (x1 : Int32) (I : wI) (Q : Int32 → Prop) : Prop :=
  ((x1 < 0) → (v_X0_discAt_19 k x1 I Q  )) ∧ ((¬ (x1 < 0)) → ((((6 : Int32) ≤ x1) → (v_X0_discAt_19 k x1 I Q  )) ∧ ((¬ ((6 : Int32) ≤ x1)) → (vp_in x1 6 ∧ (v_X0_discAt_20 k x1 I Q  (I (k + 1) (x1).toNatClampNeg))))))
def v_X0_notchAt_20 (k : Nat) (x1 : Int32) (I : wI) (Q : Int32 → Prop) (t0 : Int32) : Prop :=
  Q t0
def v_X0_notchAt_19 (k : Nat) (x1 : Int32) (I : wI) (Q : Int32 → Prop)  : Prop :=
  v_X0_notchAt_20 k x1 I Q  (0 : Int32)
def v_X0_notchAt (k : Nat) (x1 : Int32) (I : wI) (Q : Int32 → Prop) : Prop :=
  ((x1 < 0) → (v_X0_notchAt_19 k x1 I Q  )) ∧ ((¬ (x1 < 0)) → ((((6 : Int32) ≤ x1) → (v_X0_notchAt_19 k x1 I Q  )) ∧ ((¬ ((6 : Int32) ≤ x1)) → (vp_in x1 6 ∧ (v_X0_notchAt_20 k x1 I Q  (I (k + 2) (x1).toNatClampNeg))))))
def v_X0_agreesAt_31 (k : Nat) (k1 : Nat) (x2 : Int32) (I : wI) (Q : Int32 → Prop) (t0 : Int32) : Prop :=
  (t0 = 0 ∨ t0 = 1) ∧ Q t0
def v_X0_agreesAt_30 (k : Nat) (k1 : Nat) (x2 : Int32) (I : wI) (Q : Int32 → Prop)  : Prop :=
  v_X0_agreesAt_31 k k1 x2 I Q  (0 : Int32)
def v_X0_agreesAt (k : Nat) (k1 : Nat) (x2 : Int32) (I : wI) (Q : Int32 → Prop) : Prop :=
  (pre_X0_discAt k x2 I) ∧ (∀ r1 : Int32, (post_X0_discAt k x2 I r1) → ((pre_X0_discAt k1 x2 I) ∧ (∀ r2 : Int32, (post_X0_discAt k1 x2 I r2) → (((¬ r1 = r2) → (v_X0_agreesAt_30 k k1 x2 I Q  )) ∧ ((r1 = r2) → ((pre_X0_notchAt k x2 I) ∧ (∀ r3 : Int32, (post_X0_notchAt k x2 I r3) → ((pre_X0_notchAt k1 x2 I) ∧ (∀ r4 : Int32, (post_X0_notchAt k1 x2 I r4) → (((¬ r3 = r4) → (v_X0_agreesAt_30 k k1 x2 I Q  )) ∧ ((r3 = r4) → (v_X0_agreesAt_31 k k1 x2 I Q  (1 : Int32)))))))))))))
def v_X1_keysAt_29 (k : Nat) (x1 : Int32) (I : wI) (Q : Int32 → Prop) (K4 : Int32 → Int32 → Prop) (v2 : Int32) (v3 : Int32) : Prop :=
  K4 v2 (v3 + (1 : Int32))
def g_X1_keysAt_4 (k : Nat) (x1 : Int32) (I : wI) (Q : Int32 → Prop) (K4 : Int32 → Int32 → Prop) (v2 : Int32) (v3 : Int32) : Prop :=
  (((5 : Int32) ≤ v3) → (Q v2)) ∧ ((¬ ((5 : Int32) ≤ v3)) → (vp_in v3 5 ∧ (((¬ (((I (k + 1) (v3).toNatClampNeg) >>> (x1 &&& 31)) &&& (1 : Int32)) = (1 : Int32)) → (v_X1_keysAt_29 k x1 I Q K4 v2 v3)) ∧ (((((I (k + 1) (v3).toNatClampNeg) >>> (x1 &&& 31)) &&& (1 : Int32)) = (1 : Int32)) → (v_X1_keysAt_29 k x1 I Q K4 (v2 ||| ((1 : Int32) <<< (v3 &&& 31))) v3)))))
def v_X1_keysAt_4 (k : Nat) (x1 : Int32) (I : wI) (Q : Int32 → Prop) : Nat → Int32 → Int32 → Prop
  | 0 => fun _ _ => False
  | f + 1 => g_X1_keysAt_4 k x1 I Q (v_X1_keysAt_4 k x1 I Q f)
def v_X1_keysAt (k : Nat) (x1 : Int32) (I : wI) (Q : Int32 → Prop) : Prop :=
  ∃ f : Nat, v_X1_keysAt_4 k x1 I Q  f (0 : Int32) (0 : Int32)
def v_X5_at_112 (x1 : Int32) (x2 : Int32) (I : wI) (Q : Int32 → Prop) (t0 : Int32) : Prop :=
  Q t0
def v_X5_at_111 (x1 : Int32) (x2 : Int32) (I : wI) (Q : Int32 → Prop)  : Prop :=
  v_X5_at_112 x1 x2 I Q  (0 : Int32)
def v_X5_at (x1 : Int32) (x2 : Int32) (I : wI) (Q : Int32 → Prop) : Prop :=
  (pre_X5_requirePosition x1 I) ∧ ((post_X5_requirePosition x1 I) → ((x2 = (0 : Int32) → ((pre_X0_discAt 2 x1 I) ∧ (∀ r1 : Int32, (post_X0_discAt 2 x1 I r1) → (Q r1)))) ∧ (x2 = (1 : Int32) → ((pre_X0_notchAt 2 x1 I) ∧ (∀ r2 : Int32, (post_X0_notchAt 2 x1 I r2) → (Q r2)))) ∧ (x2 = (2 : Int32) → (Q (((I 1 4) >>> (x1 &&& 31)) &&& (1 : Int32)))) ∧ (x2 = (3 : Int32) → ((((I 1 3) = 0) → (v_X5_at_111 x1 x2 I Q  )) ∧ ((¬ ((I 1 3) = 0)) → ((pre_X0_agreesAt 2 8 x1 I) ∧ (∀ r3 : Int32, (post_X0_agreesAt 2 8 x1 I r3) → (((r3 = 0) → (v_X5_at_111 x1 x2 I Q  )) ∧ ((¬ (r3 = 0)) → (v_X5_at_112 x1 x2 I Q  (1 : Int32))))))))) ∧ (x2 = (4 : Int32) → ((pre_X1_keysAt 5 x1 I) ∧ (∀ r4 : Int32, (post_X1_keysAt 5 x1 I r4) → (Q r4)))) ∧ ((¬ x2 = (0 : Int32) ∧ ¬ x2 = (1 : Int32) ∧ ¬ x2 = (2 : Int32) ∧ ¬ x2 = (3 : Int32) ∧ ¬ x2 = (4 : Int32)) → (False))))
def v_X5_atx_112 (x1 : Int32) (x2 : Int32) (I : wI) (X : String → Prop) (t0 : Int32) : Prop :=
  False
def v_X5_atx_111 (x1 : Int32) (x2 : Int32) (I : wI) (X : String → Prop)  : Prop :=
  v_X5_atx_112 x1 x2 I X  (0 : Int32)
def v_X5_atx (x1 : Int32) (x2 : Int32) (I : wI) (X : String → Prop) : Prop :=
  ((ok_X5_requirePosition x1 I) → ((pre_X5_requirePosition x1 I) ∧ ((post_X5_requirePosition x1 I) → ((x2 = (0 : Int32) → ((pre_X0_discAt 2 x1 I) ∧ (∀ r1 : Int32, (post_X0_discAt 2 x1 I r1) → (False)))) ∧ (x2 = (1 : Int32) → ((pre_X0_notchAt 2 x1 I) ∧ (∀ r2 : Int32, (post_X0_notchAt 2 x1 I r2) → (False)))) ∧ (x2 = (2 : Int32) → (False)) ∧ (x2 = (3 : Int32) → ((((I 1 3) = 0) → (v_X5_atx_111 x1 x2 I X  )) ∧ ((¬ ((I 1 3) = 0)) → ((pre_X0_agreesAt 2 8 x1 I) ∧ (∀ r3 : Int32, (post_X0_agreesAt 2 8 x1 I r3) → (((r3 = 0) → (v_X5_atx_111 x1 x2 I X  )) ∧ ((¬ (r3 = 0)) → (v_X5_atx_112 x1 x2 I X  (1 : Int32))))))))) ∧ (x2 = (4 : Int32) → ((pre_X1_keysAt 5 x1 I) ∧ (∀ r4 : Int32, (post_X1_keysAt 5 x1 I r4) → (False)))) ∧ ((¬ x2 = (0 : Int32) ∧ ¬ x2 = (1 : Int32) ∧ ¬ x2 = (2 : Int32) ∧ ¬ x2 = (3 : Int32) ∧ ¬ x2 = (4 : Int32)) → (X "java/lang/IllegalArgumentException")))))) ∧ ((¬ (ok_X5_requirePosition x1 I)) → ((pre_X5_requirePositionx x1 I) ∧ (∀ E : String, (exc_X5_requirePosition x1 I E) → X E)))
def v_X5_showKey (x1 : Int32) (I : wI) (Q : wI → Prop) : Prop :=
  (pre_X0_bringHome 30 I) ∧ (∀ I1 : wI, (post_X0_bringHome 30 I I1) → ((pre_X5_moveOf x1 (0 : Int32) I1) ∧ (∀ r2 : Int32, (post_X5_moveOf x1 (0 : Int32) I1 r2) → ((pre_X1_move 5 30 r2 I1) ∧ (∀ I3 : wI, (post_X1_move 5 30 r2 I1 I3) → (Q I3))))))
def g_X0_putAhead_2 (k : Nat) (k1 : Nat) (Q : wI → Prop) (K2 : Int32 → wI → Prop) (v2 : Int32) (I : wI) : Prop :=
  (((6 : Int32) ≤ v2) → (Q I)) ∧ ((¬ ((6 : Int32) ≤ v2)) → (vp_in v2 6 ∧ ((pre_X0_discAt k1 (I (k + 1) (v2).toNatClampNeg) I) ∧ (∀ r1 : Int32, (post_X0_discAt k1 (I (k + 1) (v2).toNatClampNeg) I r1) → (vp_in v2 6 ∧ ∀ I2 : wI, I2 = wU I (k + 1) (v2).toNatClampNeg r1 → (vp_in v2 6 ∧ ((pre_X0_notchAt k1 (I (k + 1) (v2).toNatClampNeg) I2) ∧ (∀ r3 : Int32, (post_X0_notchAt k1 (I (k + 1) (v2).toNatClampNeg) I2 r3) → (vp_in v2 6 ∧ ∀ I4 : wI, I4 = wU I2 (k + 2) (v2).toNatClampNeg (((I2 (k + 2) (v2).toNatClampNeg) + r3) - ((I2 (k + 2) (v2).toNatClampNeg) + r3) / (5 : Int32) * (5 : Int32)) → (K2 (v2 + (1 : Int32)) I4))))))))))
def v_X0_putAhead_2 (k : Nat) (k1 : Nat) (Q : wI → Prop) : Nat → Int32 → wI → Prop
  | 0 => fun _ _ => False
  | f + 1 => g_X0_putAhead_2 k k1 Q (v_X0_putAhead_2 k k1 Q f)
def v_X0_putAhead (k : Nat) (k1 : Nat) (I : wI) (Q : wI → Prop) : Prop :=
  ∃ f : Nat, v_X0_putAhead_2 k k1 Q  f (0 : Int32) I
def v_X5_periodByDoing_47  (Q : Int32 → wI → Prop) (v1 : Int32) (I : wI) : Prop :=
  Q v1 I
def g_X5_periodByDoing_13  (Q : Int32 → wI → Prop) (K13 : Int32 → wI → Prop) (v1 : Int32) (I : wI) : Prop :=
  (((1000000 : Int32) ≤ v1) → (v_X5_periodByDoing_47  Q  v1 I)) ∧ ((¬ ((1000000 : Int32) ≤ v1)) → ((pre_X0_reach 33 I) ∧ (∀ r1 : Int32, (post_X0_reach 33 I r1) → (((r1 = 0) → (v_X5_periodByDoing_47  Q  v1 I)) ∧ ((¬ (r1 = 0)) → ((pre_X0_putAhead 33 30 I) ∧ (∀ I2 : wI, (post_X0_putAhead 33 30 I I2) → (K13 (v1 + (1 : Int32)) I2))))))))
def v_X5_periodByDoing_13  (Q : Int32 → wI → Prop) : Nat → Int32 → wI → Prop
  | 0 => fun _ _ => False
  | f + 1 => g_X5_periodByDoing_13 Q (v_X5_periodByDoing_13 Q f)
def v_X5_periodByDoing  (I : wI) (Q : Int32 → wI → Prop) : Prop :=
  (pre_X0_copyFrom 33 30 I) ∧ (∀ I1 : wI, (post_X0_copyFrom 33 30 I I1) → (∃ f : Nat, v_X5_periodByDoing_13  Q  f (1 : Int32) I1))
def v_X0_placeOf_22 (k : Nat) (x1 : Int32) (I : wI) (Q : Int32 → Prop) (K4 : Int32 → Int32 → Prop) (v2 : Int32) (v3 : Int32) : Prop :=
  K4 v2 (v3 + (1 : Int32))
def g_X0_placeOf_4 (k : Nat) (x1 : Int32) (I : wI) (Q : Int32 → Prop) (K4 : Int32 → Int32 → Prop) (v2 : Int32) (v3 : Int32) : Prop :=
  (((6 : Int32) ≤ v3) → (Q v2)) ∧ ((¬ ((6 : Int32) ≤ v3)) → (vp_in v3 6 ∧ (((¬ (I (k + 1) (v3).toNatClampNeg) = x1) → (v_X0_placeOf_22 k x1 I Q K4 v2 v3)) ∧ (((I (k + 1) (v3).toNatClampNeg) = x1) → (v_X0_placeOf_22 k x1 I Q K4 v3 v3)))))
def v_X0_placeOf_4 (k : Nat) (x1 : Int32) (I : wI) (Q : Int32 → Prop) : Nat → Int32 → Int32 → Prop
  | 0 => fun _ _ => False
  | f + 1 => g_X0_placeOf_4 k x1 I Q (v_X0_placeOf_4 k x1 I Q f)
def v_X0_placeOf (k : Nat) (x1 : Int32) (I : wI) (Q : Int32 → Prop) : Prop :=
  ∃ f : Nat, v_X0_placeOf_4 k x1 I Q  f x1 (0 : Int32)
def v_X0_leastMultiple_25 (x0 : Int32) (x1 : Int32) (I : wI) (Q : Int32 → Prop) (v2 : Int32) : Prop :=
  Q v2
def g_X0_leastMultiple_4 (x0 : Int32) (x1 : Int32) (I : wI) (Q : Int32 → Prop) (K4 : Int32 → Int32 → Prop) (v2 : Int32) (v3 : Int32) : Prop :=
  ((x1 ≤ v3) → (v_X0_leastMultiple_25 x0 x1 I Q  v2)) ∧ ((¬ (x1 ≤ v3)) → ((¬ x1 = 0) ∧ ((((v2 - v2 / x1 * x1) = 0) → (v_X0_leastMultiple_25 x0 x1 I Q  v2)) ∧ ((¬ ((v2 - v2 / x1 * x1) = 0)) → (K4 (v2 + x0) (v3 + (1 : Int32)))))))
def v_X0_leastMultiple_4 (x0 : Int32) (x1 : Int32) (I : wI) (Q : Int32 → Prop) : Nat → Int32 → Int32 → Prop
  | 0 => fun _ _ => False
  | f + 1 => g_X0_leastMultiple_4 x0 x1 I Q (v_X0_leastMultiple_4 x0 x1 I Q f)
def v_X0_leastMultiple (x0 : Int32) (x1 : Int32) (I : wI) (Q : Int32 → Prop) : Prop :=
  ∃ f : Nat, v_X0_leastMultiple_4 x0 x1 I Q  f x0 (1 : Int32)
def v_X0_periodByRounds_95 (k : Nat) (I : wI) (Q : Int32 → Prop) (K6 : Int32 → Int32 → Int32 → Prop) (v1 : Int32) (v2 : Int32) (v3 : Int32) : Prop :=
  K6 v1 v2 (v3 + (1 : Int32))
def v_X0_periodByRounds_91 (k : Nat) (I : wI) (Q : Int32 → Prop) (K6 : Int32 → Int32 → Int32 → Prop) (v2 : Int32) (v3 : Int32) (t0 : Int32) (t1 : Int32) : Prop :=
  (pre_X0_leastMultiple t1 t0 I) ∧ (∀ r1 : Int32, (post_X0_leastMultiple t1 t0 I r1) → (v_X0_periodByRounds_95 k I Q K6 r1 v2 v3))
def v_X0_periodByRounds_69 (k : Nat) (I : wI) (Q : Int32 → Prop) (K6 : Int32 → Int32 → Int32 → Prop) (v1 : Int32) (v2 : Int32) (v3 : Int32) (v4 : Int32) (v5 : Int32) : Prop :=
  ((v4 ≤ 0) → (v_X0_periodByRounds_95 k I Q K6 v1 v2 v3)) ∧ ((¬ (v4 ≤ 0)) → (((¬ (v5 - v5 / (5 : Int32) * (5 : Int32)) = 0) → (v_X0_periodByRounds_91 k I Q K6 v2 v3 ((5 : Int32) * v4) v1)) ∧ (((v5 - v5 / (5 : Int32) * (5 : Int32)) = 0) → (v_X0_periodByRounds_91 k I Q K6 v2 v3 v4 v1))))
def g_X0_periodByRounds_21 (k : Nat) (I : wI) (Q : Int32 → Prop) (K6 : Int32 → Int32 → Int32 → Prop) (K21 : Int32 → Int32 → Int32 → Int32 → Int32 → Int32 → Prop) (v1 : Int32) (v2 : Int32) (v3 : Int32) (v4 : Int32) (v5 : Int32) (v6 : Int32) : Prop :=
  (((6 : Int32) ≤ v4) → (v_X0_periodByRounds_69 k I Q K6 v1 v2 v3 v4 v5)) ∧ ((¬ ((6 : Int32) ≤ v4)) → (((¬ ((v2 >>> (v6 &&& 31)) &&& (1 : Int32)) = 0) → (v_X0_periodByRounds_69 k I Q K6 v1 v2 v3 v4 v5)) ∧ ((((v2 >>> (v6 &&& 31)) &&& (1 : Int32)) = 0) → ((pre_X0_placeOf k v6 I) ∧ (∀ r1 : Int32, (post_X0_placeOf k v6 I r1) → ((pre_X0_notchAt k r1 I) ∧ (∀ r2 : Int32, (post_X0_notchAt k r1 I r2) → (K21 v1 (v2 ||| ((1 : Int32) <<< (v6 &&& 31))) v3 (v4 + (1 : Int32)) (v5 + r2) r1))))))))
def v_X0_periodByRounds_21 (k : Nat) (I : wI) (Q : Int32 → Prop) (K6 : Int32 → Int32 → Int32 → Prop) : Nat → Int32 → Int32 → Int32 → Int32 → Int32 → Int32 → Prop
  | 0 => fun _ _ _ _ _ _ => False
  | f + 1 => g_X0_periodByRounds_21 k I Q K6 (v_X0_periodByRounds_21 k I Q K6 f)
def g_X0_periodByRounds_6 (k : Nat) (I : wI) (Q : Int32 → Prop) (K6 : Int32 → Int32 → Int32 → Prop) (v1 : Int32) (v2 : Int32) (v3 : Int32) : Prop :=
  (((6 : Int32) ≤ v3) → (Q v1)) ∧ ((¬ ((6 : Int32) ≤ v3)) → (∃ f : Nat, v_X0_periodByRounds_21 k I Q K6 f v1 v2 v3 (0 : Int32) (0 : Int32) v3))
def v_X0_periodByRounds_6 (k : Nat) (I : wI) (Q : Int32 → Prop) : Nat → Int32 → Int32 → Int32 → Prop
  | 0 => fun _ _ _ => False
  | f + 1 => g_X0_periodByRounds_6 k I Q (v_X0_periodByRounds_6 k I Q f)
def v_X0_periodByRounds (k : Nat) (I : wI) (Q : Int32 → Prop) : Prop :=
  ∃ f : Nat, v_X0_periodByRounds_6 k I Q  f (1 : Int32) (0 : Int32) (0 : Int32)
def v_X3_usesOf_19 (k : Nat) (x1 : Int32) (I : wI) (Q : Int32 → Prop) (t0 : Int32) : Prop :=
  Q t0
def v_X3_usesOf_18 (k : Nat) (x1 : Int32) (I : wI) (Q : Int32 → Prop)  : Prop :=
  v_X3_usesOf_19 k x1 I Q  (0 : Int32)
def v_X3_usesOf (k : Nat) (x1 : Int32) (I : wI) (Q : Int32 → Prop) : Prop :=
  ((x1 < 0) → (v_X3_usesOf_18 k x1 I Q  )) ∧ ((¬ (x1 < 0)) → ((((5 : Int32) ≤ x1) → (v_X3_usesOf_18 k x1 I Q  )) ∧ ((¬ ((5 : Int32) ≤ x1)) → (vp_in x1 5 ∧ (v_X3_usesOf_19 k x1 I Q  (I (k + 10) (x1).toNatClampNeg))))))
def v_X5_key_107 (x1 : Int32) (x2 : Int32) (Q : Int32 → wI → Prop) (t0 : Int32) (I : wI) : Prop :=
  Q t0 I
def v_X5_key (x1 : Int32) (x2 : Int32) (I : wI) (Q : Int32 → wI → Prop) : Prop :=
  (pre_X5_requireKey x1 I) ∧ ((post_X5_requireKey x1 I) → ((x2 = (0 : Int32) → ((pre_X1_maskOf 5 x1 I) ∧ (∀ r1 : Int32, (post_X1_maskOf 5 x1 I r1) → (Q r1 I)))) ∧ (x2 = (1 : Int32) → ((pre_X1_strengthOf 5 x1 I) ∧ (∀ r2 : Int32, (post_X1_strengthOf 5 x1 I r2) → (Q r2 I)))) ∧ (x2 = (2 : Int32) → ((pre_X5_showKey x1 I) ∧ (∀ I3 : wI, (post_X5_showKey x1 I I3) → ((pre_X5_periodByDoing  I3) ∧ (∀ r4 : Int32, ∀ I5 : wI, (post_X5_periodByDoing  I3 r4 I5) → (Q r4 I5)))))) ∧ (x2 = (3 : Int32) → ((pre_X5_showKey x1 I) ∧ (∀ I6 : wI, (post_X5_showKey x1 I I6) → ((pre_X0_periodByRounds 30 I6) ∧ (∀ r7 : Int32, (post_X0_periodByRounds 30 I6 r7) → (Q r7 I6)))))) ∧ (x2 = (4 : Int32) → ((pre_X3_allows 1 x1 I) ∧ (∀ r8 : Int32, (post_X3_allows 1 x1 I r8) → (((r8 = 0) → (v_X5_key_107 x1 x2 Q  (1 : Int32) I)) ∧ ((¬ (r8 = 0)) → (v_X5_key_107 x1 x2 Q  (0 : Int32) I)))))) ∧ (x2 = (5 : Int32) → ((pre_X3_usesOf 1 x1 I) ∧ (∀ r9 : Int32, (post_X3_usesOf 1 x1 I r9) → (Q r9 I)))) ∧ ((¬ x2 = (0 : Int32) ∧ ¬ x2 = (1 : Int32) ∧ ¬ x2 = (2 : Int32) ∧ ¬ x2 = (3 : Int32) ∧ ¬ x2 = (4 : Int32) ∧ ¬ x2 = (5 : Int32)) → (False))))
def v_X5_keyx_107 (x1 : Int32) (x2 : Int32) (X : String → wI → Prop) (t0 : Int32) (I : wI) : Prop :=
  False
def v_X5_keyx (x1 : Int32) (x2 : Int32) (I : wI) (X : String → wI → Prop) : Prop :=
  ((ok_X5_requireKey x1 I) → ((pre_X5_requireKey x1 I) ∧ ((post_X5_requireKey x1 I) → ((x2 = (0 : Int32) → ((pre_X1_maskOf 5 x1 I) ∧ (∀ r1 : Int32, (post_X1_maskOf 5 x1 I r1) → (False)))) ∧ (x2 = (1 : Int32) → ((pre_X1_strengthOf 5 x1 I) ∧ (∀ r2 : Int32, (post_X1_strengthOf 5 x1 I r2) → (False)))) ∧ (x2 = (2 : Int32) → ((pre_X5_showKey x1 I) ∧ (∀ I3 : wI, (post_X5_showKey x1 I I3) → ((pre_X5_periodByDoing  I3) ∧ (∀ r4 : Int32, ∀ I5 : wI, (post_X5_periodByDoing  I3 r4 I5) → (False)))))) ∧ (x2 = (3 : Int32) → ((pre_X5_showKey x1 I) ∧ (∀ I6 : wI, (post_X5_showKey x1 I I6) → ((pre_X0_periodByRounds 30 I6) ∧ (∀ r7 : Int32, (post_X0_periodByRounds 30 I6 r7) → (False)))))) ∧ (x2 = (4 : Int32) → ((pre_X3_allows 1 x1 I) ∧ (∀ r8 : Int32, (post_X3_allows 1 x1 I r8) → (((r8 = 0) → (v_X5_keyx_107 x1 x2 X  (1 : Int32) I)) ∧ ((¬ (r8 = 0)) → (v_X5_keyx_107 x1 x2 X  (0 : Int32) I)))))) ∧ (x2 = (5 : Int32) → ((pre_X3_usesOf 1 x1 I) ∧ (∀ r9 : Int32, (post_X3_usesOf 1 x1 I r9) → (False)))) ∧ ((¬ x2 = (0 : Int32) ∧ ¬ x2 = (1 : Int32) ∧ ¬ x2 = (2 : Int32) ∧ ¬ x2 = (3 : Int32) ∧ ¬ x2 = (4 : Int32) ∧ ¬ x2 = (5 : Int32)) → (X "java/lang/IllegalArgumentException" I)))))) ∧ ((¬ (ok_X5_requireKey x1 I)) → ((pre_X5_requireKeyx x1 I) ∧ (∀ E : String, (exc_X5_requireKey x1 I E) → X E I)))
def v_X5_showPair (x1 : Int32) (x2 : Int32) (I : wI) (Q : wI → Prop) : Prop :=
  (pre_X0_bringHome 30 I) ∧ (∀ I1 : wI, (post_X0_bringHome 30 I I1) → ((pre_X5_moveOf x1 (0 : Int32) I1) ∧ (∀ r2 : Int32, (post_X5_moveOf x1 (0 : Int32) I1 r2) → ((pre_X1_move 5 30 r2 I1) ∧ (∀ I3 : wI, (post_X1_move 5 30 r2 I1 I3) → ((pre_X5_moveOf x2 (0 : Int32) I3) ∧ (∀ r4 : Int32, (post_X5_moveOf x2 (0 : Int32) I3 r4) → ((pre_X1_move 5 30 r4 I3) ∧ (∀ I5 : wI, (post_X1_move 5 30 r4 I3 I5) → ((pre_X5_moveOf x1 (1 : Int32) I5) ∧ (∀ r6 : Int32, (post_X5_moveOf x1 (1 : Int32) I5 r6) → ((pre_X1_move 5 30 r6 I5) ∧ (∀ I7 : wI, (post_X1_move 5 30 r6 I5 I7) → ((pre_X5_moveOf x2 (1 : Int32) I7) ∧ (∀ r8 : Int32, (post_X5_moveOf x2 (1 : Int32) I7 r8) → ((pre_X1_move 5 30 r8 I7) ∧ (∀ I9 : wI, (post_X1_move 5 30 r8 I7 I9) → (Q I9))))))))))))))))))
def v_X5_pair_111 (x1 : Int32) (x2 : Int32) (x3 : Int32) (Q : Int32 → wI → Prop) (t0 : Int32) (I : wI) : Prop :=
  Q t0 I
def v_X5_pair_17 (x1 : Int32) (x2 : Int32) (x3 : Int32) (Q : Int32 → wI → Prop)  (I : wI) : Prop :=
  False
def v_X5_pair (x1 : Int32) (x2 : Int32) (x3 : Int32) (I : wI) (Q : Int32 → wI → Prop) : Prop :=
  (pre_X5_requireKey x1 I) ∧ ((post_X5_requireKey x1 I) → ((pre_X5_requireKey x2 I) ∧ ((post_X5_requireKey x2 I) → (((x3 < 0) → (v_X5_pair_17 x1 x2 x3 Q   I)) ∧ ((¬ (x3 < 0)) → (((x3 ≤ (4 : Int32)) → ((pre_X5_showPair x1 x2 I) ∧ (∀ I1 : wI, (post_X5_showPair x1 x2 I I1) → ((x3 = (0 : Int32) → ((pre_X0_reach 30 I1) ∧ (∀ r2 : Int32, (post_X0_reach 30 I1 r2) → (Q r2 I1)))) ∧ (x3 = (1 : Int32) → ((pre_X0_reach 30 I1) ∧ (∀ r3 : Int32, (post_X0_reach 30 I1 r3) → ((pre_J_bitCount r3 I1) ∧ (∀ r4 : Int32, (post_J_bitCount r3 I1 r4) → (Q r4 I1)))))) ∧ (x3 = (2 : Int32) → ((pre_X5_periodByDoing  I1) ∧ (∀ r5 : Int32, ∀ I6 : wI, (post_X5_periodByDoing  I1 r5 I6) → (Q r5 I6)))) ∧ (x3 = (3 : Int32) → ((pre_X0_periodByRounds 30 I1) ∧ (∀ r7 : Int32, (post_X0_periodByRounds 30 I1 r7) → (Q r7 I1)))) ∧ ((¬ x3 = (0 : Int32) ∧ ¬ x3 = (1 : Int32) ∧ ¬ x3 = (2 : Int32) ∧ ¬ x3 = (3 : Int32)) → ((pre_X0_reach 30 I1) ∧ (∀ r8 : Int32, (post_X0_reach 30 I1 r8) → (((¬ r8 = 0) → (v_X5_pair_111 x1 x2 x3 Q  (0 : Int32) I1)) ∧ ((r8 = 0) → (v_X5_pair_111 x1 x2 x3 Q  (1 : Int32) I1)))))))))) ∧ ((¬ (x3 ≤ (4 : Int32))) → (v_X5_pair_17 x1 x2 x3 Q   I))))))))
def v_X5_pairx_111 (x1 : Int32) (x2 : Int32) (x3 : Int32) (X : String → wI → Prop) (t0 : Int32) (I : wI) : Prop :=
  False
def v_X5_pairx_17 (x1 : Int32) (x2 : Int32) (x3 : Int32) (X : String → wI → Prop)  (I : wI) : Prop :=
  X "java/lang/IllegalArgumentException" I
def v_X5_pairx (x1 : Int32) (x2 : Int32) (x3 : Int32) (I : wI) (X : String → wI → Prop) : Prop :=
  ((ok_X5_requireKey x1 I) → ((pre_X5_requireKey x1 I) ∧ ((post_X5_requireKey x1 I) → (((ok_X5_requireKey x2 I) → ((pre_X5_requireKey x2 I) ∧ ((post_X5_requireKey x2 I) → (((x3 < 0) → (v_X5_pairx_17 x1 x2 x3 X   I)) ∧ ((¬ (x3 < 0)) → (((x3 ≤ (4 : Int32)) → ((pre_X5_showPair x1 x2 I) ∧ (∀ I1 : wI, (post_X5_showPair x1 x2 I I1) → ((x3 = (0 : Int32) → ((pre_X0_reach 30 I1) ∧ (∀ r2 : Int32, (post_X0_reach 30 I1 r2) → (False)))) ∧ (x3 = (1 : Int32) → ((pre_X0_reach 30 I1) ∧ (∀ r3 : Int32, (post_X0_reach 30 I1 r3) → ((pre_J_bitCount r3 I1) ∧ (∀ r4 : Int32, (post_J_bitCount r3 I1 r4) → (False)))))) ∧ (x3 = (2 : Int32) → ((pre_X5_periodByDoing  I1) ∧ (∀ r5 : Int32, ∀ I6 : wI, (post_X5_periodByDoing  I1 r5 I6) → (False)))) ∧ (x3 = (3 : Int32) → ((pre_X0_periodByRounds 30 I1) ∧ (∀ r7 : Int32, (post_X0_periodByRounds 30 I1 r7) → (False)))) ∧ ((¬ x3 = (0 : Int32) ∧ ¬ x3 = (1 : Int32) ∧ ¬ x3 = (2 : Int32) ∧ ¬ x3 = (3 : Int32)) → ((pre_X0_reach 30 I1) ∧ (∀ r8 : Int32, (post_X0_reach 30 I1 r8) → (((¬ r8 = 0) → (v_X5_pairx_111 x1 x2 x3 X  (0 : Int32) I1)) ∧ ((r8 = 0) → (v_X5_pairx_111 x1 x2 x3 X  (1 : Int32) I1)))))))))) ∧ ((¬ (x3 ≤ (4 : Int32))) → (v_X5_pairx_17 x1 x2 x3 X   I)))))))) ∧ ((¬ (ok_X5_requireKey x2 I)) → ((pre_X5_requireKeyx x2 I) ∧ (∀ E : String, (exc_X5_requireKey x2 I E) → X E I))))))) ∧ ((¬ (ok_X5_requireKey x1 I)) → ((pre_X5_requireKeyx x1 I) ∧ (∀ E : String, (exc_X5_requireKey x1 I E) → X E I)))
def v_J_min_10 (x0 : Int32) (x1 : Int32) (I : wI) (Q : Int32 → Prop) (t0 : Int32) : Prop :=
  Q t0
def v_J_min (x0 : Int32) (x1 : Int32) (I : wI) (Q : Int32 → Prop) : Prop :=
  ((x1 < x0) → (v_J_min_10 x0 x1 I Q  x1)) ∧ ((¬ (x1 < x0)) → (v_J_min_10 x0 x1 I Q  x0))
def v_X4_turnsLessBacks_45 (k : Nat) (I : wI) (Q : Int32 → Prop) (v1 : Int32) : Prop :=
  Q v1
def v_X4_turnsLessBacks_37 (k : Nat) (I : wI) (Q : Int32 → Prop) (K4 : Int32 → Int32 → Prop) (v2 : Int32) (t0 : Int32) (t1 : Int32) : Prop :=
  K4 (t1 + t0) (v2 + (1 : Int32))
def g_X4_turnsLessBacks_4 (k : Nat) (I : wI) (Q : Int32 → Prop) (K4 : Int32 → Int32 → Prop) (v1 : Int32) (v2 : Int32) : Prop :=
  (((I k 3) ≤ v2) → (v_X4_turnsLessBacks_45 k I Q  v1)) ∧ ((¬ ((I k 3) ≤ v2)) → ((((500 : Int32) ≤ v2) → (v_X4_turnsLessBacks_45 k I Q  v1)) ∧ ((¬ ((500 : Int32) ≤ v2)) → (vp_in v2 500 ∧ ((pre_X5_isBack (I (k + 2) (v2).toNatClampNeg) I) ∧ (∀ r1 : Int32, (post_X5_isBack (I (k + 2) (v2).toNatClampNeg) I r1) → (((r1 = 0) → (v_X4_turnsLessBacks_37 k I Q K4 v2 (1 : Int32) v1)) ∧ ((¬ (r1 = 0)) → (v_X4_turnsLessBacks_37 k I Q K4 v2 (-1 : Int32) v1)))))))))
def v_X4_turnsLessBacks_4 (k : Nat) (I : wI) (Q : Int32 → Prop) : Nat → Int32 → Int32 → Prop
  | 0 => fun _ _ => False
  | f + 1 => g_X4_turnsLessBacks_4 k I Q (v_X4_turnsLessBacks_4 k I Q f)
def v_X4_turnsLessBacks (k : Nat) (I : wI) (Q : Int32 → Prop) : Prop :=
  ∃ f : Nat, v_X4_turnsLessBacks_4 k I Q  f (0 : Int32) (0 : Int32)
def v_X5_showWord_55  (Q : wI → Prop)  (I : wI) : Prop :=
  Q I
def g_X5_showWord_9  (Q : wI → Prop) (K9 : Int32 → wI → Prop) (v1 : Int32) (I : wI) : Prop :=
  (((I 24 3) ≤ v1) → (v_X5_showWord_55  Q   I)) ∧ ((¬ ((I 24 3) ≤ v1)) → ((((500 : Int32) ≤ v1) → (v_X5_showWord_55  Q   I)) ∧ ((¬ ((500 : Int32) ≤ v1)) → ((pre_X4_moveAt 24 v1 I) ∧ (∀ r1 : Int32, (post_X4_moveAt 24 v1 I r1) → ((pre_X1_move 5 30 r1 I) ∧ (∀ I2 : wI, (post_X1_move 5 30 r1 I I2) → (K9 (v1 + (1 : Int32)) I2))))))))
def v_X5_showWord_9  (Q : wI → Prop) : Nat → Int32 → wI → Prop
  | 0 => fun _ _ => False
  | f + 1 => g_X5_showWord_9 Q (v_X5_showWord_9 Q f)
def v_X5_showWord  (I : wI) (Q : wI → Prop) : Prop :=
  (pre_X0_bringHome 30 I) ∧ (∀ I1 : wI, (post_X0_bringHome 30 I I1) → (∃ f : Nat, v_X5_showWord_9  Q  f (0 : Int32) I1))
def v_X5_ofShortWord (x1 : Int32) (I : wI) (Q : Int32 → wI → Prop) : Prop :=
  ((¬ x1 = (4 : Int32)) → ((pre_X5_showWord  I) ∧ (∀ I1 : wI, (post_X5_showWord  I I1) → ((x1 = (1 : Int32) → ((pre_X0_reach 30 I1) ∧ (∀ r2 : Int32, (post_X0_reach 30 I1 r2) → (Q r2 I1)))) ∧ (x1 = (2 : Int32) → ((pre_X5_periodByDoing  I1) ∧ (∀ r3 : Int32, ∀ I4 : wI, (post_X5_periodByDoing  I1 r3 I4) → (Q r3 I4)))) ∧ ((¬ x1 = (1 : Int32) ∧ ¬ x1 = (2 : Int32)) → ((pre_X0_periodByRounds 30 I1) ∧ (∀ r5 : Int32, (post_X0_periodByRounds 30 I1 r5) → (Q r5 I1)))))))) ∧ ((x1 = (4 : Int32)) → ((pre_X4_turnsLessBacks 24 I) ∧ (∀ r6 : Int32, (post_X4_turnsLessBacks 24 I r6) → (Q r6 I))))
def v_X5_ofWord_9 (x1 : Int32) (Q : Int32 → wI → Prop)  (I : wI) : Prop :=
  False
def v_X5_ofWord (x1 : Int32) (I : wI) (Q : Int32 → wI → Prop) : Prop :=
  ((x1 < 0) → (v_X5_ofWord_9 x1 Q   I)) ∧ ((¬ (x1 < 0)) → (((x1 ≤ (4 : Int32)) → ((pre_X4_read 24 I) ∧ (∀ r1 : Int32, ∀ I2 : wI, (post_X4_read 24 I r1 I2) → (((¬ (I2 24 4) = 0) → (((¬ x1 = 0) → ((((I2 24 3) ≤ (500 : Int32)) → ((pre_X5_ofShortWord x1 I2) ∧ (∀ r3 : Int32, ∀ I4 : wI, (post_X5_ofShortWord x1 I2 r3 I4) → (Q r3 I4)))) ∧ ((¬ ((I2 24 3) ≤ (500 : Int32))) → (Q (-1 : Int32) I2)))) ∧ ((x1 = 0) → ((pre_J_min (I2 24 3) (9999 : Int32) I2) ∧ (∀ r5 : Int32, (post_J_min (I2 24 3) (9999 : Int32) I2 r5) → (Q r5 I2)))))) ∧ (((I2 24 4) = 0) → (False)))))) ∧ ((¬ (x1 ≤ (4 : Int32))) → (v_X5_ofWord_9 x1 Q   I))))
def v_X5_ofWordx_9 (x1 : Int32) (X : String → wI → Prop)  (I : wI) : Prop :=
  X "java/lang/IllegalArgumentException" I
def v_X5_ofWordx (x1 : Int32) (I : wI) (X : String → wI → Prop) : Prop :=
  ((x1 < 0) → (v_X5_ofWordx_9 x1 X   I)) ∧ ((¬ (x1 < 0)) → (((x1 ≤ (4 : Int32)) → ((pre_X4_read 24 I) ∧ (∀ r1 : Int32, ∀ I2 : wI, (post_X4_read 24 I r1 I2) → (((¬ (I2 24 4) = 0) → (((¬ x1 = 0) → ((((I2 24 3) ≤ (500 : Int32)) → ((pre_X5_ofShortWord x1 I2) ∧ (∀ r3 : Int32, ∀ I4 : wI, (post_X5_ofShortWord x1 I2 r3 I4) → (False)))) ∧ ((¬ ((I2 24 3) ≤ (500 : Int32))) → (False)))) ∧ ((x1 = 0) → ((pre_J_min (I2 24 3) (9999 : Int32) I2) ∧ (∀ r5 : Int32, (post_J_min (I2 24 3) (9999 : Int32) I2 r5) → (False)))))) ∧ (((I2 24 4) = 0) → (X "java/lang/IllegalArgumentException" I2)))))) ∧ ((¬ (x1 ≤ (4 : Int32))) → (v_X5_ofWordx_9 x1 X   I))))
def v_X5_count_117 (x1 : Int32) (I : wI) (Q : Int32 → Prop) (t0 : Int32) : Prop :=
  Q t0
def v_X5_count (x1 : Int32) (I : wI) (Q : Int32 → Prop) : Prop :=
  (x1 = (0 : Int32) → (Q (I 1 6))) ∧ (x1 = (1 : Int32) → ((pre_X0_notchSum 2 I) ∧ (∀ r1 : Int32, (post_X0_notchSum 2 I r1) → (Q (r1 - r1 / (5 : Int32) * (5 : Int32)))))) ∧ (x1 = (2 : Int32) → (Q (I 1 7))) ∧ (x1 = (3 : Int32) → ((pre_X0_reach 2 I) ∧ (∀ r2 : Int32, (post_X0_reach 2 I r2) → ((pre_J_bitCount r2 I) ∧ (∀ r3 : Int32, (post_J_bitCount r2 I r3) → (Q ((6 : Int32) - r3))))))) ∧ (x1 = (4 : Int32) → ((pre_X3_opens 1 I) ∧ (∀ r4 : Int32, (post_X3_opens 1 I r4) → (((r4 = 0) → (v_X5_count_117 x1 I Q  (0 : Int32))) ∧ ((¬ (r4 = 0)) → (v_X5_count_117 x1 I Q  (1 : Int32))))))) ∧ (x1 = (5 : Int32) → ((pre_X3_asInSecret 1 2 I) ∧ (∀ r5 : Int32, (post_X3_asInSecret 1 2 I r5) → (Q r5)))) ∧ (x1 = (6 : Int32) → ((pre_J_bitCount (I 1 4) I) ∧ (∀ r6 : Int32, (post_J_bitCount (I 1 4) I r6) → (Q r6)))) ∧ (x1 = (7 : Int32) → ((pre_X3_stuckKeys 1 I) ∧ (∀ r7 : Int32, (post_X3_stuckKeys 1 I r7) → (Q r7)))) ∧ (x1 = (8 : Int32) → (Q (I 1 8))) ∧ (x1 = (9 : Int32) → (Q (I 0 4))) ∧ ((¬ x1 = (0 : Int32) ∧ ¬ x1 = (1 : Int32) ∧ ¬ x1 = (2 : Int32) ∧ ¬ x1 = (3 : Int32) ∧ ¬ x1 = (4 : Int32) ∧ ¬ x1 = (5 : Int32) ∧ ¬ x1 = (6 : Int32) ∧ ¬ x1 = (7 : Int32) ∧ ¬ x1 = (8 : Int32) ∧ ¬ x1 = (9 : Int32)) → (False))
def v_X5_countx_117 (x1 : Int32) (I : wI) (X : String → Prop) (t0 : Int32) : Prop :=
  False
def v_X5_countx (x1 : Int32) (I : wI) (X : String → Prop) : Prop :=
  (x1 = (0 : Int32) → (False)) ∧ (x1 = (1 : Int32) → ((pre_X0_notchSum 2 I) ∧ (∀ r1 : Int32, (post_X0_notchSum 2 I r1) → (False)))) ∧ (x1 = (2 : Int32) → (False)) ∧ (x1 = (3 : Int32) → ((pre_X0_reach 2 I) ∧ (∀ r2 : Int32, (post_X0_reach 2 I r2) → ((pre_J_bitCount r2 I) ∧ (∀ r3 : Int32, (post_J_bitCount r2 I r3) → (False)))))) ∧ (x1 = (4 : Int32) → ((pre_X3_opens 1 I) ∧ (∀ r4 : Int32, (post_X3_opens 1 I r4) → (((r4 = 0) → (v_X5_countx_117 x1 I X  (0 : Int32))) ∧ ((¬ (r4 = 0)) → (v_X5_countx_117 x1 I X  (1 : Int32))))))) ∧ (x1 = (5 : Int32) → ((pre_X3_asInSecret 1 2 I) ∧ (∀ r5 : Int32, (post_X3_asInSecret 1 2 I r5) → (False)))) ∧ (x1 = (6 : Int32) → ((pre_J_bitCount (I 1 4) I) ∧ (∀ r6 : Int32, (post_J_bitCount (I 1 4) I r6) → (False)))) ∧ (x1 = (7 : Int32) → ((pre_X3_stuckKeys 1 I) ∧ (∀ r7 : Int32, (post_X3_stuckKeys 1 I r7) → (False)))) ∧ (x1 = (8 : Int32) → (False)) ∧ (x1 = (9 : Int32) → (False)) ∧ ((¬ x1 = (0 : Int32) ∧ ¬ x1 = (1 : Int32) ∧ ¬ x1 = (2 : Int32) ∧ ¬ x1 = (3 : Int32) ∧ ¬ x1 = (4 : Int32) ∧ ¬ x1 = (5 : Int32) ∧ ¬ x1 = (6 : Int32) ∧ ¬ x1 = (7 : Int32) ∧ ¬ x1 = (8 : Int32) ∧ ¬ x1 = (9 : Int32)) → (X "java/lang/IllegalArgumentException"))
def g_X0_fingerprint_4 (k : Nat) (I : wI) (Q : Int32 → Prop) (K4 : Int32 → Int32 → Prop) (v1 : Int32) (v2 : Int32) : Prop :=
  (((6 : Int32) ≤ v2) → (Q v1)) ∧ ((¬ ((6 : Int32) ≤ v2)) → (vp_in v2 6 ∧ (vp_in v2 6 ∧ (K4 (((v1 * (30 : Int32)) + ((I (k + 1) (v2).toNatClampNeg) * (5 : Int32))) + (I (k + 2) (v2).toNatClampNeg)) (v2 + (1 : Int32))))))
def v_X0_fingerprint_4 (k : Nat) (I : wI) (Q : Int32 → Prop) : Nat → Int32 → Int32 → Prop
  | 0 => fun _ _ => False
  | f + 1 => g_X0_fingerprint_4 k I Q (v_X0_fingerprint_4 k I Q f)
def v_X0_fingerprint (k : Nat) (I : wI) (Q : Int32 → Prop) : Prop :=
  ∃ f : Nat, v_X0_fingerprint_4 k I Q  f (0 : Int32) (0 : Int32)
def v_X5_ifTurned_59 (x1 : Int32) (x2 : Int32) (Q : Int32 → wI → Prop) (t0 : Int32) (t1 : Int32) (I : wI) : Prop :=
  (pre_X5_moveOf t1 t0 I) ∧ (∀ r1 : Int32, (post_X5_moveOf t1 t0 I r1) → ((pre_X1_move 5 33 r1 I) ∧ (∀ I2 : wI, (post_X1_move 5 33 r1 I I2) → ((pre_X3_asInSecret 1 33 I2) ∧ (∀ r3 : Int32, (post_X3_asInSecret 1 33 I2 r3) → (Q r3 I2))))))
def v_X5_ifTurned_13 (x1 : Int32) (x2 : Int32) (Q : Int32 → wI → Prop)  (I : wI) : Prop :=
  False
def v_X5_ifTurned (x1 : Int32) (x2 : Int32) (I : wI) (Q : Int32 → wI → Prop) : Prop :=
  (pre_X5_requireKey x1 I) ∧ ((post_X5_requireKey x1 I) → (((x2 < 0) → (v_X5_ifTurned_13 x1 x2 Q   I)) ∧ ((¬ (x2 < 0)) → (((x2 ≤ (1 : Int32)) → ((pre_X0_copyFrom 33 2 I) ∧ (∀ I1 : wI, (post_X0_copyFrom 33 2 I I1) → (((¬ x2 = (1 : Int32)) → (v_X5_ifTurned_59 x1 x2 Q  (0 : Int32) x1 I1)) ∧ ((x2 = (1 : Int32)) → (v_X5_ifTurned_59 x1 x2 Q  (1 : Int32) x1 I1)))))) ∧ ((¬ (x2 ≤ (1 : Int32))) → (v_X5_ifTurned_13 x1 x2 Q   I))))))
def v_X5_ifTurnedx_59 (x1 : Int32) (x2 : Int32) (X : String → wI → Prop) (t0 : Int32) (t1 : Int32) (I : wI) : Prop :=
  (pre_X5_moveOf t1 t0 I) ∧ (∀ r1 : Int32, (post_X5_moveOf t1 t0 I r1) → ((pre_X1_move 5 33 r1 I) ∧ (∀ I2 : wI, (post_X1_move 5 33 r1 I I2) → ((pre_X3_asInSecret 1 33 I2) ∧ (∀ r3 : Int32, (post_X3_asInSecret 1 33 I2 r3) → (False))))))
def v_X5_ifTurnedx_13 (x1 : Int32) (x2 : Int32) (X : String → wI → Prop)  (I : wI) : Prop :=
  X "java/lang/IllegalArgumentException" I
def v_X5_ifTurnedx (x1 : Int32) (x2 : Int32) (I : wI) (X : String → wI → Prop) : Prop :=
  ((ok_X5_requireKey x1 I) → ((pre_X5_requireKey x1 I) ∧ ((post_X5_requireKey x1 I) → (((x2 < 0) → (v_X5_ifTurnedx_13 x1 x2 X   I)) ∧ ((¬ (x2 < 0)) → (((x2 ≤ (1 : Int32)) → ((pre_X0_copyFrom 33 2 I) ∧ (∀ I1 : wI, (post_X0_copyFrom 33 2 I I1) → (((¬ x2 = (1 : Int32)) → (v_X5_ifTurnedx_59 x1 x2 X  (0 : Int32) x1 I1)) ∧ ((x2 = (1 : Int32)) → (v_X5_ifTurnedx_59 x1 x2 X  (1 : Int32) x1 I1)))))) ∧ ((¬ (x2 ≤ (1 : Int32))) → (v_X5_ifTurnedx_13 x1 x2 X   I)))))))) ∧ ((¬ (ok_X5_requireKey x1 I)) → ((pre_X5_requireKeyx x1 I) ∧ (∀ E : String, (exc_X5_requireKey x1 I E) → X E I)))
def v_X5_closest_58  (Q : Int32 → wI → Prop) (K7 : Int32 → Int32 → Int32 → wI → Prop) (K17 : Int32 → Int32 → Int32 → Int32 → wI → Prop) (v1 : Int32) (v2 : Int32) (v3 : Int32) (v4 : Int32) (I : wI) : Prop :=
  K17 v1 v2 v3 (v4 + (1 : Int32)) I
def g_X5_closest_17  (Q : Int32 → wI → Prop) (K7 : Int32 → Int32 → Int32 → wI → Prop) (K17 : Int32 → Int32 → Int32 → Int32 → wI → Prop) (v1 : Int32) (v2 : Int32) (v3 : Int32) (v4 : Int32) (I : wI) : Prop :=
  (((5 : Int32) ≤ v4) → (K7 v1 v2 (v3 + (1 : Int32)) I)) ∧ ((¬ ((5 : Int32) ≤ v4)) → ((pre_X5_showPair v3 v4 I) ∧ (∀ I1 : wI, (post_X5_showPair v3 v4 I I1) → ((pre_X0_reach 30 I1) ∧ (∀ r2 : Int32, (post_X0_reach 30 I1 r2) → ((pre_J_bitCount r2 I1) ∧ (∀ r3 : Int32, (post_J_bitCount r2 I1 r3) → (((v2 ≤ r3) → (v_X5_closest_58  Q K7 K17 v1 v2 v3 v4 I1)) ∧ ((¬ (v2 ≤ r3)) → (v_X5_closest_58  Q K7 K17 (((5 : Int32) * v3) + v4) r3 v3 v4 I1))))))))))
def v_X5_closest_17  (Q : Int32 → wI → Prop) (K7 : Int32 → Int32 → Int32 → wI → Prop) : Nat → Int32 → Int32 → Int32 → Int32 → wI → Prop
  | 0 => fun _ _ _ _ _ => False
  | f + 1 => g_X5_closest_17 Q K7 (v_X5_closest_17 Q K7 f)
def g_X5_closest_7  (Q : Int32 → wI → Prop) (K7 : Int32 → Int32 → Int32 → wI → Prop) (v1 : Int32) (v2 : Int32) (v3 : Int32) (I : wI) : Prop :=
  (((5 : Int32) ≤ v3) → (Q v1 I)) ∧ ((¬ ((5 : Int32) ≤ v3)) → (∃ f : Nat, v_X5_closest_17  Q K7 f v1 v2 v3 (v3 + (1 : Int32)) I))
def v_X5_closest_7  (Q : Int32 → wI → Prop) : Nat → Int32 → Int32 → Int32 → wI → Prop
  | 0 => fun _ _ _ _ => False
  | f + 1 => g_X5_closest_7 Q (v_X5_closest_7 Q f)
def v_X5_closest  (I : wI) (Q : Int32 → wI → Prop) : Prop :=
  ∃ f : Nat, v_X5_closest_7  Q  f (-1 : Int32) (7 : Int32) (0 : Int32) I
def v_X6_thrown  (I : wI) (Q : Int32 → Prop) : Prop :=
  Q (I 111 0)
def v_X6_in_15 (x0 : Int32) (x1 : Int32) (x2 : Int32) (I : wI) (Q : Int32 → Prop) (t0 : Int32) : Prop :=
  (t0 = 0 ∨ t0 = 1) ∧ Q t0
def v_X6_in_14 (x0 : Int32) (x1 : Int32) (x2 : Int32) (I : wI) (Q : Int32 → Prop)  : Prop :=
  v_X6_in_15 x0 x1 x2 I Q  (0 : Int32)
def v_X6_in (x0 : Int32) (x1 : Int32) (x2 : Int32) (I : wI) (Q : Int32 → Prop) : Prop :=
  ((x0 < x1) → (v_X6_in_14 x0 x1 x2 I Q  )) ∧ ((¬ (x0 < x1)) → (((x2 < x0) → (v_X6_in_14 x0 x1 x2 I Q  )) ∧ ((¬ (x2 < x0)) → (v_X6_in_15 x0 x1 x2 I Q  (1 : Int32)))))
def v_X6_isKey (x0 : Int32) (I : wI) (Q : Int32 → Prop) : Prop :=
  (pre_X6_in x0 (0 : Int32) (4 : Int32) I) ∧ (∀ r1 : Int32, (post_X6_in x0 (0 : Int32) (4 : Int32) I r1) → ((r1 = 0 ∨ r1 = 1) ∧ Q r1))
def v_X6_isPlace (x0 : Int32) (I : wI) (Q : Int32 → Prop) : Prop :=
  (pre_X6_in x0 (0 : Int32) (5 : Int32) I) ∧ (∀ r1 : Int32, (post_X6_in x0 (0 : Int32) (5 : Int32) I r1) → ((r1 = 0 ∨ r1 = 1) ∧ Q r1))
def v_X6_has_22 (x1 : Int32) (x2 : Int32) (I : wI) (Q : Int32 → Prop) (t0 : Int32) : Prop :=
  (t0 = 0 ∨ t0 = 1) ∧ Q t0
def v_X6_has (x1 : Int32) (x2 : Int32) (I : wI) (Q : Int32 → Prop) : Prop :=
  vp_in ((18 : Int32) + x1) 49 ∧ (((¬ (((I 112 (((18 : Int32) + x1)).toNatClampNeg) >>> (x2 &&& 31)) &&& (1 : Int32)) = (1 : Int32)) → (v_X6_has_22 x1 x2 I Q  (0 : Int32))) ∧ (((((I 112 (((18 : Int32) + x1)).toNatClampNeg) >>> (x2 &&& 31)) &&& (1 : Int32)) = (1 : Int32)) → (v_X6_has_22 x1 x2 I Q  (1 : Int32))))
def g_X6_ones_4 (x0 : Int32) (I : wI) (Q : Int32 → Prop) (K4 : Int32 → Int32 → Prop) (v1 : Int32) (v2 : Int32) : Prop :=
  (((6 : Int32) ≤ v2) → (Q v1)) ∧ ((¬ ((6 : Int32) ≤ v2)) → (K4 (v1 + ((x0 >>> (v2 &&& 31)) &&& (1 : Int32))) (v2 + (1 : Int32))))
def v_X6_ones_4 (x0 : Int32) (I : wI) (Q : Int32 → Prop) : Nat → Int32 → Int32 → Prop
  | 0 => fun _ _ => False
  | f + 1 => g_X6_ones_4 x0 I Q (v_X6_ones_4 x0 I Q f)
def v_X6_ones (x0 : Int32) (I : wI) (Q : Int32 → Prop) : Prop :=
  ∃ f : Nat, v_X6_ones_4 x0 I Q  f (0 : Int32) (0 : Int32)
def g_X6_record_51  (Q : wI → Prop) (K51 : Int32 → wI → Prop) (v1 : Int32) (I : wI) : Prop :=
  (((49 : Int32) ≤ v1) → (∀ I1 : wI, I1 = wU I 111 4 ((I 111 4) + (1 : Int32)) → (Q I1))) ∧ ((¬ ((49 : Int32) ≤ v1)) → (vp_in v1 49 ∧ (vp_in (((49 : Int32) * (I 111 4)) + v1) 294 ∧ ∀ I2 : wI, I2 = wU I 114 ((((49 : Int32) * (I 111 4)) + v1)).toNatClampNeg (I 112 (v1).toNatClampNeg) → (K51 (v1 + (1 : Int32)) I2))))
def v_X6_record_51  (Q : wI → Prop) : Nat → Int32 → wI → Prop
  | 0 => fun _ _ => False
  | f + 1 => g_X6_record_51 Q (v_X6_record_51 Q f)
def v_X6_record_49  (Q : wI → Prop)  (I : wI) : Prop :=
  ∃ f : Nat, v_X6_record_51  Q  f (0 : Int32) I
def g_X6_record_11  (Q : wI → Prop) (K11 : Int32 → wI → Prop) (v1 : Int32) (I : wI) : Prop :=
  (((245 : Int32) ≤ v1) → (∀ I1 : wI, I1 = wU I 111 4 ((I 111 4) - (1 : Int32)) → (v_X6_record_49  Q   I1))) ∧ ((¬ ((245 : Int32) ≤ v1)) → (vp_in ((49 : Int32) + v1) 294 ∧ (vp_in v1 294 ∧ ∀ I2 : wI, I2 = wU I 114 (v1).toNatClampNeg (I 114 (((49 : Int32) + v1)).toNatClampNeg) → (K11 (v1 + (1 : Int32)) I2))))
def v_X6_record_11  (Q : wI → Prop) : Nat → Int32 → wI → Prop
  | 0 => fun _ _ => False
  | f + 1 => g_X6_record_11 Q (v_X6_record_11 Q f)
def v_X6_record  (I : wI) (Q : wI → Prop) : Prop :=
  ((¬ (I 111 4) = (6 : Int32)) → (v_X6_record_49  Q   I)) ∧ (((I 111 4) = (6 : Int32)) → (∃ f : Nat, v_X6_record_11  Q  f (0 : Int32) I))
def g_X6_undo_37  (Q : Int32 → wI → Prop) (K37 : Int32 → wI → Prop) (v1 : Int32) (I : wI) : Prop :=
  (((49 : Int32) ≤ v1) → (Q (I 111 4) I)) ∧ ((¬ ((49 : Int32) ≤ v1)) → (vp_in (((49 : Int32) * (I 111 4)) + v1) 294 ∧ (vp_in v1 49 ∧ ∀ I1 : wI, I1 = wU I 112 (v1).toNatClampNeg (I 114 ((((49 : Int32) * (I 111 4)) + v1)).toNatClampNeg) → (K37 (v1 + (1 : Int32)) I1))))
def v_X6_undo_37  (Q : Int32 → wI → Prop) : Nat → Int32 → wI → Prop
  | 0 => fun _ _ => False
  | f + 1 => g_X6_undo_37 Q (v_X6_undo_37 Q f)
def v_X6_undo_13  (Q : Int32 → wI → Prop) (t0 : Int32) (I : wI) : Prop :=
  ∀ I1 : wI, I1 = wU I 111 0 t0 → ((((I1 111 0) ≤ 0) → (∀ I2 : wI, I2 = wU I1 111 4 ((I1 111 4) - (1 : Int32)) → (∃ f : Nat, v_X6_undo_37  Q  f (0 : Int32) I2))) ∧ ((¬ ((I1 111 0) ≤ 0)) → (Q (0 : Int32) I1)))
def v_X6_undo  (I : wI) (Q : Int32 → wI → Prop) : Prop :=
  ((¬ (I 111 4) = 0) → (v_X6_undo_13  Q  (0 : Int32) I)) ∧ (((I 111 4) = 0) → (v_X6_undo_13  Q  (1 : Int32) I))
def g_X6_keep_7  (Q : Int32 → wI → Prop) (K7 : Int32 → wI → Prop) (v1 : Int32) (I : wI) : Prop :=
  (((49 : Int32) ≤ v1) → (∀ I1 : wI, I1 = wU I 111 6 (1 : Int32) → (vp_in (33 : Int32) 49 ∧ (Q (I1 112 ((33 : Int32)).toNatClampNeg) I1)))) ∧ ((¬ ((49 : Int32) ≤ v1)) → (vp_in v1 49 ∧ (vp_in v1 49 ∧ ∀ I2 : wI, I2 = wU I 115 (v1).toNatClampNeg (I 112 (v1).toNatClampNeg) → (K7 (v1 + (1 : Int32)) I2))))
def v_X6_keep_7  (Q : Int32 → wI → Prop) : Nat → Int32 → wI → Prop
  | 0 => fun _ _ => False
  | f + 1 => g_X6_keep_7 Q (v_X6_keep_7 Q f)
def v_X6_keep  (I : wI) (Q : Int32 → wI → Prop) : Prop :=
  ∀ I1 : wI, I1 = wU I 111 0 (0 : Int32) → (∃ f : Nat, v_X6_keep_7  Q  f (0 : Int32) I1)
def g_X6_goBack_31  (Q : Int32 → wI → Prop) (K31 : Int32 → wI → Prop) (v1 : Int32) (I : wI) : Prop :=
  (((49 : Int32) ≤ v1) → (vp_in (33 : Int32) 49 ∧ (Q (I 112 ((33 : Int32)).toNatClampNeg) I))) ∧ ((¬ ((49 : Int32) ≤ v1)) → (vp_in v1 49 ∧ (vp_in v1 49 ∧ ∀ I1 : wI, I1 = wU I 112 (v1).toNatClampNeg (I 115 (v1).toNatClampNeg) → (K31 (v1 + (1 : Int32)) I1))))
def v_X6_goBack_31  (Q : Int32 → wI → Prop) : Nat → Int32 → wI → Prop
  | 0 => fun _ _ => False
  | f + 1 => g_X6_goBack_31 Q (v_X6_goBack_31 Q f)
def v_X6_goBack_13  (Q : Int32 → wI → Prop) (t0 : Int32) (I : wI) : Prop :=
  ∀ I1 : wI, I1 = wU I 111 0 t0 → ((((I1 111 0) ≤ 0) → ((pre_X6_record  I1) ∧ (∀ I2 : wI, (post_X6_record  I1 I2) → (∃ f : Nat, v_X6_goBack_31  Q  f (0 : Int32) I2)))) ∧ ((¬ ((I1 111 0) ≤ 0)) → (Q (0 : Int32) I1)))
def v_X6_goBack  (I : wI) (Q : Int32 → wI → Prop) : Prop :=
  (((I 111 6) = 0) → (v_X6_goBack_13  Q  (1 : Int32) I)) ∧ ((¬ ((I 111 6) = 0)) → (v_X6_goBack_13  Q  (0 : Int32) I))
def g_X6_putAside_2  (Q : wI → Prop) (K2 : Int32 → wI → Prop) (v1 : Int32) (I : wI) : Prop :=
  (((49 : Int32) ≤ v1) → (Q I)) ∧ ((¬ ((49 : Int32) ≤ v1)) → (vp_in v1 49 ∧ (vp_in v1 49 ∧ ∀ I1 : wI, I1 = wU I 113 (v1).toNatClampNeg (I 112 (v1).toNatClampNeg) → (K2 (v1 + (1 : Int32)) I1))))
def v_X6_putAside_2  (Q : wI → Prop) : Nat → Int32 → wI → Prop
  | 0 => fun _ _ => False
  | f + 1 => g_X6_putAside_2 Q (v_X6_putAside_2 Q f)
def v_X6_putAside  (I : wI) (Q : wI → Prop) : Prop :=
  ∃ f : Nat, v_X6_putAside_2  Q  f (0 : Int32) I
def g_X6_putBack_2  (Q : wI → Prop) (K2 : Int32 → wI → Prop) (v1 : Int32) (I : wI) : Prop :=
  (((49 : Int32) ≤ v1) → (Q I)) ∧ ((¬ ((49 : Int32) ≤ v1)) → (vp_in v1 49 ∧ (vp_in v1 49 ∧ ∀ I1 : wI, I1 = wU I 112 (v1).toNatClampNeg (I 113 (v1).toNatClampNeg) → (K2 (v1 + (1 : Int32)) I1))))
def v_X6_putBack_2  (Q : wI → Prop) : Nat → Int32 → wI → Prop
  | 0 => fun _ _ => False
  | f + 1 => g_X6_putBack_2 Q (v_X6_putBack_2 Q f)
def v_X6_putBack  (I : wI) (Q : wI → Prop) : Prop :=
  ∃ f : Nat, v_X6_putBack_2  Q  f (0 : Int32) I
def g_X6_toFirst_2  (Q : wI → Prop) (K2 : Int32 → wI → Prop) (v1 : Int32) (I : wI) : Prop :=
  (((6 : Int32) ≤ v1) → (Q I)) ∧ ((¬ ((6 : Int32) ≤ v1)) → (vp_in ((0 : Int32) + v1) 49 ∧ ∀ I1 : wI, I1 = wU I 112 (((0 : Int32) + v1)).toNatClampNeg v1 → (vp_in ((6 : Int32) + v1) 49 ∧ ∀ I2 : wI, I2 = wU I1 112 (((6 : Int32) + v1)).toNatClampNeg (0 : Int32) → (K2 (v1 + (1 : Int32)) I2))))
def v_X6_toFirst_2  (Q : wI → Prop) : Nat → Int32 → wI → Prop
  | 0 => fun _ _ => False
  | f + 1 => g_X6_toFirst_2 Q (v_X6_toFirst_2 Q f)
def v_X6_toFirst  (I : wI) (Q : wI → Prop) : Prop :=
  ∃ f : Nat, v_X6_toFirst_2  Q  f (0 : Int32) I
def g_X6_next_7 (x1 : Int32) (x2 : Int32) (I : wI) (Q : Int32 → Prop) (K7 : Int32 → Prop) (v3 : Int32) : Prop :=
  (pre_X6_has x1 v3 I) ∧ (∀ r1 : Int32, (post_X6_has x1 v3 I r1) → (((¬ r1 = 0) → (Q v3)) ∧ ((r1 = 0) → (K7 ((v3 + (1 : Int32)) - (v3 + (1 : Int32)) / (6 : Int32) * (6 : Int32))))))
def v_X6_next_7 (x1 : Int32) (x2 : Int32) (I : wI) (Q : Int32 → Prop) : Nat → Int32 → Prop
  | 0 => fun _ => False
  | f + 1 => g_X6_next_7 x1 x2 I Q (v_X6_next_7 x1 x2 I Q f)
def v_X6_next (x1 : Int32) (x2 : Int32) (I : wI) (Q : Int32 → Prop) : Prop :=
  ∃ f : Nat, v_X6_next_7 x1 x2 I Q  f ((x2 + (1 : Int32)) - (x2 + (1 : Int32)) / (6 : Int32) * (6 : Int32))
def v_X6_doTurn_154 (x1 : Int32) (Q : wI → Prop) (K32 : Int32 → Int32 → wI → Prop) (v2 : Int32) (v3 : Int32) (I : wI) : Prop :=
  K32 v2 (v3 + (1 : Int32)) I
def v_X6_doTurn_109 (x1 : Int32) (Q : wI → Prop) (K32 : Int32 → Int32 → wI → Prop) (v2 : Int32) (v3 : Int32) (v5 : Int32) (v6 : Int32) (t0 : Int32) (I : wI) : Prop :=
  vp_in ((0 : Int32) + v5) 12 ∧ (vp_in ((0 : Int32) + v6) 49 ∧ ∀ I1 : wI, I1 = wU I 112 (((0 : Int32) + v6)).toNatClampNeg (I 117 (((0 : Int32) + v5)).toNatClampNeg) → (vp_in ((6 : Int32) + v5) 12 ∧ (vp_in ((6 : Int32) + v6) 49 ∧ ∀ I2 : wI, I2 = wU I1 112 (((6 : Int32) + v6)).toNatClampNeg (((I1 117 (((6 : Int32) + v5)).toNatClampNeg) + t0) - ((I1 117 (((6 : Int32) + v5)).toNatClampNeg) + t0) / (5 : Int32) * (5 : Int32)) → (v_X6_doTurn_154 x1 Q K32 v2 v3 I2))))
def v_X6_doTurn_79 (x1 : Int32) (Q : wI → Prop) (K32 : Int32 → Int32 → wI → Prop) (v2 : Int32) (v3 : Int32) (v5 : Int32) (t0 : Int32) (I : wI) : Prop :=
  (((5 : Int32) ≤ x1) → (vp_in ((23 : Int32) + v2) 49 ∧ (v_X6_doTurn_109 x1 Q K32 v2 v3 v5 t0 ((5 : Int32) - (I 112 (((23 : Int32) + v2)).toNatClampNeg)) I))) ∧ ((¬ ((5 : Int32) ≤ x1)) → (vp_in ((23 : Int32) + v2) 49 ∧ (v_X6_doTurn_109 x1 Q K32 v2 v3 v5 t0 (I 112 (((23 : Int32) + v2)).toNatClampNeg) I)))
def v_X6_doTurn_66 (x1 : Int32) (Q : wI → Prop) (K32 : Int32 → Int32 → wI → Prop) (v2 : Int32) (v3 : Int32) (v4 : Int32) (t0 : Int32) (I : wI) : Prop :=
  (((5 : Int32) ≤ x1) → (v_X6_doTurn_79 x1 Q K32 v2 v3 t0 v3 I)) ∧ ((¬ ((5 : Int32) ≤ x1)) → (v_X6_doTurn_79 x1 Q K32 v2 v3 t0 v4 I))
def g_X6_doTurn_32 (x1 : Int32) (Q : wI → Prop) (K32 : Int32 → Int32 → wI → Prop) (v2 : Int32) (v3 : Int32) (I : wI) : Prop :=
  (((6 : Int32) ≤ v3) → (Q I)) ∧ ((¬ ((6 : Int32) ≤ v3)) → ((pre_X6_has v2 v3 I) ∧ (∀ r1 : Int32, (post_X6_has v2 v3 I r1) → (((r1 = 0) → (v_X6_doTurn_154 x1 Q K32 v2 v3 I)) ∧ ((¬ (r1 = 0)) → ((pre_X6_next v2 v3 I) ∧ (∀ r2 : Int32, (post_X6_next v2 v3 I r2) → ((((5 : Int32) ≤ x1) → (v_X6_doTurn_66 x1 Q K32 v2 v3 r2 r2 I)) ∧ ((¬ ((5 : Int32) ≤ x1)) → (v_X6_doTurn_66 x1 Q K32 v2 v3 r2 v3 I))))))))))
def v_X6_doTurn_32 (x1 : Int32) (Q : wI → Prop) : Nat → Int32 → Int32 → wI → Prop
  | 0 => fun _ _ _ => False
  | f + 1 => g_X6_doTurn_32 x1 Q (v_X6_doTurn_32 x1 Q f)
def g_X6_doTurn_6 (x1 : Int32) (Q : wI → Prop) (K6 : Int32 → Int32 → wI → Prop) (v2 : Int32) (v3 : Int32) (I : wI) : Prop :=
  (((12 : Int32) ≤ v3) → (∃ f : Nat, v_X6_doTurn_32 x1 Q  f v2 (0 : Int32) I)) ∧ ((¬ ((12 : Int32) ≤ v3)) → (vp_in v3 49 ∧ (vp_in v3 12 ∧ ∀ I1 : wI, I1 = wU I 117 (v3).toNatClampNeg (I 112 (v3).toNatClampNeg) → (K6 v2 (v3 + (1 : Int32)) I1))))
def v_X6_doTurn_6 (x1 : Int32) (Q : wI → Prop) : Nat → Int32 → Int32 → wI → Prop
  | 0 => fun _ _ _ => False
  | f + 1 => g_X6_doTurn_6 x1 Q (v_X6_doTurn_6 x1 Q f)
def v_X6_doTurn (x1 : Int32) (I : wI) (Q : wI → Prop) : Prop :=
  ∃ f : Nat, v_X6_doTurn_6 x1 Q  f (x1 - x1 / (5 : Int32) * (5 : Int32)) (0 : Int32) I
def v_X6_isStuck_41 (x1 : Int32) (I : wI) (Q : Int32 → Prop) (K4 : Int32 → Int32 → Prop) (v3 : Int32) (t0 : Int32) : Prop :=
  K4 t0 (v3 + (1 : Int32))
def v_X6_isStuck_40 (x1 : Int32) (I : wI) (Q : Int32 → Prop) (K4 : Int32 → Int32 → Prop) (v3 : Int32) : Prop :=
  v_X6_isStuck_41 x1 I Q K4 v3 (0 : Int32)
def v_X6_isStuck_36 (x1 : Int32) (I : wI) (Q : Int32 → Prop) (K4 : Int32 → Int32 → Prop) (v3 : Int32) : Prop :=
  v_X6_isStuck_41 x1 I Q K4 v3 (1 : Int32)
def g_X6_isStuck_4 (x1 : Int32) (I : wI) (Q : Int32 → Prop) (K4 : Int32 → Int32 → Prop) (v2 : Int32) (v3 : Int32) : Prop :=
  (((6 : Int32) ≤ v3) → ((v2 = 0 ∨ v2 = 1) ∧ Q v2)) ∧ ((¬ ((6 : Int32) ≤ v3)) → (((¬ v2 = 0) → (v_X6_isStuck_36 x1 I Q K4 v3)) ∧ ((v2 = 0) → ((pre_X6_has x1 v3 I) ∧ (∀ r1 : Int32, (post_X6_has x1 v3 I r1) → (((r1 = 0) → (v_X6_isStuck_40 x1 I Q K4 v3)) ∧ ((¬ (r1 = 0)) → (vp_in ((12 : Int32) + v3) 49 ∧ (((¬ (I 112 (((12 : Int32) + v3)).toNatClampNeg) = (1 : Int32)) → (v_X6_isStuck_40 x1 I Q K4 v3)) ∧ (((I 112 (((12 : Int32) + v3)).toNatClampNeg) = (1 : Int32)) → (v_X6_isStuck_36 x1 I Q K4 v3)))))))))))
def v_X6_isStuck_4 (x1 : Int32) (I : wI) (Q : Int32 → Prop) : Nat → Int32 → Int32 → Prop
  | 0 => fun _ _ => False
  | f + 1 => g_X6_isStuck_4 x1 I Q (v_X6_isStuck_4 x1 I Q f)
def v_X6_isStuck (x1 : Int32) (I : wI) (Q : Int32 → Prop) : Prop :=
  ∃ f : Nat, v_X6_isStuck_4 x1 I Q  f (0 : Int32) (0 : Int32)
def v_X6_isRight_57 (x1 : Int32) (I : wI) (Q : Int32 → Prop) (t0 : Int32) : Prop :=
  (t0 = 0 ∨ t0 = 1) ∧ Q t0
def v_X6_isRight_56 (x1 : Int32) (I : wI) (Q : Int32 → Prop)  : Prop :=
  v_X6_isRight_57 x1 I Q  (0 : Int32)
def v_X6_isRight (x1 : Int32) (I : wI) (Q : Int32 → Prop) : Prop :=
  vp_in (36 : Int32) 49 ∧ (((¬ (I 112 ((36 : Int32)).toNatClampNeg) = (1 : Int32)) → (v_X6_isRight_56 x1 I Q  )) ∧ (((I 112 ((36 : Int32)).toNatClampNeg) = (1 : Int32)) → (vp_in ((0 : Int32) + x1) 49 ∧ (vp_in ((37 : Int32) + x1) 49 ∧ (((¬ (I 112 (((0 : Int32) + x1)).toNatClampNeg) = (I 112 (((37 : Int32) + x1)).toNatClampNeg)) → (v_X6_isRight_56 x1 I Q  )) ∧ (((I 112 (((0 : Int32) + x1)).toNatClampNeg) = (I 112 (((37 : Int32) + x1)).toNatClampNeg)) → (vp_in ((6 : Int32) + x1) 49 ∧ (vp_in ((43 : Int32) + x1) 49 ∧ (((¬ (I 112 (((6 : Int32) + x1)).toNatClampNeg) = (I 112 (((43 : Int32) + x1)).toNatClampNeg)) → (v_X6_isRight_56 x1 I Q  )) ∧ (((I 112 (((6 : Int32) + x1)).toNatClampNeg) = (I 112 (((43 : Int32) + x1)).toNatClampNeg)) → (v_X6_isRight_57 x1 I Q  (1 : Int32))))))))))))
def v_X6_right_24  (I : wI) (Q : Int32 → Prop) (K4 : Int32 → Int32 → Prop) (v2 : Int32) (t0 : Int32) (t1 : Int32) : Prop :=
  K4 (t1 + t0) (v2 + (1 : Int32))
def g_X6_right_4  (I : wI) (Q : Int32 → Prop) (K4 : Int32 → Int32 → Prop) (v1 : Int32) (v2 : Int32) : Prop :=
  (((6 : Int32) ≤ v2) → (Q v1)) ∧ ((¬ ((6 : Int32) ≤ v2)) → ((pre_X6_isRight v2 I) ∧ (∀ r1 : Int32, (post_X6_isRight v2 I r1) → (((r1 = 0) → (v_X6_right_24  I Q K4 v2 (0 : Int32) v1)) ∧ ((¬ (r1 = 0)) → (v_X6_right_24  I Q K4 v2 (1 : Int32) v1))))))
def v_X6_right_4  (I : wI) (Q : Int32 → Prop) : Nat → Int32 → Int32 → Prop
  | 0 => fun _ _ => False
  | f + 1 => g_X6_right_4 I Q (v_X6_right_4 I Q f)
def v_X6_right  (I : wI) (Q : Int32 → Prop) : Prop :=
  ∃ f : Nat, v_X6_right_4  I Q  f (0 : Int32) (0 : Int32)
def v_X6_opens_14  (I : wI) (Q : Int32 → Prop) (t0 : Int32) : Prop :=
  (t0 = 0 ∨ t0 = 1) ∧ Q t0
def v_X6_opens  (I : wI) (Q : Int32 → Prop) : Prop :=
  (pre_X6_right  I) ∧ (∀ r1 : Int32, (post_X6_right  I r1) → (((¬ r1 = (6 : Int32)) → (v_X6_opens_14  I Q  (0 : Int32))) ∧ ((r1 = (6 : Int32)) → (v_X6_opens_14  I Q  (1 : Int32)))))
def v_X6_countTurn_117 (x1 : Int32) (Q : wI → Prop) (t0 : Int32) (t1 : Int32) (t2 : Int32) (I : wI) : Prop :=
  vp_in t2 49 ∧ ∀ I1 : wI, I1 = wU I 112 (t2).toNatClampNeg (t1 + t0) → (Q I1)
def v_X6_countTurn_116 (x1 : Int32) (Q : wI → Prop) (t0 : Int32) (t1 : Int32) (I : wI) : Prop :=
  v_X6_countTurn_117 x1 Q  (0 : Int32) t0 t1 I
def v_X6_countTurn_89 (x1 : Int32) (Q : wI → Prop) (v3 : Int32) (t0 : Int32) (t1 : Int32) (t2 : Int32) (I : wI) : Prop :=
  vp_in t2 49 ∧ ∀ I1 : wI, I1 = wU I 112 (t2).toNatClampNeg ((t1 + t0) - (t1 + t0) / (5 : Int32) * (5 : Int32)) → (vp_in (35 : Int32) 49 ∧ (((¬ v3 = 0) → (v_X6_countTurn_116 x1 Q  (I1 112 ((35 : Int32)).toNatClampNeg) (35 : Int32) I1)) ∧ ((v3 = 0) → ((pre_X6_opens  I1) ∧ (∀ r2 : Int32, (post_X6_opens  I1 r2) → (((r2 = 0) → (v_X6_countTurn_116 x1 Q  (I1 112 ((35 : Int32)).toNatClampNeg) (35 : Int32) I1)) ∧ ((¬ (r2 = 0)) → (v_X6_countTurn_117 x1 Q  (1 : Int32) (I1 112 ((35 : Int32)).toNatClampNeg) (35 : Int32) I1))))))))
def v_X6_countTurn (x1 : Int32) (I : wI) (Q : wI → Prop) : Prop :=
  (pre_X6_opens  I) ∧ (∀ r1 : Int32, (post_X6_opens  I r1) → ((pre_X6_doTurn x1 I) ∧ (∀ I2 : wI, (post_X6_doTurn x1 I I2) → (vp_in (33 : Int32) 49 ∧ (vp_in (33 : Int32) 49 ∧ ∀ I3 : wI, I3 = wU I2 112 ((33 : Int32)).toNatClampNeg ((I2 112 ((33 : Int32)).toNatClampNeg) + (1 : Int32)) → (vp_in ((28 : Int32) + (x1 - x1 / (5 : Int32) * (5 : Int32))) 49 ∧ (vp_in ((28 : Int32) + (x1 - x1 / (5 : Int32) * (5 : Int32))) 49 ∧ ∀ I4 : wI, I4 = wU I3 112 (((28 : Int32) + (x1 - x1 / (5 : Int32) * (5 : Int32)))).toNatClampNeg ((I3 112 (((28 : Int32) + (x1 - x1 / (5 : Int32) * (5 : Int32)))).toNatClampNeg) + (1 : Int32)) → (vp_in ((23 : Int32) + (x1 - x1 / (5 : Int32) * (5 : Int32))) 49 ∧ (vp_in ((18 : Int32) + (x1 - x1 / (5 : Int32) * (5 : Int32))) 49 ∧ ((pre_X6_ones (I4 112 (((18 : Int32) + (x1 - x1 / (5 : Int32) * (5 : Int32)))).toNatClampNeg) I4) ∧ (∀ r5 : Int32, (post_X6_ones (I4 112 (((18 : Int32) + (x1 - x1 / (5 : Int32) * (5 : Int32)))).toNatClampNeg) I4 r5) → (vp_in (34 : Int32) 49 ∧ ((((5 : Int32) ≤ x1) → (v_X6_countTurn_89 x1 Q  r1 ((4 : Int32) * ((I4 112 (((23 : Int32) + (x1 - x1 / (5 : Int32) * (5 : Int32)))).toNatClampNeg) * r5)) (I4 112 ((34 : Int32)).toNatClampNeg) (34 : Int32) I4)) ∧ ((¬ ((5 : Int32) ≤ x1)) → (v_X6_countTurn_89 x1 Q  r1 ((I4 112 (((23 : Int32) + (x1 - x1 / (5 : Int32) * (5 : Int32)))).toNatClampNeg) * r5) (I4 112 ((34 : Int32)).toNatClampNeg) (34 : Int32) I4)))))))))))))))
def v_X6_turnNow_25 (x1 : Int32) (x2 : Int32) (Q : Int32 → wI → Prop) (t0 : Int32) (I : wI) : Prop :=
  ∀ I1 : wI, I1 = wU I 111 0 t0 → ((((I1 111 0) ≤ 0) → ((pre_X6_record  I1) ∧ (∀ I2 : wI, (post_X6_record  I1 I2) → ((pre_X6_countTurn x2 I2) ∧ (∀ I3 : wI, (post_X6_countTurn x2 I2 I3) → ((pre_X6_right  I3) ∧ (∀ r4 : Int32, (post_X6_right  I3 r4) → (Q r4 I3)))))))) ∧ ((¬ ((I1 111 0) ≤ 0)) → (Q (0 : Int32) I1)))
def v_X6_turnNow (x1 : Int32) (x2 : Int32) (I : wI) (Q : Int32 → wI → Prop) : Prop :=
  (pre_X6_isKey x1 I) ∧ (∀ r1 : Int32, (post_X6_isKey x1 I r1) → (((¬ r1 = 0) → ((pre_X6_isStuck x1 I) ∧ (∀ r2 : Int32, (post_X6_isStuck x1 I r2) → (((r2 = 0) → (v_X6_turnNow_25 x1 x2 Q  (0 : Int32) I)) ∧ ((¬ (r2 = 0)) → (v_X6_turnNow_25 x1 x2 Q  (2 : Int32) I)))))) ∧ ((r1 = 0) → (v_X6_turnNow_25 x1 x2 Q  (1 : Int32) I))))
def v_X6_turn (x1 : Int32) (I : wI) (Q : Int32 → wI → Prop) : Prop :=
  (pre_X6_turnNow x1 x1 I) ∧ (∀ r1 : Int32, ∀ I2 : wI, (post_X6_turnNow x1 x1 I r1 I2) → (Q r1 I2))
def v_X6_back (x1 : Int32) (I : wI) (Q : Int32 → wI → Prop) : Prop :=
  (pre_X6_turnNow x1 ((5 : Int32) + x1) I) ∧ (∀ r1 : Int32, ∀ I2 : wI, (post_X6_turnNow x1 ((5 : Int32) + x1) I r1 I2) → (Q r1 I2))
def v_X6_takeSign_247 (x1 : Int32) (Q : Int32 → wI → Prop) (v2 : Int32) (t0 : Int32) (t1 : Int32) (I : wI) : Prop :=
  ∀ I1 : wI, I1 = wU I 111 18 (t1 - t0) → ((v2 = 0 ∨ v2 = 1) ∧ Q v2 I1)
def v_X6_takeSign_232 (x1 : Int32) (Q : Int32 → wI → Prop) (t0 : Int32) (I : wI) : Prop :=
  ((t0 = 0) → (v_X6_takeSign_247 x1 Q  t0 (0 : Int32) (I 111 18) I)) ∧ ((¬ (t0 = 0)) → (v_X6_takeSign_247 x1 Q  t0 (1 : Int32) (I 111 18) I))
def v_X6_takeSign_231 (x1 : Int32) (Q : Int32 → wI → Prop)  (I : wI) : Prop :=
  v_X6_takeSign_232 x1 Q  (0 : Int32) I
def v_X6_takeSign_227 (x1 : Int32) (Q : Int32 → wI → Prop)  (I : wI) : Prop :=
  v_X6_takeSign_232 x1 Q  (1 : Int32) I
def v_X6_takeSign_196 (x1 : Int32) (Q : Int32 → wI → Prop) (t0 : Int32) (I : wI) : Prop :=
  (t0 = 0 ∨ t0 = 1) ∧ (∀ I1 : wI, I1 = wU I 111 20 t0 → (((¬ (I1 111 20) = 0) → (v_X6_takeSign_227 x1 Q   I1)) ∧ (((I1 111 20) = 0) → (((¬ x1 = (93 : Int32)) → (v_X6_takeSign_231 x1 Q   I1)) ∧ ((x1 = (93 : Int32)) → (vp_in ((I1 111 18) - (1 : Int32)) 4 ∧ (((¬ (I1 119 (((I1 111 18) - (1 : Int32))).toNatClampNeg) = (3 : Int32)) → (v_X6_takeSign_231 x1 Q   I1)) ∧ (((I1 119 (((I1 111 18) - (1 : Int32))).toNatClampNeg) = (3 : Int32)) → (v_X6_takeSign_227 x1 Q   I1)))))))))
def v_X6_takeSign_195 (x1 : Int32) (Q : Int32 → wI → Prop)  (I : wI) : Prop :=
  v_X6_takeSign_196 x1 Q  (0 : Int32) I
def v_X6_takeSign_169 (x1 : Int32) (Q : Int32 → wI → Prop)  (I : wI) : Prop :=
  ((¬ x1 = (41 : Int32)) → (v_X6_takeSign_195 x1 Q   I)) ∧ ((x1 = (41 : Int32)) → (vp_in ((I 111 18) - (1 : Int32)) 4 ∧ (((¬ (I 119 (((I 111 18) - (1 : Int32))).toNatClampNeg) = (1 : Int32)) → (v_X6_takeSign_195 x1 Q   I)) ∧ (((I 119 (((I 111 18) - (1 : Int32))).toNatClampNeg) = (1 : Int32)) → (v_X6_takeSign_196 x1 Q  (1 : Int32) I)))))
def v_X6_takeSign_127 (x1 : Int32) (Q : Int32 → wI → Prop)  (I : wI) : Prop :=
  Q (0 : Int32) I
def v_X6_takeSign_95 (x1 : Int32) (Q : Int32 → wI → Prop) (t0 : Int32) (t1 : Int32) (I : wI) : Prop :=
  vp_in t1 4 ∧ ∀ I1 : wI, I1 = wU I 119 (t1).toNatClampNeg t0 → (∀ I2 : wI, I2 = wU I1 111 18 ((I1 111 18) + (1 : Int32)) → (∀ I3 : wI, I3 = wU I2 111 19 (0 : Int32) → (Q (1 : Int32) I3)))
def v_X6_takeSign_62 (x1 : Int32) (Q : Int32 → wI → Prop)  (I : wI) : Prop :=
  ((¬ (I 111 18) = (4 : Int32)) → (((¬ x1 = (40 : Int32)) → (v_X6_takeSign_95 x1 Q  (2 : Int32) (I 111 18) I)) ∧ ((x1 = (40 : Int32)) → (v_X6_takeSign_95 x1 Q  (1 : Int32) (I 111 18) I)))) ∧ (((I 111 18) = (4 : Int32)) → (Q (0 : Int32) I))
def v_X6_takeSign_43 (x1 : Int32) (Q : Int32 → wI → Prop)  (I : wI) : Prop :=
  ∀ I1 : wI, I1 = wU I 111 19 (1 : Int32) → (Q (1 : Int32) I1)
def v_X6_takeSign (x1 : Int32) (I : wI) (Q : Int32 → wI → Prop) : Prop :=
  (((I 111 20) = 0) → ((pre_X6_in x1 (97 : Int32) (101 : Int32) I) ∧ (∀ r1 : Int32, (post_X6_in x1 (97 : Int32) (101 : Int32) I r1) → (((¬ r1 = 0) → (v_X6_takeSign_43 x1 Q   I)) ∧ ((r1 = 0) → ((pre_X6_in x1 (65 : Int32) (69 : Int32) I) ∧ (∀ r2 : Int32, (post_X6_in x1 (65 : Int32) (69 : Int32) I r2) → (((r2 = 0) → (((x1 = (40 : Int32)) → (v_X6_takeSign_62 x1 Q   I)) ∧ ((¬ (x1 = (40 : Int32))) → (((¬ x1 = (91 : Int32)) → ((((I 111 18) = 0) → (v_X6_takeSign_127 x1 Q   I)) ∧ ((¬ ((I 111 18) = 0)) → (((¬ (I 111 19) = 0) → (((¬ x1 = (44 : Int32)) → (v_X6_takeSign_169 x1 Q   I)) ∧ ((x1 = (44 : Int32)) → (vp_in ((I 111 18) - (1 : Int32)) 4 ∧ (((¬ (I 119 (((I 111 18) - (1 : Int32))).toNatClampNeg) = (2 : Int32)) → (v_X6_takeSign_169 x1 Q   I)) ∧ (((I 119 (((I 111 18) - (1 : Int32))).toNatClampNeg) = (2 : Int32)) → (vp_in ((I 111 18) - (1 : Int32)) 4 ∧ ∀ I3 : wI, I3 = wU I 119 (((I 111 18) - (1 : Int32))).toNatClampNeg (3 : Int32) → (∀ I4 : wI, I4 = wU I3 111 19 (0 : Int32) → (Q (1 : Int32) I4))))))))) ∧ (((I 111 19) = 0) → (v_X6_takeSign_127 x1 Q   I)))))) ∧ ((x1 = (91 : Int32)) → (v_X6_takeSign_62 x1 Q   I)))))) ∧ ((¬ (r2 = 0)) → (v_X6_takeSign_43 x1 Q   I)))))))))) ∧ ((¬ ((I 111 20) = 0)) → (∀ I5 : wI, I5 = wU I 111 20 (0 : Int32) → ((pre_X6_in x1 (50 : Int32) (57 : Int32) I5) ∧ (∀ r6 : Int32, (post_X6_in x1 (50 : Int32) (57 : Int32) I5 r6) → ((r6 = 0 ∨ r6 = 1) ∧ Q r6 I5)))))
def v_X6_findError_44  (Q : Int32 → wI → Prop) (v1 : Int32) (I : wI) : Prop :=
  Q v1 I
def g_X6_findError_17  (Q : Int32 → wI → Prop) (K17 : Int32 → wI → Prop) (v1 : Int32) (I : wI) : Prop :=
  (((I 111 8) ≤ v1) → (v_X6_findError_44  Q  v1 I)) ∧ ((¬ ((I 111 8) ≤ v1)) → (vp_in v1 60 ∧ ((pre_X6_takeSign (I 116 (v1).toNatClampNeg) I) ∧ (∀ r1 : Int32, ∀ I2 : wI, (post_X6_takeSign (I 116 (v1).toNatClampNeg) I r1 I2) → (((r1 = 0) → (v_X6_findError_44  Q  v1 I2)) ∧ ((¬ (r1 = 0)) → (K17 (v1 + (1 : Int32)) I2)))))))
def v_X6_findError_17  (Q : Int32 → wI → Prop) : Nat → Int32 → wI → Prop
  | 0 => fun _ _ => False
  | f + 1 => g_X6_findError_17 Q (v_X6_findError_17 Q f)
def v_X6_findError  (I : wI) (Q : Int32 → wI → Prop) : Prop :=
  ∀ I1 : wI, I1 = wU I 111 18 (0 : Int32) → (∀ I2 : wI, I2 = wU I1 111 19 (0 : Int32) → (∀ I3 : wI, I3 = wU I2 111 20 (0 : Int32) → (∃ f : Nat, v_X6_findError_17  Q  f (0 : Int32) I3)))
def v_X6_isWhole_37  (Q : Int32 → wI → Prop) (t0 : Int32) (I : wI) : Prop :=
  (t0 = 0 ∨ t0 = 1) ∧ Q t0 I
def v_X6_isWhole_36  (Q : Int32 → wI → Prop)  (I : wI) : Prop :=
  v_X6_isWhole_37  Q  (0 : Int32) I
def v_X6_isWhole  (I : wI) (Q : Int32 → wI → Prop) : Prop :=
  (pre_X6_findError  I) ∧ (∀ r1 : Int32, ∀ I2 : wI, (post_X6_findError  I r1 I2) → (((¬ r1 = (I2 111 8)) → (v_X6_isWhole_36  Q   I2)) ∧ ((r1 = (I2 111 8)) → (((¬ (I2 111 18) = 0) → (v_X6_isWhole_36  Q   I2)) ∧ (((I2 111 18) = 0) → ((((I2 111 19) = 0) → (v_X6_isWhole_36  Q   I2)) ∧ ((¬ ((I2 111 19) = 0)) → (((¬ (I2 111 20) = 0) → (v_X6_isWhole_36  Q   I2)) ∧ (((I2 111 20) = 0) → (v_X6_isWhole_37  Q  (1 : Int32) I2))))))))))
def v_X6_away_40  (I : wI) (Q : Int32 → Prop) (K4 : Int32 → Int32 → Prop) (v2 : Int32) (t0 : Int32) (t1 : Int32) : Prop :=
  K4 (t1 + t0) (v2 + (1 : Int32))
def v_X6_away_35  (I : wI) (Q : Int32 → Prop) (K4 : Int32 → Int32 → Prop) (v2 : Int32) (t0 : Int32) : Prop :=
  v_X6_away_40  I Q K4 v2 (1 : Int32) t0
def g_X6_away_4  (I : wI) (Q : Int32 → Prop) (K4 : Int32 → Int32 → Prop) (v1 : Int32) (v2 : Int32) : Prop :=
  (((6 : Int32) ≤ v2) → (Q v1)) ∧ ((¬ ((6 : Int32) ≤ v2)) → (vp_in ((0 : Int32) + v2) 49 ∧ (((¬ (I 112 (((0 : Int32) + v2)).toNatClampNeg) = v2) → (v_X6_away_35  I Q K4 v2 v1)) ∧ (((I 112 (((0 : Int32) + v2)).toNatClampNeg) = v2) → (vp_in ((6 : Int32) + v2) 49 ∧ ((((I 112 (((6 : Int32) + v2)).toNatClampNeg) = 0) → (v_X6_away_40  I Q K4 v2 (0 : Int32) v1)) ∧ ((¬ ((I 112 (((6 : Int32) + v2)).toNatClampNeg) = 0)) → (v_X6_away_35  I Q K4 v2 v1))))))))
def v_X6_away_4  (I : wI) (Q : Int32 → Prop) : Nat → Int32 → Int32 → Prop
  | 0 => fun _ _ => False
  | f + 1 => g_X6_away_4 I Q (v_X6_away_4 I Q f)
def v_X6_away  (I : wI) (Q : Int32 → Prop) : Prop :=
  ∃ f : Nat, v_X6_away_4  I Q  f (0 : Int32) (0 : Int32)
def v_X6_home  (I : wI) (Q : Int32 → wI → Prop) : Prop :=
  ∀ I1 : wI, I1 = wU I 111 0 (0 : Int32) → ((pre_X6_record  I1) ∧ (∀ I2 : wI, (post_X6_record  I1 I2) → ((pre_X6_away  I2) ∧ (∀ r3 : Int32, (post_X6_away  I2 r3) → ((pre_X6_toFirst  I2) ∧ (∀ I4 : wI, (post_X6_toFirst  I2 I4) → (vp_in (34 : Int32) 49 ∧ ∀ I5 : wI, I5 = wU I4 112 ((34 : Int32)).toNatClampNeg (0 : Int32) → (Q r3 I5))))))))
def v_X6_cut_56 (x1 : Int32) (x2 : Int32) (x3 : Int32) (Q : Int32 → wI → Prop) (t0 : Int32) (I : wI) : Prop :=
  ∀ I1 : wI, I1 = wU I 111 0 t0 → ((((I1 111 0) ≤ 0) → ((pre_X6_record  I1) ∧ (∀ I2 : wI, (post_X6_record  I1 I2) → (vp_in ((18 : Int32) + x1) 49 ∧ (vp_in ((18 : Int32) + x1) 49 ∧ ∀ I3 : wI, I3 = wU I2 112 (((18 : Int32) + x1)).toNatClampNeg x2 → (vp_in ((23 : Int32) + x1) 49 ∧ ∀ I4 : wI, I4 = wU I3 112 (((23 : Int32) + x1)).toNatClampNeg x3 → (Q (I2 112 (((18 : Int32) + x1)).toNatClampNeg) I4))))))) ∧ ((¬ ((I1 111 0) ≤ 0)) → (Q (0 : Int32) I1)))
def v_X6_cut_32 (x1 : Int32) (x2 : Int32) (x3 : Int32) (Q : Int32 → wI → Prop) (t0 : Int32) (I : wI) : Prop :=
  (pre_X6_isKey x1 I) ∧ (∀ r1 : Int32, (post_X6_isKey x1 I r1) → (((¬ r1 = 0) → (((t0 = 0) → (v_X6_cut_56 x1 x2 x3 Q  (2 : Int32) I)) ∧ ((¬ (t0 = 0)) → (v_X6_cut_56 x1 x2 x3 Q  (0 : Int32) I)))) ∧ ((r1 = 0) → (v_X6_cut_56 x1 x2 x3 Q  (1 : Int32) I))))
def v_X6_cut_31 (x1 : Int32) (x2 : Int32) (x3 : Int32) (Q : Int32 → wI → Prop)  (I : wI) : Prop :=
  v_X6_cut_32 x1 x2 x3 Q  (0 : Int32) I
def v_X6_cut (x1 : Int32) (x2 : Int32) (x3 : Int32) (I : wI) (Q : Int32 → wI → Prop) : Prop :=
  (pre_X6_in x2 (0 : Int32) (63 : Int32) I) ∧ (∀ r1 : Int32, (post_X6_in x2 (0 : Int32) (63 : Int32) I r1) → (((r1 = 0) → (v_X6_cut_31 x1 x2 x3 Q   I)) ∧ ((¬ (r1 = 0)) → ((pre_X6_ones x2 I) ∧ (∀ r2 : Int32, (post_X6_ones x2 I r2) → (((r2 ≤ (1 : Int32)) → (v_X6_cut_31 x1 x2 x3 Q   I)) ∧ ((¬ (r2 ≤ (1 : Int32))) → ((pre_X6_in x3 (0 : Int32) (4 : Int32) I) ∧ (∀ r3 : Int32, (post_X6_in x3 (0 : Int32) (4 : Int32) I r3) → (((r3 = 0) → (v_X6_cut_31 x1 x2 x3 Q   I)) ∧ ((¬ (r3 = 0)) → (v_X6_cut_32 x1 x2 x3 Q  (1 : Int32) I))))))))))))
def v_X6_stuckKeys_23  (I : wI) (Q : Int32 → Prop) (K4 : Int32 → Int32 → Prop) (v2 : Int32) (t0 : Int32) (t1 : Int32) : Prop :=
  K4 (t1 + t0) (v2 + (1 : Int32))
def g_X6_stuckKeys_4  (I : wI) (Q : Int32 → Prop) (K4 : Int32 → Int32 → Prop) (v1 : Int32) (v2 : Int32) : Prop :=
  (((5 : Int32) ≤ v2) → (Q v1)) ∧ ((¬ ((5 : Int32) ≤ v2)) → ((pre_X6_isStuck v2 I) ∧ (∀ r1 : Int32, (post_X6_isStuck v2 I r1) → (((r1 = 0) → (v_X6_stuckKeys_23  I Q K4 v2 (0 : Int32) v1)) ∧ ((¬ (r1 = 0)) → (v_X6_stuckKeys_23  I Q K4 v2 (1 : Int32) v1))))))
def v_X6_stuckKeys_4  (I : wI) (Q : Int32 → Prop) : Nat → Int32 → Int32 → Prop
  | 0 => fun _ _ => False
  | f + 1 => g_X6_stuckKeys_4 I Q (v_X6_stuckKeys_4 I Q f)
def v_X6_stuckKeys  (I : wI) (Q : Int32 → Prop) : Prop :=
  ∃ f : Nat, v_X6_stuckKeys_4  I Q  f (0 : Int32) (0 : Int32)
def v_X6_stick_13 (x1 : Int32) (Q : Int32 → wI → Prop) (t0 : Int32) (I : wI) : Prop :=
  ∀ I1 : wI, I1 = wU I 111 0 t0 → ((((I1 111 0) ≤ 0) → ((pre_X6_record  I1) ∧ (∀ I2 : wI, (post_X6_record  I1 I2) → (vp_in ((12 : Int32) + x1) 49 ∧ (vp_in ((12 : Int32) + x1) 49 ∧ ∀ I3 : wI, I3 = wU I2 112 (((12 : Int32) + x1)).toNatClampNeg ((1 : Int32) - (I2 112 (((12 : Int32) + x1)).toNatClampNeg)) → ((pre_X6_stuckKeys  I3) ∧ (∀ r4 : Int32, (post_X6_stuckKeys  I3 r4) → (Q r4 I3)))))))) ∧ ((¬ ((I1 111 0) ≤ 0)) → (Q (0 : Int32) I1)))
def v_X6_stick (x1 : Int32) (I : wI) (Q : Int32 → wI → Prop) : Prop :=
  (pre_X6_isPlace x1 I) ∧ (∀ r1 : Int32, (post_X6_isPlace x1 I r1) → (((r1 = 0) → (v_X6_stick_13 x1 Q  (1 : Int32) I)) ∧ ((¬ (r1 = 0)) → (v_X6_stick_13 x1 Q  (0 : Int32) I))))
def g_X6_notches_4  (I : wI) (Q : Int32 → Prop) (K4 : Int32 → Int32 → Prop) (v1 : Int32) (v2 : Int32) : Prop :=
  (((6 : Int32) ≤ v2) → (Q v1)) ∧ ((¬ ((6 : Int32) ≤ v2)) → (vp_in ((6 : Int32) + v2) 49 ∧ (K4 (v1 + (I 112 (((6 : Int32) + v2)).toNatClampNeg)) (v2 + (1 : Int32)))))
def v_X6_notches_4  (I : wI) (Q : Int32 → Prop) : Nat → Int32 → Int32 → Prop
  | 0 => fun _ _ => False
  | f + 1 => g_X6_notches_4 I Q (v_X6_notches_4 I Q f)
def v_X6_notches  (I : wI) (Q : Int32 → Prop) : Prop :=
  ∃ f : Nat, v_X6_notches_4  I Q  f (0 : Int32) (0 : Int32)
def g_X6_learn_19  (Q : Int32 → wI → Prop) (K19 : Int32 → wI → Prop) (v1 : Int32) (I : wI) : Prop :=
  (((6 : Int32) ≤ v1) → ((pre_X6_notches  I) ∧ (∀ r1 : Int32, (post_X6_notches  I r1) → (Q r1 I)))) ∧ ((¬ ((6 : Int32) ≤ v1)) → (vp_in ((0 : Int32) + v1) 49 ∧ (vp_in ((37 : Int32) + v1) 49 ∧ ∀ I2 : wI, I2 = wU I 112 (((37 : Int32) + v1)).toNatClampNeg (I 112 (((0 : Int32) + v1)).toNatClampNeg) → (vp_in ((6 : Int32) + v1) 49 ∧ (vp_in ((43 : Int32) + v1) 49 ∧ ∀ I3 : wI, I3 = wU I2 112 (((43 : Int32) + v1)).toNatClampNeg (I2 112 (((6 : Int32) + v1)).toNatClampNeg) → (K19 (v1 + (1 : Int32)) I3))))))
def v_X6_learn_19  (Q : Int32 → wI → Prop) : Nat → Int32 → wI → Prop
  | 0 => fun _ _ => False
  | f + 1 => g_X6_learn_19 Q (v_X6_learn_19 Q f)
def v_X6_learn  (I : wI) (Q : Int32 → wI → Prop) : Prop :=
  ∀ I1 : wI, I1 = wU I 111 0 (0 : Int32) → ((pre_X6_record  I1) ∧ (∀ I2 : wI, (post_X6_record  I1 I2) → (vp_in (36 : Int32) 49 ∧ ∀ I3 : wI, I3 = wU I2 112 ((36 : Int32)).toNatClampNeg (1 : Int32) → (∃ f : Nat, v_X6_learn_19  Q  f (0 : Int32) I3))))
def v_X6_append_30 (x1 : Int32) (Q : Int32 → wI → Prop) (t0 : Int32) (I : wI) : Prop :=
  ∀ I1 : wI, I1 = wU I 111 0 t0 → ((((I1 111 0) ≤ 0) → (vp_in (I1 111 8) 60 ∧ ∀ I2 : wI, I2 = wU I1 116 ((I1 111 8)).toNatClampNeg x1 → (∀ I3 : wI, I3 = wU I2 111 8 ((I2 111 8) + (1 : Int32)) → (Q (I3 111 8) I3)))) ∧ ((¬ ((I1 111 0) ≤ 0)) → (Q (0 : Int32) I1)))
def v_X6_append (x1 : Int32) (I : wI) (Q : Int32 → wI → Prop) : Prop :=
  (pre_X6_in x1 (33 : Int32) (126 : Int32) I) ∧ (∀ r1 : Int32, (post_X6_in x1 (33 : Int32) (126 : Int32) I r1) → (((¬ r1 = 0) → (((¬ (I 111 8) = (60 : Int32)) → (v_X6_append_30 x1 Q  (0 : Int32) I)) ∧ (((I 111 8) = (60 : Int32)) → (v_X6_append_30 x1 Q  (2 : Int32) I)))) ∧ ((r1 = 0) → (v_X6_append_30 x1 Q  (1 : Int32) I))))
def v_X6_clearBuffer  (I : wI) (Q : Int32 → wI → Prop) : Prop :=
  ∀ I1 : wI, I1 = wU I 111 0 (0 : Int32) → (∀ I2 : wI, I2 = wU I1 111 8 (0 : Int32) → (Q (I1 111 8) I2))
def v_X6_firstError  (I : wI) (Q : Int32 → wI → Prop) : Prop :=
  ∀ I1 : wI, I1 = wU I 111 0 (0 : Int32) → ((pre_X6_findError  I1) ∧ (∀ r2 : Int32, ∀ I3 : wI, (post_X6_findError  I1 r2 I3) → (Q r2 I3)))
def v_X6_keysAt_26 (x1 : Int32) (I : wI) (Q : Int32 → Prop) (K4 : Int32 → Int32 → Prop) (v3 : Int32) (t0 : Int32) (t1 : Int32) : Prop :=
  K4 (t1 ||| t0) (v3 + (1 : Int32))
def g_X6_keysAt_4 (x1 : Int32) (I : wI) (Q : Int32 → Prop) (K4 : Int32 → Int32 → Prop) (v2 : Int32) (v3 : Int32) : Prop :=
  (((5 : Int32) ≤ v3) → (Q v2)) ∧ ((¬ ((5 : Int32) ≤ v3)) → ((pre_X6_has v3 x1 I) ∧ (∀ r1 : Int32, (post_X6_has v3 x1 I r1) → (((r1 = 0) → (v_X6_keysAt_26 x1 I Q K4 v3 (0 : Int32) v2)) ∧ ((¬ (r1 = 0)) → (v_X6_keysAt_26 x1 I Q K4 v3 ((1 : Int32) <<< (v3 &&& 31)) v2))))))
def v_X6_keysAt_4 (x1 : Int32) (I : wI) (Q : Int32 → Prop) : Nat → Int32 → Int32 → Prop
  | 0 => fun _ _ => False
  | f + 1 => g_X6_keysAt_4 x1 I Q (v_X6_keysAt_4 x1 I Q f)
def v_X6_keysAt (x1 : Int32) (I : wI) (Q : Int32 → Prop) : Prop :=
  ∃ f : Nat, v_X6_keysAt_4 x1 I Q  f (0 : Int32) (0 : Int32)
def v_X6_atNow_74 (x1 : Int32) (x2 : Int32) (I : wI) (Q : Int32 → Prop) (t0 : Int32) : Prop :=
  Q t0
def v_X6_atNow (x1 : Int32) (x2 : Int32) (I : wI) (Q : Int32 → Prop) : Prop :=
  (x2 = (0 : Int32) → (vp_in ((0 : Int32) + x1) 49 ∧ (Q (I 112 (((0 : Int32) + x1)).toNatClampNeg)))) ∧ (x2 = (1 : Int32) → (vp_in ((6 : Int32) + x1) 49 ∧ (Q (I 112 (((6 : Int32) + x1)).toNatClampNeg)))) ∧ (x2 = (2 : Int32) → (vp_in ((12 : Int32) + x1) 49 ∧ (Q (I 112 (((12 : Int32) + x1)).toNatClampNeg)))) ∧ (x2 = (3 : Int32) → ((pre_X6_isRight x1 I) ∧ (∀ r1 : Int32, (post_X6_isRight x1 I r1) → (((r1 = 0) → (v_X6_atNow_74 x1 x2 I Q  (0 : Int32))) ∧ ((¬ (r1 = 0)) → (v_X6_atNow_74 x1 x2 I Q  (1 : Int32))))))) ∧ ((¬ x2 = (0 : Int32) ∧ ¬ x2 = (1 : Int32) ∧ ¬ x2 = (2 : Int32) ∧ ¬ x2 = (3 : Int32)) → ((pre_X6_keysAt x1 I) ∧ (∀ r2 : Int32, (post_X6_keysAt x1 I r2) → (Q r2))))
def v_X6_at_46 (x1 : Int32) (x2 : Int32) (Q : Int32 → wI → Prop) (t0 : Int32) (I : wI) : Prop :=
  Q t0 I
def v_X6_at_26 (x1 : Int32) (x2 : Int32) (Q : Int32 → wI → Prop) (t0 : Int32) (I : wI) : Prop :=
  ∀ I1 : wI, I1 = wU I 111 0 t0 → ((((I1 111 0) ≤ 0) → ((pre_X6_atNow x1 x2 I1) ∧ (∀ r2 : Int32, (post_X6_atNow x1 x2 I1 r2) → (v_X6_at_46 x1 x2 Q  r2 I1)))) ∧ ((¬ ((I1 111 0) ≤ 0)) → (v_X6_at_46 x1 x2 Q  (0 : Int32) I1)))
def v_X6_at (x1 : Int32) (x2 : Int32) (I : wI) (Q : Int32 → wI → Prop) : Prop :=
  (pre_X6_isPlace x1 I) ∧ (∀ r1 : Int32, (post_X6_isPlace x1 I r1) → (((¬ r1 = 0) → ((pre_X6_in x2 (0 : Int32) (4 : Int32) I) ∧ (∀ r2 : Int32, (post_X6_in x2 (0 : Int32) (4 : Int32) I r2) → (((r2 = 0) → (v_X6_at_26 x1 x2 Q  (2 : Int32) I)) ∧ ((¬ (r2 = 0)) → (v_X6_at_26 x1 x2 Q  (0 : Int32) I)))))) ∧ ((r1 = 0) → (v_X6_at_26 x1 x2 Q  (1 : Int32) I))))
def v_X6_reach_42  (I : wI) (Q : Int32 → Prop) (K4 : Int32 → Int32 → Prop) (v2 : Int32) (t0 : Int32) (t1 : Int32) : Prop :=
  K4 (t1 ||| t0) (v2 + (1 : Int32))
def v_X6_reach_35  (I : wI) (Q : Int32 → Prop) (K4 : Int32 → Int32 → Prop) (v2 : Int32) (t0 : Int32) : Prop :=
  v_X6_reach_42  I Q K4 v2 ((1 : Int32) <<< (v2 &&& 31)) t0
def g_X6_reach_4  (I : wI) (Q : Int32 → Prop) (K4 : Int32 → Int32 → Prop) (v1 : Int32) (v2 : Int32) : Prop :=
  (((6 : Int32) ≤ v2) → (Q v1)) ∧ ((¬ ((6 : Int32) ≤ v2)) → (vp_in ((0 : Int32) + v2) 49 ∧ (((¬ (I 112 (((0 : Int32) + v2)).toNatClampNeg) = v2) → (v_X6_reach_35  I Q K4 v2 v1)) ∧ (((I 112 (((0 : Int32) + v2)).toNatClampNeg) = v2) → (vp_in ((6 : Int32) + v2) 49 ∧ ((((I 112 (((6 : Int32) + v2)).toNatClampNeg) = 0) → (v_X6_reach_42  I Q K4 v2 (0 : Int32) v1)) ∧ ((¬ ((I 112 (((6 : Int32) + v2)).toNatClampNeg) = 0)) → (v_X6_reach_35  I Q K4 v2 v1))))))))
def v_X6_reach_4  (I : wI) (Q : Int32 → Prop) : Nat → Int32 → Int32 → Prop
  | 0 => fun _ _ => False
  | f + 1 => g_X6_reach_4 I Q (v_X6_reach_4 I Q f)
def v_X6_reach  (I : wI) (Q : Int32 → Prop) : Prop :=
  ∃ f : Nat, v_X6_reach_4  I Q  f (0 : Int32) (0 : Int32)
def g_X6_common_4 (x0 : Int32) (x1 : Int32) (I : wI) (Q : Int32 → Prop) (K4 : Int32 → Int32 → Prop) (v2 : Int32) (v3 : Int32) : Prop :=
  ((v3 ≤ 0) → (Q v2)) ∧ ((¬ (v3 ≤ 0)) → ((¬ v3 = 0) ∧ (K4 v3 (v2 - v2 / v3 * v3))))
def v_X6_common_4 (x0 : Int32) (x1 : Int32) (I : wI) (Q : Int32 → Prop) : Nat → Int32 → Int32 → Prop
  | 0 => fun _ _ => False
  | f + 1 => g_X6_common_4 x0 x1 I Q (v_X6_common_4 x0 x1 I Q f)
def v_X6_common (x0 : Int32) (x1 : Int32) (I : wI) (Q : Int32 → Prop) : Prop :=
  ∃ f : Nat, v_X6_common_4 x0 x1 I Q  f x0 x1
def v_X6_period_101  (I : wI) (Q : Int32 → Prop) (K4 : Int32 → Int32 → Prop) (v1 : Int32) (v2 : Int32) (t0 : Int32) : Prop :=
  (pre_X6_common v1 t0 I) ∧ (∀ r1 : Int32, (post_X6_common v1 t0 I r1) → ((¬ r1 = 0) ∧ (K4 ((v1 / r1) * t0) (v2 + (1 : Int32)))))
def v_X6_period_82  (I : wI) (Q : Int32 → Prop) (K4 : Int32 → Int32 → Prop) (K21 : Int32 → Int32 → Int32 → Int32 → Int32 → Int32 → Prop) (v1 : Int32) (v2 : Int32) (v3 : Int32) (v4 : Int32) (v5 : Int32) (t0 : Int32) : Prop :=
  K21 v1 v2 v3 v4 v5 t0
def g_X6_period_29  (I : wI) (Q : Int32 → Prop) (K4 : Int32 → Int32 → Prop) (K21 : Int32 → Int32 → Int32 → Int32 → Int32 → Int32 → Prop) (K29 : Int32 → Int32 → Int32 → Int32 → Int32 → Int32 → Prop) (v1 : Int32) (v2 : Int32) (v3 : Int32) (v4 : Int32) (v5 : Int32) (v7 : Int32) : Prop :=
  vp_in ((0 : Int32) + v7) 49 ∧ ((((I 112 (((0 : Int32) + v7)).toNatClampNeg) = v5) → (vp_in ((6 : Int32) + v7) 49 ∧ (((v7 = v2) → (v_X6_period_82  I Q K4 K21 v1 v2 (v3 + (1 : Int32)) (v4 + (I 112 (((6 : Int32) + v7)).toNatClampNeg)) v7 (0 : Int32))) ∧ ((¬ (v7 = v2)) → (v_X6_period_82  I Q K4 K21 v1 v2 (v3 + (1 : Int32)) (v4 + (I 112 (((6 : Int32) + v7)).toNatClampNeg)) v7 (1 : Int32)))))) ∧ ((¬ ((I 112 (((0 : Int32) + v7)).toNatClampNeg) = v5)) → (K29 v1 v2 v3 v4 v5 (v7 + (1 : Int32)))))
def v_X6_period_29  (I : wI) (Q : Int32 → Prop) (K4 : Int32 → Int32 → Prop) (K21 : Int32 → Int32 → Int32 → Int32 → Int32 → Int32 → Prop) : Nat → Int32 → Int32 → Int32 → Int32 → Int32 → Int32 → Prop
  | 0 => fun _ _ _ _ _ _ => False
  | f + 1 => g_X6_period_29 I Q K4 K21 (v_X6_period_29 I Q K4 K21 f)
def g_X6_period_21  (I : wI) (Q : Int32 → Prop) (K4 : Int32 → Int32 → Prop) (K21 : Int32 → Int32 → Int32 → Int32 → Int32 → Int32 → Prop) (v1 : Int32) (v2 : Int32) (v3 : Int32) (v4 : Int32) (v5 : Int32) (v6 : Int32) : Prop :=
  ((v6 = 0) → (((¬ (v4 - v4 / (5 : Int32) * (5 : Int32)) = 0) → (v_X6_period_101  I Q K4 v1 v2 ((5 : Int32) * v3))) ∧ (((v4 - v4 / (5 : Int32) * (5 : Int32)) = 0) → (v_X6_period_101  I Q K4 v1 v2 v3)))) ∧ ((¬ (v6 = 0)) → (∃ f : Nat, v_X6_period_29  I Q K4 K21 f v1 v2 v3 v4 v5 (0 : Int32)))
def v_X6_period_21  (I : wI) (Q : Int32 → Prop) (K4 : Int32 → Int32 → Prop) : Nat → Int32 → Int32 → Int32 → Int32 → Int32 → Int32 → Prop
  | 0 => fun _ _ _ _ _ _ => False
  | f + 1 => g_X6_period_21 I Q K4 (v_X6_period_21 I Q K4 f)
def g_X6_period_4  (I : wI) (Q : Int32 → Prop) (K4 : Int32 → Int32 → Prop) (v1 : Int32) (v2 : Int32) : Prop :=
  (((6 : Int32) ≤ v2) → (Q v1)) ∧ ((¬ ((6 : Int32) ≤ v2)) → (∃ f : Nat, v_X6_period_21  I Q K4 f v1 v2 (0 : Int32) (0 : Int32) v2 (1 : Int32)))
def v_X6_period_4  (I : wI) (Q : Int32 → Prop) : Nat → Int32 → Int32 → Prop
  | 0 => fun _ _ => False
  | f + 1 => g_X6_period_4 I Q (v_X6_period_4 I Q f)
def v_X6_period  (I : wI) (Q : Int32 → Prop) : Prop :=
  ∃ f : Nat, v_X6_period_4  I Q  f (1 : Int32) (0 : Int32)
def v_X6_keyPeriod (x1 : Int32) (I : wI) (Q : Int32 → wI → Prop) : Prop :=
  (pre_X6_putAside  I) ∧ (∀ I1 : wI, (post_X6_putAside  I I1) → ((pre_X6_toFirst  I1) ∧ (∀ I2 : wI, (post_X6_toFirst  I1 I2) → ((pre_X6_doTurn x1 I2) ∧ (∀ I3 : wI, (post_X6_doTurn x1 I2 I3) → ((pre_X6_period  I3) ∧ (∀ r4 : Int32, (post_X6_period  I3 r4) → ((pre_X6_putBack  I3) ∧ (∀ I5 : wI, (post_X6_putBack  I3 I5) → (Q r4 I5))))))))))
def v_X6_keyNow_75 (x1 : Int32) (x2 : Int32) (Q : Int32 → wI → Prop) (t0 : Int32) (I : wI) : Prop :=
  Q t0 I
def v_X6_keyNow_56 (x1 : Int32) (x2 : Int32) (Q : Int32 → wI → Prop)  (I : wI) : Prop :=
  (pre_X6_keyPeriod x1 I) ∧ (∀ r1 : Int32, ∀ I2 : wI, (post_X6_keyPeriod x1 I r1 I2) → (Q r1 I2))
def v_X6_keyNow (x1 : Int32) (x2 : Int32) (I : wI) (Q : Int32 → wI → Prop) : Prop :=
  (x2 = (0 : Int32) → (vp_in ((18 : Int32) + x1) 49 ∧ (Q (I 112 (((18 : Int32) + x1)).toNatClampNeg) I))) ∧ (x2 = (1 : Int32) → (vp_in ((23 : Int32) + x1) 49 ∧ (Q (I 112 (((23 : Int32) + x1)).toNatClampNeg) I))) ∧ (x2 = (2 : Int32) → (v_X6_keyNow_56 x1 x2 Q   I)) ∧ (x2 = (3 : Int32) → (v_X6_keyNow_56 x1 x2 Q   I)) ∧ (x2 = (4 : Int32) → ((pre_X6_isStuck x1 I) ∧ (∀ r1 : Int32, (post_X6_isStuck x1 I r1) → (((r1 = 0) → (v_X6_keyNow_75 x1 x2 Q  (0 : Int32) I)) ∧ ((¬ (r1 = 0)) → (v_X6_keyNow_75 x1 x2 Q  (1 : Int32) I)))))) ∧ ((¬ x2 = (0 : Int32) ∧ ¬ x2 = (1 : Int32) ∧ ¬ x2 = (2 : Int32) ∧ ¬ x2 = (3 : Int32) ∧ ¬ x2 = (4 : Int32)) → (vp_in ((28 : Int32) + x1) 49 ∧ (Q (I 112 (((28 : Int32) + x1)).toNatClampNeg) I)))
def v_X6_key_46 (x1 : Int32) (x2 : Int32) (Q : Int32 → wI → Prop) (t0 : Int32) (I : wI) : Prop :=
  Q t0 I
def v_X6_key_26 (x1 : Int32) (x2 : Int32) (Q : Int32 → wI → Prop) (t0 : Int32) (I : wI) : Prop :=
  ∀ I1 : wI, I1 = wU I 111 0 t0 → ((((I1 111 0) ≤ 0) → ((pre_X6_keyNow x1 x2 I1) ∧ (∀ r2 : Int32, ∀ I3 : wI, (post_X6_keyNow x1 x2 I1 r2 I3) → (v_X6_key_46 x1 x2 Q  r2 I3)))) ∧ ((¬ ((I1 111 0) ≤ 0)) → (v_X6_key_46 x1 x2 Q  (0 : Int32) I1)))
def v_X6_key (x1 : Int32) (x2 : Int32) (I : wI) (Q : Int32 → wI → Prop) : Prop :=
  (pre_X6_isKey x1 I) ∧ (∀ r1 : Int32, (post_X6_isKey x1 I r1) → (((¬ r1 = 0) → ((pre_X6_in x2 (0 : Int32) (5 : Int32) I) ∧ (∀ r2 : Int32, (post_X6_in x2 (0 : Int32) (5 : Int32) I r2) → (((r2 = 0) → (v_X6_key_26 x1 x2 Q  (2 : Int32) I)) ∧ ((¬ (r2 = 0)) → (v_X6_key_26 x1 x2 Q  (0 : Int32) I)))))) ∧ ((r1 = 0) → (v_X6_key_26 x1 x2 Q  (1 : Int32) I))))
def v_X6_pairNow_82 (x1 : Int32) (x2 : Int32) (x3 : Int32) (Q : Int32 → wI → Prop) (t0 : Int32) (I : wI) : Prop :=
  (pre_X6_putBack  I) ∧ (∀ I1 : wI, (post_X6_putBack  I I1) → (Q t0 I1))
def v_X6_pairNow (x1 : Int32) (x2 : Int32) (x3 : Int32) (I : wI) (Q : Int32 → wI → Prop) : Prop :=
  (pre_X6_putAside  I) ∧ (∀ I1 : wI, (post_X6_putAside  I I1) → ((pre_X6_toFirst  I1) ∧ (∀ I2 : wI, (post_X6_toFirst  I1 I2) → ((pre_X6_doTurn x1 I2) ∧ (∀ I3 : wI, (post_X6_doTurn x1 I2 I3) → ((pre_X6_doTurn x2 I3) ∧ (∀ I4 : wI, (post_X6_doTurn x2 I3 I4) → ((pre_X6_doTurn ((5 : Int32) + x1) I4) ∧ (∀ I5 : wI, (post_X6_doTurn ((5 : Int32) + x1) I4 I5) → ((pre_X6_doTurn ((5 : Int32) + x2) I5) ∧ (∀ I6 : wI, (post_X6_doTurn ((5 : Int32) + x2) I5 I6) → ((pre_X6_reach  I6) ∧ (∀ r7 : Int32, (post_X6_reach  I6 r7) → (((¬ x3 = 0) → (((¬ x3 = (1 : Int32)) → (((¬ x3 = (4 : Int32)) → ((pre_X6_period  I6) ∧ (∀ r8 : Int32, (post_X6_period  I6 r8) → (v_X6_pairNow_82 x1 x2 x3 Q  r8 I6)))) ∧ ((x3 = (4 : Int32)) → (((¬ r7 = 0) → (v_X6_pairNow_82 x1 x2 x3 Q  (0 : Int32) I6)) ∧ ((r7 = 0) → (v_X6_pairNow_82 x1 x2 x3 Q  (1 : Int32) I6)))))) ∧ ((x3 = (1 : Int32)) → ((pre_X6_ones r7 I6) ∧ (∀ r9 : Int32, (post_X6_ones r7 I6 r9) → (v_X6_pairNow_82 x1 x2 x3 Q  r9 I6)))))) ∧ ((x3 = 0) → (v_X6_pairNow_82 x1 x2 x3 Q  r7 I6))))))))))))))))
def v_X6_pair_54 (x1 : Int32) (x2 : Int32) (x3 : Int32) (Q : Int32 → wI → Prop) (t0 : Int32) (I : wI) : Prop :=
  Q t0 I
def v_X6_pair_33 (x1 : Int32) (x2 : Int32) (x3 : Int32) (Q : Int32 → wI → Prop) (t0 : Int32) (I : wI) : Prop :=
  ∀ I1 : wI, I1 = wU I 111 0 t0 → ((((I1 111 0) ≤ 0) → ((pre_X6_pairNow x1 x2 x3 I1) ∧ (∀ r2 : Int32, ∀ I3 : wI, (post_X6_pairNow x1 x2 x3 I1 r2 I3) → (v_X6_pair_54 x1 x2 x3 Q  r2 I3)))) ∧ ((¬ ((I1 111 0) ≤ 0)) → (v_X6_pair_54 x1 x2 x3 Q  (0 : Int32) I1)))
def v_X6_pair_15 (x1 : Int32) (x2 : Int32) (x3 : Int32) (Q : Int32 → wI → Prop)  (I : wI) : Prop :=
  v_X6_pair_33 x1 x2 x3 Q  (1 : Int32) I
def v_X6_pair (x1 : Int32) (x2 : Int32) (x3 : Int32) (I : wI) (Q : Int32 → wI → Prop) : Prop :=
  (pre_X6_isKey x1 I) ∧ (∀ r1 : Int32, (post_X6_isKey x1 I r1) → (((r1 = 0) → (v_X6_pair_15 x1 x2 x3 Q   I)) ∧ ((¬ (r1 = 0)) → ((pre_X6_isKey x2 I) ∧ (∀ r2 : Int32, (post_X6_isKey x2 I r2) → (((¬ r2 = 0) → ((pre_X6_in x3 (0 : Int32) (4 : Int32) I) ∧ (∀ r3 : Int32, (post_X6_in x3 (0 : Int32) (4 : Int32) I r3) → (((r3 = 0) → (v_X6_pair_33 x1 x2 x3 Q  (2 : Int32) I)) ∧ ((¬ (r3 = 0)) → (v_X6_pair_33 x1 x2 x3 Q  (0 : Int32) I)))))) ∧ ((r2 = 0) → (v_X6_pair_15 x1 x2 x3 Q   I))))))))
def g_X6_stuckPlaces_4  (I : wI) (Q : Int32 → Prop) (K4 : Int32 → Int32 → Prop) (v1 : Int32) (v2 : Int32) : Prop :=
  (((6 : Int32) ≤ v2) → (Q v1)) ∧ ((¬ ((6 : Int32) ≤ v2)) → (vp_in ((12 : Int32) + v2) 49 ∧ (K4 (v1 + (I 112 (((12 : Int32) + v2)).toNatClampNeg)) (v2 + (1 : Int32)))))
def v_X6_stuckPlaces_4  (I : wI) (Q : Int32 → Prop) : Nat → Int32 → Int32 → Prop
  | 0 => fun _ _ => False
  | f + 1 => g_X6_stuckPlaces_4 I Q (v_X6_stuckPlaces_4 I Q f)
def v_X6_stuckPlaces  (I : wI) (Q : Int32 → Prop) : Prop :=
  ∃ f : Nat, v_X6_stuckPlaces_4  I Q  f (0 : Int32) (0 : Int32)
def v_X6_countNow_95 (x1 : Int32) (I : wI) (Q : Int32 → Prop) (t0 : Int32) : Prop :=
  Q t0
def v_X6_countNow (x1 : Int32) (I : wI) (Q : Int32 → Prop) : Prop :=
  (x1 = (0 : Int32) → (vp_in (33 : Int32) 49 ∧ (Q (I 112 ((33 : Int32)).toNatClampNeg)))) ∧ (x1 = (1 : Int32) → ((pre_X6_notches  I) ∧ (∀ r1 : Int32, (post_X6_notches  I r1) → (Q (r1 - r1 / (5 : Int32) * (5 : Int32)))))) ∧ (x1 = (2 : Int32) → (vp_in (34 : Int32) 49 ∧ (Q (I 112 ((34 : Int32)).toNatClampNeg)))) ∧ (x1 = (3 : Int32) → ((pre_X6_away  I) ∧ (∀ r2 : Int32, (post_X6_away  I r2) → (Q ((6 : Int32) - r2))))) ∧ (x1 = (4 : Int32) → ((pre_X6_opens  I) ∧ (∀ r3 : Int32, (post_X6_opens  I r3) → (((r3 = 0) → (v_X6_countNow_95 x1 I Q  (0 : Int32))) ∧ ((¬ (r3 = 0)) → (v_X6_countNow_95 x1 I Q  (1 : Int32))))))) ∧ (x1 = (5 : Int32) → ((pre_X6_right  I) ∧ (∀ r4 : Int32, (post_X6_right  I r4) → (Q r4)))) ∧ (x1 = (6 : Int32) → ((pre_X6_stuckPlaces  I) ∧ (∀ r5 : Int32, (post_X6_stuckPlaces  I r5) → (Q r5)))) ∧ (x1 = (7 : Int32) → ((pre_X6_stuckKeys  I) ∧ (∀ r6 : Int32, (post_X6_stuckKeys  I r6) → (Q r6)))) ∧ (x1 = (8 : Int32) → (vp_in (35 : Int32) 49 ∧ (Q (I 112 ((35 : Int32)).toNatClampNeg)))) ∧ ((¬ x1 = (0 : Int32) ∧ ¬ x1 = (1 : Int32) ∧ ¬ x1 = (2 : Int32) ∧ ¬ x1 = (3 : Int32) ∧ ¬ x1 = (4 : Int32) ∧ ¬ x1 = (5 : Int32) ∧ ¬ x1 = (6 : Int32) ∧ ¬ x1 = (7 : Int32) ∧ ¬ x1 = (8 : Int32)) → (Q (I 111 4)))
def v_X6_count_35 (x1 : Int32) (Q : Int32 → wI → Prop) (t0 : Int32) (I : wI) : Prop :=
  Q t0 I
def v_X6_count_16 (x1 : Int32) (Q : Int32 → wI → Prop) (t0 : Int32) (I : wI) : Prop :=
  ∀ I1 : wI, I1 = wU I 111 0 t0 → ((((I1 111 0) ≤ 0) → ((pre_X6_countNow x1 I1) ∧ (∀ r2 : Int32, (post_X6_countNow x1 I1 r2) → (v_X6_count_35 x1 Q  r2 I1)))) ∧ ((¬ ((I1 111 0) ≤ 0)) → (v_X6_count_35 x1 Q  (0 : Int32) I1)))
def v_X6_count (x1 : Int32) (I : wI) (Q : Int32 → wI → Prop) : Prop :=
  (pre_X6_in x1 (0 : Int32) (9 : Int32) I) ∧ (∀ r1 : Int32, (post_X6_in x1 (0 : Int32) (9 : Int32) I r1) → (((r1 = 0) → (v_X6_count_16 x1 Q  (1 : Int32) I)) ∧ ((¬ (r1 = 0)) → (v_X6_count_16 x1 Q  (0 : Int32) I))))
def v_X6_rightIf (x1 : Int32) (x2 : Int32) (I : wI) (Q : Int32 → wI → Prop) : Prop :=
  (pre_X6_putAside  I) ∧ (∀ I1 : wI, (post_X6_putAside  I I1) → ((pre_X6_doTurn (((5 : Int32) * x2) + x1) I1) ∧ (∀ I2 : wI, (post_X6_doTurn (((5 : Int32) * x2) + x1) I1 I2) → ((pre_X6_right  I2) ∧ (∀ r3 : Int32, (post_X6_right  I2 r3) → ((pre_X6_putBack  I2) ∧ (∀ I4 : wI, (post_X6_putBack  I2 I4) → (Q r3 I4))))))))
def v_X6_ifTurned_46 (x1 : Int32) (x2 : Int32) (Q : Int32 → wI → Prop) (t0 : Int32) (I : wI) : Prop :=
  Q t0 I
def v_X6_ifTurned_26 (x1 : Int32) (x2 : Int32) (Q : Int32 → wI → Prop) (t0 : Int32) (I : wI) : Prop :=
  ∀ I1 : wI, I1 = wU I 111 0 t0 → ((((I1 111 0) ≤ 0) → ((pre_X6_rightIf x1 x2 I1) ∧ (∀ r2 : Int32, ∀ I3 : wI, (post_X6_rightIf x1 x2 I1 r2 I3) → (v_X6_ifTurned_46 x1 x2 Q  r2 I3)))) ∧ ((¬ ((I1 111 0) ≤ 0)) → (v_X6_ifTurned_46 x1 x2 Q  (0 : Int32) I1)))
def v_X6_ifTurned (x1 : Int32) (x2 : Int32) (I : wI) (Q : Int32 → wI → Prop) : Prop :=
  (pre_X6_isKey x1 I) ∧ (∀ r1 : Int32, (post_X6_isKey x1 I r1) → (((¬ r1 = 0) → ((pre_X6_in x2 (0 : Int32) (1 : Int32) I) ∧ (∀ r2 : Int32, (post_X6_in x2 (0 : Int32) (1 : Int32) I r2) → (((r2 = 0) → (v_X6_ifTurned_26 x1 x2 Q  (2 : Int32) I)) ∧ ((¬ (r2 = 0)) → (v_X6_ifTurned_26 x1 x2 Q  (0 : Int32) I)))))) ∧ ((r1 = 0) → (v_X6_ifTurned_26 x1 x2 Q  (1 : Int32) I))))
def v_X6_findClosest_49  (Q : Int32 → wI → Prop) (K7 : Int32 → Int32 → Int32 → wI → Prop) (K17 : Int32 → Int32 → Int32 → Int32 → wI → Prop) (v1 : Int32) (v2 : Int32) (v3 : Int32) (v4 : Int32) (I : wI) : Prop :=
  K17 v1 v2 v3 (v4 + (1 : Int32)) I
def g_X6_findClosest_17  (Q : Int32 → wI → Prop) (K7 : Int32 → Int32 → Int32 → wI → Prop) (K17 : Int32 → Int32 → Int32 → Int32 → wI → Prop) (v1 : Int32) (v2 : Int32) (v3 : Int32) (v4 : Int32) (I : wI) : Prop :=
  (((5 : Int32) ≤ v4) → (K7 v1 v2 (v3 + (1 : Int32)) I)) ∧ ((¬ ((5 : Int32) ≤ v4)) → ((pre_X6_pairNow v3 v4 (1 : Int32) I) ∧ (∀ r1 : Int32, ∀ I2 : wI, (post_X6_pairNow v3 v4 (1 : Int32) I r1 I2) → (((v2 ≤ r1) → (v_X6_findClosest_49  Q K7 K17 v1 v2 v3 v4 I2)) ∧ ((¬ (v2 ≤ r1)) → (v_X6_findClosest_49  Q K7 K17 (((5 : Int32) * v3) + v4) r1 v3 v4 I2))))))
def v_X6_findClosest_17  (Q : Int32 → wI → Prop) (K7 : Int32 → Int32 → Int32 → wI → Prop) : Nat → Int32 → Int32 → Int32 → Int32 → wI → Prop
  | 0 => fun _ _ _ _ _ => False
  | f + 1 => g_X6_findClosest_17 Q K7 (v_X6_findClosest_17 Q K7 f)
def g_X6_findClosest_7  (Q : Int32 → wI → Prop) (K7 : Int32 → Int32 → Int32 → wI → Prop) (v1 : Int32) (v2 : Int32) (v3 : Int32) (I : wI) : Prop :=
  (((5 : Int32) ≤ v3) → (Q v1 I)) ∧ ((¬ ((5 : Int32) ≤ v3)) → (∃ f : Nat, v_X6_findClosest_17  Q K7 f v1 v2 v3 (v3 + (1 : Int32)) I))
def v_X6_findClosest_7  (Q : Int32 → wI → Prop) : Nat → Int32 → Int32 → Int32 → wI → Prop
  | 0 => fun _ _ _ _ => False
  | f + 1 => g_X6_findClosest_7 Q (v_X6_findClosest_7 Q f)
def v_X6_findClosest  (I : wI) (Q : Int32 → wI → Prop) : Prop :=
  ∃ f : Nat, v_X6_findClosest_7  Q  f (-1 : Int32) (7 : Int32) (0 : Int32) I
def v_X6_closest  (I : wI) (Q : Int32 → wI → Prop) : Prop :=
  ∀ I1 : wI, I1 = wU I 111 0 (0 : Int32) → ((pre_X6_findClosest  I1) ∧ (∀ r2 : Int32, ∀ I3 : wI, (post_X6_findClosest  I1 r2 I3) → (Q r2 I3)))
