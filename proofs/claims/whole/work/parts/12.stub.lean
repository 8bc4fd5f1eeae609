def pre_X5_moveOf (x0 : Int32) (x1 : Int32) (I : wI) : Prop := 0 ≤ I 0 0
def post_X5_moveOf (x0 : Int32) (x1 : Int32) (I : wI) (r : Int32) : Prop := I 0 0 ≤ 0
def pre_X5_keyOf (x0 : Int32) (I : wI) : Prop := 0 ≤ I 0 0
def post_X5_keyOf (x0 : Int32) (I : wI) (r : Int32) : Prop := I 0 0 ≤ 0
def pre_X1_maskOf (k : Nat) (x1 : Int32) (I : wI) : Prop := 0 ≤ I 0 0
def post_X1_maskOf (k : Nat) (x1 : Int32) (I : wI) (r : Int32) : Prop := I 0 0 ≤ 0
def pre_X3_allows (k : Nat) (x1 : Int32) (I : wI) : Prop := 0 ≤ I 0 0
def post_X3_allows (k : Nat) (x1 : Int32) (I : wI) (r : Int32) : Prop := I 0 0 ≤ 0
def pre_X0_copyFrom (k : Nat) (k1 : Nat) (I : wI) : Prop := 0 ≤ I 0 0
def post_X0_copyFrom (k : Nat) (k1 : Nat) (I : wI) (I' : wI) : Prop := I 0 0 ≤ 0
def pre_X1_copyFrom (k : Nat) (k1 : Nat) (I : wI) : Prop := 0 ≤ I 0 0
def post_X1_copyFrom (k : Nat) (k1 : Nat) (I : wI) (I' : wI) : Prop := I 0 0 ≤ 0
def pre_X3_copyFrom (k : Nat) (k1 : Nat) (I : wI) : Prop := 0 ≤ I 0 0
def post_X3_copyFrom (k : Nat) (k1 : Nat) (I : wI) (I' : wI) : Prop := I 0 0 ≤ 0
def pre_X0_agreeing (k : Nat) (k1 : Nat) (I : wI) : Prop := 0 ≤ I 0 0
def post_X0_agreeing (k : Nat) (k1 : Nat) (I : wI) (r : Int32) : Prop := I 0 0 ≤ 0
def pre_X3_asInSecret (k : Nat) (k1 : Nat) (I : wI) : Prop := 0 ≤ I 0 0
def post_X3_asInSecret (k : Nat) (k1 : Nat) (I : wI) (r : Int32) : Prop := I 0 0 ≤ 0
def pre_X3_opens (k : Nat) (I : wI) : Prop := 0 ≤ I 0 0
def post_X3_opens (k : Nat) (I : wI) (r : Int32) : Prop := I 0 0 ≤ 0
def pre_X1_strengthOf (k : Nat) (x1 : Int32) (I : wI) : Prop := 0 ≤ I 0 0
def post_X1_strengthOf (k : Nat) (x1 : Int32) (I : wI) (r : Int32) : Prop := I 0 0 ≤ 0
def pre_X5_isBack (x0 : Int32) (I : wI) : Prop := 0 ≤ I 0 0
def post_X5_isBack (x0 : Int32) (I : wI) (r : Int32) : Prop := I 0 0 ≤ 0
def pre_X0_rotate (k : Nat) (x1 : Int32) (x2 : Int32) (x3 : Int32) (I : wI) : Prop := 0 ≤ I 0 0
def post_X0_rotate (k : Nat) (x1 : Int32) (x2 : Int32) (x3 : Int32) (I : wI) (I' : wI) : Prop := I 0 0 ≤ 0
def pre_X1_move (k : Nat) (k1 : Nat) (x2 : Int32) (I : wI) : Prop := 0 ≤ I 0 0
def post_X1_move (k : Nat) (k1 : Nat) (x2 : Int32) (I : wI) (I' : wI) : Prop := I 0 0 ≤ 0
def pre_J_bitCount (x0 : Int32) (I : wI) : Prop := 0 ≤ I 0 0
def post_J_bitCount (x0 : Int32) (I : wI) (r : Int32) : Prop := I 0 0 ≤ 0
def pre_X1_notchesBy (k : Nat) (x1 : Int32) (I : wI) : Prop := 0 ≤ I 0 0
def post_X1_notchesBy (k : Nat) (x1 : Int32) (I : wI) (r : Int32) : Prop := I 0 0 ≤ 0
def pre_J_floorMod (x0 : Int32) (x1 : Int32) (I : wI) : Prop := 0 ≤ I 0 0
def post_J_floorMod (x0 : Int32) (x1 : Int32) (I : wI) (r : Int32) : Prop := I 0 0 ≤ 0
def pre_X3_doMove (k : Nat) (x1 : Int32) (I : wI) : Prop := 0 ≤ I 0 0
def post_X3_doMove (k : Nat) (x1 : Int32) (I : wI) (I' : wI) : Prop := I 0 0 ≤ 0
def pre_X4_signAt (k : Nat) (x1 : Int32) (I : wI) : Prop := 0 ≤ I 0 0
def post_X4_signAt (k : Nat) (x1 : Int32) (I : wI) (r : Int32) : Prop := I 0 0 ≤ 0
def pre_X4_moveAt (k : Nat) (x1 : Int32) (I : wI) : Prop := 0 ≤ I 0 0
def post_X4_moveAt (k : Nat) (x1 : Int32) (I : wI) (r : Int32) : Prop := I 0 0 ≤ 0
def pre_X4_addMove (k : Nat) (x1 : Int32) (I : wI) : Prop := 0 ≤ I 0 0
def post_X4_addMove (k : Nat) (x1 : Int32) (I : wI) (I' : wI) : Prop := I 0 0 ≤ 0
def pre_X4_repeat (k : Nat) (x1 : Int32) (x2 : Int32) (I : wI) : Prop := 0 ≤ I 0 0
def post_X4_repeat (k : Nat) (x1 : Int32) (x2 : Int32) (I : wI) (I' : wI) : Prop := I 0 0 ≤ 0
def pre_X4_takesFigure (k : Nat) (x1 : Int32) (I : wI) : Prop := 0 ≤ I 0 0
def post_X4_takesFigure (k : Nat) (x1 : Int32) (I : wI) (r : Int32) (I' : wI) : Prop := I 0 0 ≤ 0
def pre_X4_takesMove (k : Nat) (x1 : Int32) (I : wI) : Prop := 0 ≤ I 0 0
def post_X4_takesMove (k : Nat) (x1 : Int32) (I : wI) (r : Int32) (I' : wI) : Prop := I 0 0 ≤ 0
def pre_X4_takesOpening (k : Nat) (x1 : Int32) (I : wI) : Prop := 0 ≤ I 0 0
def post_X4_takesOpening (k : Nat) (x1 : Int32) (I : wI) (r : Int32) (I' : wI) : Prop := I 0 0 ≤ 0
def pre_X5_opposite (x0 : Int32) (I : wI) : Prop := 0 ≤ I 0 0
def post_X5_opposite (x0 : Int32) (I : wI) (r : Int32) : Prop := I 0 0 ≤ 0
def pre_X4_addOpposite (k : Nat) (x1 : Int32) (x2 : Int32) (x3 : Int32) (I : wI) : Prop := 0 ≤ I 0 0
def post_X4_addOpposite (k : Nat) (x1 : Int32) (x2 : Int32) (x3 : Int32) (I : wI) (I' : wI) : Prop := I 0 0 ≤ 0
def pre_X4_takesInBracket (k : Nat) (x1 : Int32) (I : wI) : Prop := 0 ≤ I 0 0
def post_X4_takesInBracket (k : Nat) (x1 : Int32) (I : wI) (r : Int32) (I' : wI) : Prop := I 0 0 ≤ 0
def pre_X4_takes (k : Nat) (x1 : Int32) (I : wI) : Prop := 0 ≤ I 0 0
def post_X4_takes (k : Nat) (x1 : Int32) (I : wI) (r : Int32) (I' : wI) : Prop := I 0 0 ≤ 0
def pre_X4_read (k : Nat) (I : wI) : Prop := 0 ≤ I 0 0
def post_X4_read (k : Nat) (I : wI) (r : Int32) (I' : wI) : Prop := I 0 0 ≤ 0
def pre_X0_reach (k : Nat) (I : wI) : Prop := 0 ≤ I 0 0
def post_X0_reach (k : Nat) (I : wI) (r : Int32) : Prop := I 0 0 ≤ 0
def pre_X0_bringHome (k : Nat) (I : wI) : Prop := 0 ≤ I 0 0
def post_X0_bringHome (k : Nat) (I : wI) (I' : wI) : Prop := I 0 0 ≤ 0
def pre_X1_shape (k : Nat) (x1 : Int32) (x2 : Int32) (x3 : Int32) (I : wI) : Prop := 0 ≤ I 0 0
def post_X1_shape (k : Nat) (x1 : Int32) (x2 : Int32) (x3 : Int32) (I : wI) (I' : wI) : Prop := I 0 0 ≤ 0
def pre_X3_stuckKeys (k : Nat) (I : wI) : Prop := 0 ≤ I 0 0
def post_X3_stuckKeys (k : Nat) (I : wI) (r : Int32) : Prop := I 0 0 ≤ 0
def pre_X0_notchSum (k : Nat) (I : wI) : Prop := 0 ≤ I 0 0
def post_X0_notchSum (k : Nat) (I : wI) (r : Int32) : Prop := I 0 0 ≤ 0
def pre_X4_addSign (k : Nat) (x1 : Int32) (I : wI) : Prop := 0 ≤ I 0 0
def post_X4_addSign (k : Nat) (x1 : Int32) (I : wI) (I' : wI) : Prop := I 0 0 ≤ 0
def pre_X0_discAt (k : Nat) (x1 : Int32) (I : wI) : Prop := 0 ≤ I 0 0
def post_X0_discAt (k : Nat) (x1 : Int32) (I : wI) (r : Int32) : Prop := I 0 0 ≤ 0
def pre_X0_notchAt (k : Nat) (x1 : Int32) (I : wI) : Prop := 0 ≤ I 0 0
def post_X0_notchAt (k : Nat) (x1 : Int32) (I : wI) (r : Int32) : Prop := I 0 0 ≤ 0
def pre_X0_agreesAt (k : Nat) (k1 : Nat) (x2 : Int32) (I : wI) : Prop := 0 ≤ I 0 0
def post_X0_agreesAt (k : Nat) (k1 : Nat) (x2 : Int32) (I : wI) (r : Int32) : Prop := I 0 0 ≤ 0
def pre_X1_keysAt (k : Nat) (x1 : Int32) (I : wI) : Prop := 0 ≤ I 0 0
def post_X1_keysAt (k : Nat) (x1 : Int32) (I : wI) (r : Int32) : Prop := I 0 0 ≤ 0
def pre_X5_showKey (x1 : Int32) (I : wI) : Prop := 0 ≤ I 0 0
def post_X5_showKey (x1 : Int32) (I : wI) (I' : wI) : Prop := I 0 0 ≤ 0
def pre_X0_putAhead (k : Nat) (k1 : Nat) (I : wI) : Prop := 0 ≤ I 0 0
def post_X0_putAhead (k : Nat) (k1 : Nat) (I : wI) (I' : wI) : Prop := I 0 0 ≤ 0
def pre_X5_periodByDoing  (I : wI) : Prop := 0 ≤ I 0 0
def post_X5_periodByDoing  (I : wI) (r : Int32) (I' : wI) : Prop := I 0 0 ≤ 0
def pre_X0_placeOf (k : Nat) (x1 : Int32) (I : wI) : Prop := 0 ≤ I 0 0
def post_X0_placeOf (k : Nat) (x1 : Int32) (I : wI) (r : Int32) : Prop := I 0 0 ≤ 0
def pre_X0_leastMultiple (x0 : Int32) (x1 : Int32) (I : wI) : Prop := 0 ≤ I 0 0
def post_X0_leastMultiple (x0 : Int32) (x1 : Int32) (I : wI) (r : Int32) : Prop := I 0 0 ≤ 0
def pre_X0_periodByRounds (k : Nat) (I : wI) : Prop := 0 ≤ I 0 0
def post_X0_periodByRounds (k : Nat) (I : wI) (r : Int32) : Prop := I 0 0 ≤ 0
def pre_X3_usesOf (k : Nat) (x1 : Int32) (I : wI) : Prop := 0 ≤ I 0 0
def post_X3_usesOf (k : Nat) (x1 : Int32) (I : wI) (r : Int32) : Prop := I 0 0 ≤ 0
def pre_X5_showPair (x1 : Int32) (x2 : Int32) (I : wI) : Prop := 0 ≤ I 0 0
def post_X5_showPair (x1 : Int32) (x2 : Int32) (I : wI) (I' : wI) : Prop := I 0 0 ≤ 0
def pre_J_min (x0 : Int32) (x1 : Int32) (I : wI) : Prop := 0 ≤ I 0 0
def post_J_min (x0 : Int32) (x1 : Int32) (I : wI) (r : Int32) : Prop := I 0 0 ≤ 0
def pre_X4_turnsLessBacks (k : Nat) (I : wI) : Prop := 0 ≤ I 0 0
def post_X4_turnsLessBacks (k : Nat) (I : wI) (r : Int32) : Prop := I 0 0 ≤ 0
def pre_X5_showWord  (I : wI) : Prop := 0 ≤ I 0 0
def post_X5_showWord  (I : wI) (I' : wI) : Prop := I 0 0 ≤ 0
def pre_X5_ofShortWord (x1 : Int32) (I : wI) : Prop := 0 ≤ I 0 0
def post_X5_ofShortWord (x1 : Int32) (I : wI) (r : Int32) (I' : wI) : Prop := I 0 0 ≤ 0
def pre_X0_fingerprint (k : Nat) (I : wI) : Prop := 0 ≤ I 0 0
def post_X0_fingerprint (k : Nat) (I : wI) (r : Int32) : Prop := I 0 0 ≤ 0
def pre_X5_meanNotch  (I : wI) : Prop := 0 ≤ I 0 0
def post_X5_meanNotch  (I : wI) (r : UInt32) : Prop := I 0 0 ≤ 0
def pre_X5_floatBits (x0 : UInt32) (I : wI) : Prop := 0 ≤ I 0 0
def post_X5_floatBits (x0 : UInt32) (I : wI) (r : Int32) : Prop := I 0 0 ≤ 0
def pre_J_isNaN (x0 : UInt64) (I : wI) : Prop := 0 ≤ I 0 0
def post_J_isNaN (x0 : UInt64) (I : wI) (r : Int32) : Prop := I 0 0 ≤ 0
def pre_J_doubleToLongBits (x0 : UInt64) (I : wI) : Prop := 0 ≤ I 0 0
def post_J_doubleToLongBits (x0 : UInt64) (I : wI) (r : Int64) : Prop := I 0 0 ≤ 0
def pre_J_isNaNf (x0 : UInt32) (I : wI) : Prop := 0 ≤ I 0 0
def post_J_isNaNf (x0 : UInt32) (I : wI) (r : Int32) : Prop := I 0 0 ≤ 0
def pre_J_floatToIntBits (x0 : UInt32) (I : wI) : Prop := 0 ≤ I 0 0
def post_J_floatToIntBits (x0 : UInt32) (I : wI) (r : Int32) : Prop := I 0 0 ≤ 0
def v_X5_moveOf_11 (x0 : Int32) (x1 : Int32) (I : wI) (Q : Int32 → Prop) (t0 : Int32) : Prop :=
  Q t0
def v_X5_moveOf (x0 : Int32) (x1 : Int32) (I : wI) (Q : Int32 → Prop) : Prop :=
  ((x1 = 0) → (v_X5_moveOf_11 x0 x1 I Q  x0)) ∧ ((¬ (x1 = 0)) → (v_X5_moveOf_11 x0 x1 I Q  ((5 : Int32) + x0)))
theorem vc_X5_moveOf (x0 : Int32) (x1 : Int32)  (I : wI) (hp : pre_X5_moveOf x0 x1 I) : v_X5_moveOf x0 x1 I (post_X5_moveOf x0 x1 I) := sorry
def v_X5_keyOf_12 (x0 : Int32) (I : wI) (Q : Int32 → Prop) (t0 : Int32) : Prop :=
  Q t0
def v_X5_keyOf (x0 : Int32) (I : wI) (Q : Int32 → Prop) : Prop :=
  ((x0 < (5 : Int32)) → (v_X5_keyOf_12 x0 I Q  x0)) ∧ ((¬ (x0 < (5 : Int32))) → (v_X5_keyOf_12 x0 I Q  (x0 - (5 : Int32))))
theorem vc_X5_keyOf (x0 : Int32)  (I : wI) (hp : pre_X5_keyOf x0 I) : v_X5_keyOf x0 I (post_X5_keyOf x0 I) := sorry
def v_X1_maskOf_19 (k : Nat) (x1 : Int32) (I : wI) (Q : Int32 → Prop) (t0 : Int32) : Prop :=
  Q t0
def v_X1_maskOf_18 (k : Nat) (x1 : Int32) (I : wI) (Q : Int32 → Prop)  : Prop :=
  v_X1_maskOf_19 k x1 I Q  (0 : Int32)
def v_X1_maskOf (k : Nat) (x1 : Int32) (I : wI) (Q : Int32 → Prop) : Prop :=
  ((x1 < 0) → (v_X1_maskOf_18 k x1 I Q  )) ∧ ((¬ (x1 < 0)) → ((((5 : Int32) ≤ x1) → (v_X1_maskOf_18 k x1 I Q  )) ∧ ((¬ ((5 : Int32) ≤ x1)) → (vp_in x1 5 ∧ (v_X1_maskOf_19 k x1 I Q  (I (k + 1) (x1).toNatClampNeg))))))
theorem vc_X1_maskOf (k : Nat) (x1 : Int32) (hs : wSh k = (0, 1)) (I : wI) (hp : pre_X1_maskOf k x1 I) : v_X1_maskOf k x1 I (post_X1_maskOf k x1 I) := sorry
def v_X3_allows_24 (k : Nat) (x1 : Int32) (I : wI) (Q : Int32 → Prop) (t0 : Int32) : Prop :=
  (t0 = 0 ∨ t0 = 1) ∧ Q t0
def v_X3_allows (k : Nat) (x1 : Int32) (I : wI) (Q : Int32 → Prop) : Prop :=
  (pre_X5_keyOf x1 I) ∧ (∀ r1 : Int32, (post_X5_keyOf x1 I r1) → ((pre_X1_maskOf (k + 4) r1 I) ∧ (∀ r2 : Int32, (post_X1_maskOf (k + 4) r1 I r2) → (((¬ (r2 &&& (I k 4)) = 0) → (v_X3_allows_24 k x1 I Q  (0 : Int32))) ∧ (((r2 &&& (I k 4)) = 0) → (v_X3_allows_24 k x1 I Q  (1 : Int32)))))))
theorem vc_X3_allows (k : Nat) (x1 : Int32) (hs : wSh k = (0, 3)) (I : wI) (hp : pre_X3_allows k x1 I) : v_X3_allows k x1 I (post_X3_allows k x1 I) := sorry
def g_X0_copyFrom_2 (k : Nat) (k1 : Nat) (Q : wI → Prop) (K2 : Int32 → wI → Prop) (v2 : Int32) (I : wI) : Prop :=
  (((6 : Int32) ≤ v2) → (Q I)) ∧ ((¬ ((6 : Int32) ≤ v2)) → (vp_in v2 6 ∧ (vp_in v2 6 ∧ ∀ I1 : wI, I1 = wU I (k + 1) (v2).toNatClampNeg (I (k1 + 1) (v2).toNatClampNeg) → (vp_in v2 6 ∧ (vp_in v2 6 ∧ ∀ I2 : wI, I2 = wU I1 (k + 2) (v2).toNatClampNeg (I1 (k1 + 2) (v2).toNatClampNeg) → (K2 (v2 + (1 : Int32)) I2))))))
def v_X0_copyFrom_2 (k : Nat) (k1 : Nat) (Q : wI → Prop) : Nat → Int32 → wI → Prop
  | 0 => fun _ _ => False
  | f + 1 => g_X0_copyFrom_2 k k1 Q (v_X0_copyFrom_2 k k1 Q f)
def v_X0_copyFrom (k : Nat) (k1 : Nat) (I : wI) (Q : wI → Prop) : Prop :=
  ∃ f : Nat, v_X0_copyFrom_2 k k1 Q  f (0 : Int32) I
theorem vc_X0_copyFrom (k : Nat) (k1 : Nat) (hs : wSh k = (0, 0)) (hs1 : wSh k1 = (0, 0)) (I : wI) (hp : pre_X0_copyFrom k k1 I) : v_X0_copyFrom k k1 I (post_X0_copyFrom k k1 I) := sorry
def g_X1_copyFrom_2 (k : Nat) (k1 : Nat) (Q : wI → Prop) (K2 : Int32 → wI → Prop) (v2 : Int32) (I : wI) : Prop :=
  (((5 : Int32) ≤ v2) → (Q I)) ∧ ((¬ ((5 : Int32) ≤ v2)) → (vp_in v2 5 ∧ (vp_in v2 5 ∧ ∀ I1 : wI, I1 = wU I (k + 1) (v2).toNatClampNeg (I (k1 + 1) (v2).toNatClampNeg) → (vp_in v2 5 ∧ (vp_in v2 5 ∧ ∀ I2 : wI, I2 = wU I1 (k + 2) (v2).toNatClampNeg (I1 (k1 + 2) (v2).toNatClampNeg) → (K2 (v2 + (1 : Int32)) I2))))))
def v_X1_copyFrom_2 (k : Nat) (k1 : Nat) (Q : wI → Prop) : Nat → Int32 → wI → Prop
  | 0 => fun _ _ => False
  | f + 1 => g_X1_copyFrom_2 k k1 Q (v_X1_copyFrom_2 k k1 Q f)
def v_X1_copyFrom (k : Nat) (k1 : Nat) (I : wI) (Q : wI → Prop) : Prop :=
  ∃ f : Nat, v_X1_copyFrom_2 k k1 Q  f (0 : Int32) I
theorem vc_X1_copyFrom (k : Nat) (k1 : Nat) (hs : wSh k = (0, 1)) (hs1 : wSh k1 = (0, 1)) (I : wI) (hp : pre_X1_copyFrom k k1 I) : v_X1_copyFrom k k1 I (post_X1_copyFrom k k1 I) := sorry
def g_X3_copyFrom_51 (k : Nat) (k1 : Nat) (Q : wI → Prop) (K51 : Int32 → wI → Prop) (v2 : Int32) (I : wI) : Prop :=
  (((5 : Int32) ≤ v2) → (∀ I1 : wI, I1 = wU I k 6 (I k1 6) → (∀ I2 : wI, I2 = wU I1 k 7 (I1 k1 7) → (∀ I3 : wI, I3 = wU I2 k 8 (I2 k1 8) → (Q I3))))) ∧ ((¬ ((5 : Int32) ≤ v2)) → (vp_in v2 5 ∧ (vp_in v2 5 ∧ ∀ I4 : wI, I4 = wU I (k + 10) (v2).toNatClampNeg (I (k1 + 10) (v2).toNatClampNeg) → (K51 (v2 + (1 : Int32)) I4))))
def v_X3_copyFrom_51 (k : Nat) (k1 : Nat) (Q : wI → Prop) : Nat → Int32 → wI → Prop
  | 0 => fun _ _ => False
  | f + 1 => g_X3_copyFrom_51 k k1 Q (v_X3_copyFrom_51 k k1 Q f)
def v_X3_copyFrom (k : Nat) (k1 : Nat) (I : wI) (Q : wI → Prop) : Prop :=
  (pre_X0_copyFrom (k + 1) (k1 + 1) I) ∧ (∀ I1 : wI, (post_X0_copyFrom (k + 1) (k1 + 1) I I1) → ((pre_X1_copyFrom (k + 4) (k1 + 4) I1) ∧ (∀ I2 : wI, (post_X1_copyFrom (k + 4) (k1 + 4) I1 I2) → ((pre_X0_copyFrom (k + 7) (k1 + 7) I2) ∧ (∀ I3 : wI, (post_X0_copyFrom (k + 7) (k1 + 7) I2 I3) → (((I3 k1 3) = 0 ∨ (I3 k1 3) = 1) ∧ (∀ I4 : wI, I4 = wU I3 k 3 (I3 k1 3) → (∀ I5 : wI, I5 = wU I4 k 4 (I4 k1 4) → (∃ f : Nat, v_X3_copyFrom_51 k k1 Q  f (0 : Int32) I5)))))))))
theorem vc_X3_copyFrom (k : Nat) (k1 : Nat) (hs : wSh k = (0, 3)) (hs1 : wSh k1 = (0, 3)) (I : wI) (hp : pre_X3_copyFrom k k1 I) : v_X3_copyFrom k k1 I (post_X3_copyFrom k k1 I) := sorry
def v_X0_agreeing_43 (k : Nat) (k1 : Nat) (I : wI) (Q : Int32 → Prop) (K4 : Int32 → Int32 → Prop) (v2 : Int32) (v3 : Int32) : Prop :=
  K4 v2 (v3 + (1 : Int32))
def g_X0_agreeing_4 (k : Nat) (k1 : Nat) (I : wI) (Q : Int32 → Prop) (K4 : Int32 → Int32 → Prop) (v2 : Int32) (v3 : Int32) : Prop :=
  (((6 : Int32) ≤ v3) → (Q v2)) ∧ ((¬ ((6 : Int32) ≤ v3)) → (vp_in v3 6 ∧ (vp_in v3 6 ∧ (((¬ (I (k + 1) (v3).toNatClampNeg) = (I (k1 + 1) (v3).toNatClampNeg)) → (v_X0_agreeing_43 k k1 I Q K4 v2 v3)) ∧ (((I (k + 1) (v3).toNatClampNeg) = (I (k1 + 1) (v3).toNatClampNeg)) → (vp_in v3 6 ∧ (vp_in v3 6 ∧ (((¬ (I (k + 2) (v3).toNatClampNeg) = (I (k1 + 2) (v3).toNatClampNeg)) → (v_X0_agreeing_43 k k1 I Q K4 v2 v3)) ∧ (((I (k + 2) (v3).toNatClampNeg) = (I (k1 + 2) (v3).toNatClampNeg)) → (v_X0_agreeing_43 k k1 I Q K4 (v2 + (1 : Int32)) v3))))))))))
def v_X0_agreeing_4 (k : Nat) (k1 : Nat) (I : wI) (Q : Int32 → Prop) : Nat → Int32 → Int32 → Prop
  | 0 => fun _ _ => False
  | f + 1 => g_X0_agreeing_4 k k1 I Q (v_X0_agreeing_4 k k1 I Q f)
def v_X0_agreeing (k : Nat) (k1 : Nat) (I : wI) (Q : Int32 → Prop) : Prop :=
  ∃ f : Nat, v_X0_agreeing_4 k k1 I Q  f (0 : Int32) (0 : Int32)
theorem vc_X0_agreeing (k : Nat) (k1 : Nat) (hs : wSh k = (0, 0)) (hs1 : wSh k1 = (0, 0)) (I : wI) (hp : pre_X0_agreeing k k1 I) : v_X0_agreeing k k1 I (post_X0_agreeing k k1 I) := sorry
def v_X3_asInSecret_19 (k : Nat) (k1 : Nat) (I : wI) (Q : Int32 → Prop) (t0 : Int32) : Prop :=
  Q t0
def v_X3_asInSecret (k : Nat) (k1 : Nat) (I : wI) (Q : Int32 → Prop) : Prop :=
  (((I k 3) = 0) → (v_X3_asInSecret_19 k k1 I Q  (0 : Int32))) ∧ ((¬ ((I k 3) = 0)) → ((pre_X0_agreeing k1 (k + 7) I) ∧ (∀ r1 : Int32, (post_X0_agreeing k1 (k + 7) I r1) → (v_X3_asInSecret_19 k k1 I Q  r1))))
theorem vc_X3_asInSecret (k : Nat) (k1 : Nat) (hs : wSh k = (0, 3)) (hs1 : wSh k1 = (0, 0)) (I : wI) (hp : pre_X3_asInSecret k k1 I) : v_X3_asInSecret k k1 I (post_X3_asInSecret k k1 I) := sorry
def v_X3_opens_18 (k : Nat) (I : wI) (Q : Int32 → Prop) (t0 : Int32) : Prop :=
  (t0 = 0 ∨ t0 = 1) ∧ Q t0
def v_X3_opens (k : Nat) (I : wI) (Q : Int32 → Prop) : Prop :=
  (pre_X3_asInSecret k (k + 1) I) ∧ (∀ r1 : Int32, (post_X3_asInSecret k (k + 1) I r1) → (((¬ r1 = (6 : Int32)) → (v_X3_opens_18 k I Q  (0 : Int32))) ∧ ((r1 = (6 : Int32)) → (v_X3_opens_18 k I Q  (1 : Int32)))))
theorem vc_X3_opens (k : Nat) (hs : wSh k = (0, 3)) (I : wI) (hp : pre_X3_opens k I) : v_X3_opens k I (post_X3_opens k I) := sorry
def v_X1_strengthOf_19 (k : Nat) (x1 : Int32) (I : wI) (Q : Int32 → Prop) (t0 : Int32) : Prop :=
  Q t0
def v_X1_strengthOf_18 (k : Nat) (x1 : Int32) (I : wI) (Q : Int32 → Prop)  : Prop :=
  v_X1_strengthOf_19 k x1 I Q  (0 : Int32)
def v_X1_strengthOf (k : Nat) (x1 : Int32) (I : wI) (Q : Int32 → Prop) : Prop :=
  ((x1 < 0) → (v_X1_strengthOf_18 k x1 I Q  )) ∧ ((¬ (x1 < 0)) → ((((5 : Int32) ≤ x1) → (v_X1_strengthOf_18 k x1 I Q  )) ∧ ((¬ ((5 : Int32) ≤ x1)) → (vp_in x1 5 ∧ (v_X1_strengthOf_19 k x1 I Q  (I (k + 2) (x1).toNatClampNeg))))))
theorem vc_X1_strengthOf (k : Nat) (x1 : Int32) (hs : wSh k = (0, 1)) (I : wI) (hp : pre_X1_strengthOf k x1 I) : v_X1_strengthOf k x1 I (post_X1_strengthOf k x1 I) := sorry
def v_X5_isBack_10 (x0 : Int32) (I : wI) (Q : Int32 → Prop) (t0 : Int32) : Prop :=
  (t0 = 0 ∨ t0 = 1) ∧ Q t0
def v_X5_isBack (x0 : Int32) (I : wI) (Q : Int32 → Prop) : Prop :=
  ((x0 < (5 : Int32)) → (v_X5_isBack_10 x0 I Q  (0 : Int32))) ∧ ((¬ (x0 < (5 : Int32))) → (v_X5_isBack_10 x0 I Q  (1 : Int32)))
theorem vc_X5_isBack (x0 : Int32)  (I : wI) (hp : pre_X5_isBack x0 I) : v_X5_isBack x0 I (post_X5_isBack x0 I) := sorry
def v_X0_rotate_155 (k : Nat) (x1 : Int32) (x2 : Int32) (x3 : Int32) (Q : wI → Prop)  (I : wI) : Prop :=
  Q I
def v_X0_rotate_119 (k : Nat) (x1 : Int32) (x2 : Int32) (x3 : Int32) (Q : wI → Prop) (K25 : Int32 → Int32 → Int32 → Int32 → Int32 → wI → Prop) (v4 : Int32) (v5 : Int32) (v6 : Int32) (v7 : Int32) (v8 : Int32) (I : wI) : Prop :=
  K25 v4 v5 v6 v7 (v8 + (1 : Int32)) I
def v_X0_rotate_111 (k : Nat) (x1 : Int32) (x2 : Int32) (x3 : Int32) (Q : wI → Prop) (K25 : Int32 → Int32 → Int32 → Int32 → Int32 → wI → Prop) (v4 : Int32) (v5 : Int32) (v8 : Int32) (v10 : Int32) (v11 : Int32) (I : wI) : Prop :=
  v_X0_rotate_119 k x1 x2 x3 Q K25 v4 v5 v10 v11 v8 I
def v_X0_rotate_45 (k : Nat) (x1 : Int32) (x2 : Int32) (x3 : Int32) (Q : wI → Prop) (K25 : Int32 → Int32 → Int32 → Int32 → Int32 → wI → Prop) (v4 : Int32) (v5 : Int32) (v6 : Int32) (v7 : Int32) (v8 : Int32) (t0 : Int32) (I : wI) : Prop :=
  ((¬ ((x1 >>> (t0 &&& 31)) &&& (1 : Int32)) = (1 : Int32)) → (v_X0_rotate_119 k x1 x2 x3 Q K25 v4 v5 v6 v7 v8 I)) ∧ ((((x1 >>> (t0 &&& 31)) &&& (1 : Int32)) = (1 : Int32)) → (vp_in t0 6 ∧ (vp_in t0 6 ∧ (((¬ v5 = (-1 : Int32)) → (vp_in t0 6 ∧ ∀ I1 : wI, I1 = wU I (k + 1) (t0).toNatClampNeg v6 → (vp_in t0 6 ∧ ∀ I2 : wI, I2 = wU I1 (k + 2) (t0).toNatClampNeg v7 → (v_X0_rotate_111 k x1 x2 x3 Q K25 v4 v5 v8 (I (k + 1) (t0).toNatClampNeg) (((I (k + 2) (t0).toNatClampNeg) + v4) - ((I (k + 2) (t0).toNatClampNeg) + v4) / (5 : Int32) * (5 : Int32)) I2)))) ∧ ((v5 = (-1 : Int32)) → (v_X0_rotate_111 k x1 x2 x3 Q K25 v4 t0 v8 (I (k + 1) (t0).toNatClampNeg) (((I (k + 2) (t0).toNatClampNeg) + v4) - ((I (k + 2) (t0).toNatClampNeg) + v4) / (5 : Int32) * (5 : Int32)) I))))))
def g_X0_rotate_25 (k : Nat) (x1 : Int32) (x2 : Int32) (x3 : Int32) (Q : wI → Prop) (K25 : Int32 → Int32 → Int32 → Int32 → Int32 → wI → Prop) (v4 : Int32) (v5 : Int32) (v6 : Int32) (v7 : Int32) (v8 : Int32) (I : wI) : Prop :=
  (((6 : Int32) ≤ v8) → (((v5 < 0) → (v_X0_rotate_155 k x1 x2 x3 Q   I)) ∧ ((¬ (v5 < 0)) → ((((6 : Int32) ≤ v5) → (v_X0_rotate_155 k x1 x2 x3 Q   I)) ∧ ((¬ ((6 : Int32) ≤ v5)) → (vp_in v5 6 ∧ ∀ I1 : wI, I1 = wU I (k + 1) (v5).toNatClampNeg v6 → (vp_in v5 6 ∧ ∀ I2 : wI, I2 = wU I1 (k + 2) (v5).toNatClampNeg v7 → (v_X0_rotate_155 k x1 x2 x3 Q   I2)))))))) ∧ ((¬ ((6 : Int32) ≤ v8)) → (((x3 = 0) → (v_X0_rotate_45 k x1 x2 x3 Q K25 v4 v5 v6 v7 v8 v8 I)) ∧ ((¬ (x3 = 0)) → (v_X0_rotate_45 k x1 x2 x3 Q K25 v4 v5 v6 v7 v8 ((5 : Int32) - v8) I))))
def v_X0_rotate_25 (k : Nat) (x1 : Int32) (x2 : Int32) (x3 : Int32) (Q : wI → Prop) : Nat → Int32 → Int32 → Int32 → Int32 → Int32 → wI → Prop
  | 0 => fun _ _ _ _ _ _ => False
  | f + 1 => g_X0_rotate_25 k x1 x2 x3 Q (v_X0_rotate_25 k x1 x2 x3 Q f)
def v_X0_rotate_11 (k : Nat) (x1 : Int32) (x2 : Int32) (x3 : Int32) (Q : wI → Prop) (t0 : Int32) (I : wI) : Prop :=
  ∃ f : Nat, v_X0_rotate_25 k x1 x2 x3 Q  f t0 (-1 : Int32) (0 : Int32) (0 : Int32) (0 : Int32) I
def v_X0_rotate (k : Nat) (x1 : Int32) (x2 : Int32) (x3 : Int32) (I : wI) (Q : wI → Prop) : Prop :=
  ((x3 = 0) → (v_X0_rotate_11 k x1 x2 x3 Q  x2 I)) ∧ ((¬ (x3 = 0)) → (v_X0_rotate_11 k x1 x2 x3 Q  ((5 : Int32) - x2) I))
theorem vc_X0_rotate (k : Nat) (x1 : Int32) (x2 : Int32) (x3 : Int32) (hs : wSh k = (0, 0)) (I : wI) (hp : pre_X0_rotate k x1 x2 x3 I) : v_X0_rotate k x1 x2 x3 I (post_X0_rotate k x1 x2 x3 I) := sorry
def v_X1_move (k : Nat) (k1 : Nat) (x2 : Int32) (I : wI) (Q : wI → Prop) : Prop :=
  (pre_X5_keyOf x2 I) ∧ (∀ r1 : Int32, (post_X5_keyOf x2 I r1) → ((pre_X1_maskOf k r1 I) ∧ (∀ r2 : Int32, (post_X1_maskOf k r1 I r2) → ((pre_X1_strengthOf k r1 I) ∧ (∀ r3 : Int32, (post_X1_strengthOf k r1 I r3) → ((pre_X5_isBack x2 I) ∧ (∀ r4 : Int32, (post_X5_isBack x2 I r4) → ((pre_X0_rotate k1 r2 r3 r4 I) ∧ (∀ I5 : wI, (post_X0_rotate k1 r2 r3 r4 I I5) → (Q I5))))))))))
theorem vc_X1_move (k : Nat) (k1 : Nat) (x2 : Int32) (hs : wSh k = (0, 1)) (hs1 : wSh k1 = (0, 0)) (I : wI) (hp : pre_X1_move k k1 x2 I) : v_X1_move k k1 x2 I (post_X1_move k k1 x2 I) := sorry
def v_J_bitCount (x0 : Int32) (I : wI) (Q : Int32 → Prop) : Prop :=
  Q ((((((((x0 - (((x0).toUInt32 >>> (((1 : Int32)).toUInt32 &&& Int32.toUInt32 31)).toInt32 &&& (1431655765 : Int32))) &&& (858993459 : Int32)) + ((((x0 - (((x0).toUInt32 >>> (((1 : Int32)).toUInt32 &&& Int32.toUInt32 31)).toInt32 &&& (1431655765 : Int32)))).toUInt32 >>> (((2 : Int32)).toUInt32 &&& Int32.toUInt32 31)).toInt32 &&& (858993459 : Int32))) + (((((x0 - (((x0).toUInt32 >>> (((1 : Int32)).toUInt32 &&& Int32.toUInt32 31)).toInt32 &&& (1431655765 : Int32))) &&& (858993459 : Int32)) + ((((x0 - (((x0).toUInt32 >>> (((1 : Int32)).toUInt32 &&& Int32.toUInt32 31)).toInt32 &&& (1431655765 : Int32)))).toUInt32 >>> (((2 : Int32)).toUInt32 &&& Int32.toUInt32 31)).toInt32 &&& (858993459 : Int32)))).toUInt32 >>> (((4 : Int32)).toUInt32 &&& Int32.toUInt32 31)).toInt32) &&& (252645135 : Int32)) + (((((((x0 - (((x0).toUInt32 >>> (((1 : Int32)).toUInt32 &&& Int32.toUInt32 31)).toInt32 &&& (1431655765 : Int32))) &&& (858993459 : Int32)) + ((((x0 - (((x0).toUInt32 >>> (((1 : Int32)).toUInt32 &&& Int32.toUInt32 31)).toInt32 &&& (1431655765 : Int32)))).toUInt32 >>> (((2 : Int32)).toUInt32 &&& Int32.toUInt32 31)).toInt32 &&& (858993459 : Int32))) + (((((x0 - (((x0).toUInt32 >>> (((1 : Int32)).toUInt32 &&& Int32.toUInt32 31)).toInt32 &&& (1431655765 : Int32))) &&& (858993459 : Int32)) + ((((x0 - (((x0).toUInt32 >>> (((1 : Int32)).toUInt32 &&& Int32.toUInt32 31)).toInt32 &&& (1431655765 : Int32)))).toUInt32 >>> (((2 : Int32)).toUInt32 &&& Int32.toUInt32 31)).toInt32 &&& (858993459 : Int32)))).toUInt32 >>> (((4 : Int32)).toUInt32 &&& Int32.toUInt32 31)).toInt32) &&& (252645135 : Int32))).toUInt32 >>> (((8 : Int32)).toUInt32 &&& Int32.toUInt32 31)).toInt32) + ((((((((x0 - (((x0).toUInt32 >>> (((1 : Int32)).toUInt32 &&& Int32.toUInt32 31)).toInt32 &&& (1431655765 : Int32))) &&& (858993459 : Int32)) + ((((x0 - (((x0).toUInt32 >>> (((1 : Int32)).toUInt32 &&& Int32.toUInt32 31)).toInt32 &&& (1431655765 : Int32)))).toUInt32 >>> (((2 : Int32)).toUInt32 &&& Int32.toUInt32 31)).toInt32 &&& (858993459 : Int32))) + (((((x0 - (((x0).toUInt32 >>> (((1 : Int32)).toUInt32 &&& Int32.toUInt32 31)).toInt32 &&& (1431655765 : Int32))) &&& (858993459 : Int32)) + ((((x0 - (((x0).toUInt32 >>> (((1 : Int32)).toUInt32 &&& Int32.toUInt32 31)).toInt32 &&& (1431655765 : Int32)))).toUInt32 >>> (((2 : Int32)).toUInt32 &&& Int32.toUInt32 31)).toInt32 &&& (858993459 : Int32)))).toUInt32 >>> (((4 : Int32)).toUInt32 &&& Int32.toUInt32 31)).toInt32) &&& (252645135 : Int32)) + (((((((x0 - (((x0).toUInt32 >>> (((1 : Int32)).toUInt32 &&& Int32.toUInt32 31)).toInt32 &&& (1431655765 : Int32))) &&& (858993459 : Int32)) + ((((x0 - (((x0).toUInt32 >>> (((1 : Int32)).toUInt32 &&& Int32.toUInt32 31)).toInt32 &&& (1431655765 : Int32)))).toUInt32 >>> (((2 : Int32)).toUInt32 &&& Int32.toUInt32 31)).toInt32 &&& (858993459 : Int32))) + (((((x0 - (((x0).toUInt32 >>> (((1 : Int32)).toUInt32 &&& Int32.toUInt32 31)).toInt32 &&& (1431655765 : Int32))) &&& (858993459 : Int32)) + ((((x0 - (((x0).toUInt32 >>> (((1 : Int32)).toUInt32 &&& Int32.toUInt32 31)).toInt32 &&& (1431655765 : Int32)))).toUInt32 >>> (((2 : Int32)).toUInt32 &&& Int32.toUInt32 31)).toInt32 &&& (858993459 : Int32)))).toUInt32 >>> (((4 : Int32)).toUInt32 &&& Int32.toUInt32 31)).toInt32) &&& (252645135 : Int32))).toUInt32 >>> (((8 : Int32)).toUInt32 &&& Int32.toUInt32 31)).toInt32)).toUInt32 >>> (((16 : Int32)).toUInt32 &&& Int32.toUInt32 31)).toInt32) &&& (63 : Int32))
theorem vc_J_bitCount (x0 : Int32)  (I : wI) (hp : pre_J_bitCount x0 I) : v_J_bitCount x0 I (post_J_bitCount x0 I) := sorry
def v_X1_notchesBy_33 (k : Nat) (x1 : Int32) (I : wI) (Q : Int32 → Prop) (t0 : Int32) : Prop :=
  Q t0
def v_X1_notchesBy (k : Nat) (x1 : Int32) (I : wI) (Q : Int32 → Prop) : Prop :=
  (pre_X5_keyOf x1 I) ∧ (∀ r1 : Int32, (post_X5_keyOf x1 I r1) → ((pre_X1_strengthOf k r1 I) ∧ (∀ r2 : Int32, (post_X1_strengthOf k r1 I r2) → ((pre_X1_maskOf k r1 I) ∧ (∀ r3 : Int32, (post_X1_maskOf k r1 I r3) → ((pre_J_bitCount r3 I) ∧ (∀ r4 : Int32, (post_J_bitCount r3 I r4) → ((pre_X5_isBack x1 I) ∧ (∀ r5 : Int32, (post_X5_isBack x1 I r5) → (((r5 = 0) → (v_X1_notchesBy_33 k x1 I Q  (r2 * r4))) ∧ ((¬ (r5 = 0)) → (v_X1_notchesBy_33 k x1 I Q  (-(r2 * r4))))))))))))))
theorem vc_X1_notchesBy (k : Nat) (x1 : Int32) (hs : wSh k = (0, 1)) (I : wI) (hp : pre_X1_notchesBy k x1 I) : v_X1_notchesBy k x1 I (post_X1_notchesBy k x1 I) := sorry
def v_J_floorMod_18 (x0 : Int32) (x1 : Int32) (I : wI) (Q : Int32 → Prop) (v2 : Int32) : Prop :=
  Q v2
def v_J_floorMod (x0 : Int32) (x1 : Int32) (I : wI) (Q : Int32 → Prop) : Prop :=
  (¬ x1 = 0) ∧ (((0 ≤ (x0 ^^^ x1)) → (v_J_floorMod_18 x0 x1 I Q  (x0 - x0 / x1 * x1))) ∧ ((¬ (0 ≤ (x0 ^^^ x1))) → ((((x0 - x0 / x1 * x1) = 0) → (v_J_floorMod_18 x0 x1 I Q  (x0 - x0 / x1 * x1))) ∧ ((¬ ((x0 - x0 / x1 * x1) = 0)) → (Q ((x0 - x0 / x1 * x1) + x1))))))
theorem vc_J_floorMod (x0 : Int32) (x1 : Int32)  (I : wI) (hp : pre_J_floorMod x0 x1 I) : v_J_floorMod x0 x1 I (post_J_floorMod x0 x1 I) := sorry
def v_X3_doMove_93 (k : Nat) (x1 : Int32) (Q : wI → Prop)  (I : wI) : Prop :=
  Q I
def v_X3_doMove_72 (k : Nat) (x1 : Int32) (Q : wI → Prop) (v2 : Int32) (I : wI) : Prop :=
  ((¬ v2 = 0) → (v_X3_doMove_93 k x1 Q   I)) ∧ ((v2 = 0) → ((pre_X3_opens k I) ∧ (∀ r1 : Int32, (post_X3_opens k I r1) → (((r1 = 0) → (v_X3_doMove_93 k x1 Q   I)) ∧ ((¬ (r1 = 0)) → (∀ I2 : wI, I2 = wU I k 8 ((I k 8) + (1 : Int32)) → (v_X3_doMove_93 k x1 Q   I2)))))))
def v_X3_doMove (k : Nat) (x1 : Int32) (I : wI) (Q : wI → Prop) : Prop :=
  (pre_X3_opens k I) ∧ (∀ r1 : Int32, (post_X3_opens k I r1) → ((pre_X1_move (k + 4) (k + 1) x1 I) ∧ (∀ I2 : wI, (post_X1_move (k + 4) (k + 1) x1 I I2) → ((pre_X1_notchesBy (k + 4) x1 I2) ∧ (∀ r3 : Int32, (post_X1_notchesBy (k + 4) x1 I2 r3) → ((pre_J_floorMod ((I2 k 7) + r3) (5 : Int32) I2) ∧ (∀ r4 : Int32, (post_J_floorMod ((I2 k 7) + r3) (5 : Int32) I2 r4) → (∀ I5 : wI, I5 = wU I2 k 7 r4 → (∀ I6 : wI, I6 = wU I5 k 6 ((I5 k 6) + (1 : Int32)) → ((pre_X5_keyOf x1 I6) ∧ (∀ r7 : Int32, (post_X5_keyOf x1 I6 r7) → (((r7 < 0) → (v_X3_doMove_72 k x1 Q  r1 I6)) ∧ ((¬ (r7 < 0)) → ((((5 : Int32) ≤ r7) → (v_X3_doMove_72 k x1 Q  r1 I6)) ∧ ((¬ ((5 : Int32) ≤ r7)) → (vp_in r7 5 ∧ (vp_in r7 5 ∧ ∀ I8 : wI, I8 = wU I6 (k + 10) (r7).toNatClampNeg ((I6 (k + 10) (r7).toNatClampNeg) + (1 : Int32)) → (v_X3_doMove_72 k x1 Q  r1 I8))))))))))))))))))
theorem vc_X3_doMove (k : Nat) (x1 : Int32) (hs : wSh k = (0, 3)) (I : wI) (hp : pre_X3_doMove k x1 I) : v_X3_doMove k x1 I (post_X3_doMove k x1 I) := sorry
def v_X4_signAt_20 (k : Nat) (x1 : Int32) (I : wI) (Q : Int32 → Prop) (t0 : Int32) : Prop :=
  (narrow .char (.int t0) = .int t0) ∧ Q t0
def v_X4_signAt_19 (k : Nat) (x1 : Int32) (I : wI) (Q : Int32 → Prop)  : Prop :=
  v_X4_signAt_20 k x1 I Q  (0 : Int32)
def v_X4_signAt (k : Nat) (x1 : Int32) (I : wI) (Q : Int32 → Prop) : Prop :=
  ((x1 < 0) → (v_X4_signAt_19 k x1 I Q  )) ∧ ((¬ (x1 < 0)) → ((((60 : Int32) ≤ x1) → (v_X4_signAt_19 k x1 I Q  )) ∧ ((¬ ((60 : Int32) ≤ x1)) → (vp_in x1 60 ∧ (v_X4_signAt_20 k x1 I Q  (I (k + 1) (x1).toNatClampNeg))))))
theorem vc_X4_signAt (k : Nat) (x1 : Int32) (hs : wSh k = (0, 4)) (I : wI) (hp : pre_X4_signAt k x1 I) : v_X4_signAt k x1 I (post_X4_signAt k x1 I) := sorry
def v_X4_moveAt_21 (k : Nat) (x1 : Int32) (I : wI) (Q : Int32 → Prop) (t0 : Int32) : Prop :=
  Q t0
def v_X4_moveAt_20 (k : Nat) (x1 : Int32) (I : wI) (Q : Int32 → Prop)  : Prop :=
  v_X4_moveAt_21 k x1 I Q  (0 : Int32)
def v_X4_moveAt (k : Nat) (x1 : Int32) (I : wI) (Q : Int32 → Prop) : Prop :=
  ((x1 < 0) → (v_X4_moveAt_20 k x1 I Q  )) ∧ ((¬ (x1 < 0)) → ((((500 : Int32) ≤ x1) → (v_X4_moveAt_20 k x1 I Q  )) ∧ ((¬ ((500 : Int32) ≤ x1)) → (vp_in x1 500 ∧ (v_X4_moveAt_21 k x1 I Q  (I (k + 2) (x1).toNatClampNeg))))))
theorem vc_X4_moveAt (k : Nat) (x1 : Int32) (hs : wSh k = (0, 4)) (I : wI) (hp : pre_X4_moveAt k x1 I) : v_X4_moveAt k x1 I (post_X4_moveAt k x1 I) := sorry
def v_X4_addMove_27 (k : Nat) (x1 : Int32) (Q : wI → Prop)  (I : wI) : Prop :=
  ∀ I1 : wI, I1 = wU I k 3 ((I k 3) + (1 : Int32)) → (Q I1)
def v_X4_addMove (k : Nat) (x1 : Int32) (I : wI) (Q : wI → Prop) : Prop :=
  (((I k 3) < 0) → (v_X4_addMove_27 k x1 Q   I)) ∧ ((¬ ((I k 3) < 0)) → ((((500 : Int32) ≤ (I k 3)) → (v_X4_addMove_27 k x1 Q   I)) ∧ ((¬ ((500 : Int32) ≤ (I k 3))) → (vp_in (I k 3) 500 ∧ ∀ I1 : wI, I1 = wU I (k + 2) ((I k 3)).toNatClampNeg x1 → (v_X4_addMove_27 k x1 Q   I1)))))
theorem vc_X4_addMove (k : Nat) (x1 : Int32) (hs : wSh k = (0, 4)) (I : wI) (hp : pre_X4_addMove k x1 I) : v_X4_addMove k x1 I (post_X4_addMove k x1 I) := sorry
def v_X4_repeat_53 (k : Nat) (x1 : Int32) (x2 : Int32) (Q : wI → Prop) (v4 : Int32) (I : wI) : Prop :=
  ∀ I1 : wI, I1 = wU I k 3 v4 → (Q I1)
def g_X4_repeat_20 (k : Nat) (x1 : Int32) (x2 : Int32) (Q : wI → Prop) (K20 : Int32 → Int32 → Int32 → wI → Prop) (v3 : Int32) (v4 : Int32) (v5 : Int32) (I : wI) : Prop :=
  ((v4 ≤ v5) → (v_X4_repeat_53 k x1 x2 Q  v4 I)) ∧ ((¬ (v4 ≤ v5)) → ((((500 : Int32) ≤ v5) → (v_X4_repeat_53 k x1 x2 Q  v4 I)) ∧ ((¬ ((500 : Int32) ≤ v5)) → ((pre_X4_moveAt k (v5 - v3) I) ∧ (∀ r1 : Int32, (post_X4_moveAt k (v5 - v3) I r1) → ((pre_X4_addMove k r1 I) ∧ (∀ I2 : wI, (post_X4_addMove k r1 I I2) → (K20 v3 v4 (v5 + (1 : Int32)) I2))))))))
def v_X4_repeat_20 (k : Nat) (x1 : Int32) (x2 : Int32) (Q : wI → Prop) : Nat → Int32 → Int32 → Int32 → wI → Prop
  | 0 => fun _ _ _ _ => False
  | f + 1 => g_X4_repeat_20 k x1 x2 Q (v_X4_repeat_20 k x1 x2 Q f)
def v_X4_repeat (k : Nat) (x1 : Int32) (x2 : Int32) (I : wI) (Q : wI → Prop) : Prop :=
  ∃ f : Nat, v_X4_repeat_20 k x1 x2 Q  f ((I k 3) - x1) (x1 + (((I k 3) - x1) * x2)) (I k 3) I
theorem vc_X4_repeat (k : Nat) (x1 : Int32) (x2 : Int32) (hs : wSh k = (0, 4)) (I : wI) (hp : pre_X4_repeat k x1 x2 I) : v_X4_repeat k x1 x2 I (post_X4_repeat k x1 x2 I) := sorry
def v_X4_takesFigure_28 (k : Nat) (x1 : Int32) (Q : Int32 → wI → Prop)  (I : wI) : Prop :=
  Q (0 : Int32) I
def v_X4_takesFigure (k : Nat) (x1 : Int32) (I : wI) (Q : Int32 → wI → Prop) : Prop :=
  ((x1 < (50 : Int32)) → (v_X4_takesFigure_28 k x1 Q   I)) ∧ ((¬ (x1 < (50 : Int32))) → ((((57 : Int32) < x1) → (v_X4_takesFigure_28 k x1 Q   I)) ∧ ((¬ ((57 : Int32) < x1)) → (((((I k 8) - (1 : Int32)) < 0) → (v_X4_takesFigure_28 k x1 Q   I)) ∧ ((¬ (((I k 8) - (1 : Int32)) < 0)) → (((((I k 8) - (1 : Int32)) < (4 : Int32)) → (∀ I1 : wI, I1 = wU I k 10 (0 : Int32) → (∀ I2 : wI, I2 = wU I1 k 8 ((I k 8) - (1 : Int32)) → (vp_in ((I k 8) - (1 : Int32)) 4 ∧ ((pre_X4_repeat k (I2 (k + 4) (((I k 8) - (1 : Int32))).toNatClampNeg) (x1 - (48 : Int32)) I2) ∧ (∀ I3 : wI, (post_X4_repeat k (I2 (k + 4) (((I k 8) - (1 : Int32))).toNatClampNeg) (x1 - (48 : Int32)) I2 I3) → (Q (1 : Int32) I3))))))) ∧ ((¬ (((I k 8) - (1 : Int32)) < (4 : Int32))) → (v_X4_takesFigure_28 k x1 Q   I))))))))
theorem vc_X4_takesFigure (k : Nat) (x1 : Int32) (hs : wSh k = (0, 4)) (I : wI) (hp : pre_X4_takesFigure k x1 I) : v_X4_takesFigure k x1 I (post_X4_takesFigure k x1 I) := sorry
def v_X4_takesMove (k : Nat) (x1 : Int32) (I : wI) (Q : Int32 → wI → Prop) : Prop :=
  (pre_X4_addMove k x1 I) ∧ (∀ I1 : wI, (post_X4_addMove k x1 I I1) → (∀ I2 : wI, I2 = wU I1 k 9 (1 : Int32) → (Q (1 : Int32) I2)))
theorem vc_X4_takesMove (k : Nat) (x1 : Int32) (hs : wSh k = (0, 4)) (I : wI) (hp : pre_X4_takesMove k x1 I) : v_X4_takesMove k x1 I (post_X4_takesMove k x1 I) := sorry
def v_X4_takesOpening_15 (k : Nat) (x1 : Int32) (Q : Int32 → wI → Prop)  (I : wI) : Prop :=
  Q (0 : Int32) I
def v_X4_takesOpening (k : Nat) (x1 : Int32) (I : wI) (Q : Int32 → wI → Prop) : Prop :=
  (((I k 8) < 0) → (v_X4_takesOpening_15 k x1 Q   I)) ∧ ((¬ ((I k 8) < 0)) → ((((I k 8) < (4 : Int32)) → (vp_in (I k 8) 4 ∧ ∀ I1 : wI, I1 = wU I (k + 3) ((I k 8)).toNatClampNeg x1 → (vp_in (I1 k 8) 4 ∧ ∀ I2 : wI, I2 = wU I1 (k + 4) ((I1 k 8)).toNatClampNeg (I1 k 3) → (vp_in (I2 k 8) 4 ∧ ∀ I3 : wI, I3 = wU I2 (k + 5) ((I2 k 8)).toNatClampNeg (I2 k 3) → (∀ I4 : wI, I4 = wU I3 k 8 ((I3 k 8) + (1 : Int32)) → (∀ I5 : wI, I5 = wU I4 k 9 (0 : Int32) → (Q (1 : Int32) I5))))))) ∧ ((¬ ((I k 8) < (4 : Int32))) → (v_X4_takesOpening_15 k x1 Q   I))))
theorem vc_X4_takesOpening (k : Nat) (x1 : Int32) (hs : wSh k = (0, 4)) (I : wI) (hp : pre_X4_takesOpening k x1 I) : v_X4_takesOpening k x1 I (post_X4_takesOpening k x1 I) := sorry
def v_X5_opposite_16 (x0 : Int32) (I : wI) (Q : Int32 → Prop) (t0 : Int32) (t1 : Int32) : Prop :=
  (pre_X5_moveOf t1 t0 I) ∧ (∀ r1 : Int32, (post_X5_moveOf t1 t0 I r1) → (Q r1))
def v_X5_opposite (x0 : Int32) (I : wI) (Q : Int32 → Prop) : Prop :=
  (pre_X5_keyOf x0 I) ∧ (∀ r1 : Int32, (post_X5_keyOf x0 I r1) → ((pre_X5_isBack x0 I) ∧ (∀ r2 : Int32, (post_X5_isBack x0 I r2) → (((¬ r2 = 0) → (v_X5_opposite_16 x0 I Q  (0 : Int32) r1)) ∧ ((r2 = 0) → (v_X5_opposite_16 x0 I Q  (1 : Int32) r1))))))
theorem vc_X5_opposite (x0 : Int32)  (I : wI) (hp : pre_X5_opposite x0 I) : v_X5_opposite x0 I (post_X5_opposite x0 I) := sorry
def v_X4_addOpposite_87 (k : Nat) (x1 : Int32) (x2 : Int32) (x3 : Int32) (Q : wI → Prop) (v4 : Int32) (I : wI) : Prop :=
  ∀ I1 : wI, I1 = wU I k 3 v4 → (Q I1)
def g_X4_addOpposite_52 (k : Nat) (x1 : Int32) (x2 : Int32) (x3 : Int32) (Q : wI → Prop) (K52 : Int32 → Int32 → wI → Prop) (v4 : Int32) (v5 : Int32) (I : wI) : Prop :=
  ((v5 < x2) → (v_X4_addOpposite_87 k x1 x2 x3 Q  v4 I)) ∧ ((¬ (v5 < x2)) → ((((500 : Int32) ≤ (I k 3)) → (v_X4_addOpposite_87 k x1 x2 x3 Q  v4 I)) ∧ ((¬ ((500 : Int32) ≤ (I k 3))) → ((pre_X4_moveAt k v5 I) ∧ (∀ r1 : Int32, (post_X4_moveAt k v5 I r1) → ((pre_X5_opposite r1 I) ∧ (∀ r2 : Int32, (post_X5_opposite r1 I r2) → ((pre_X4_addMove k r2 I) ∧ (∀ I3 : wI, (post_X4_addMove k r2 I I3) → (K52 v4 (v5 + (-1 : Int32)) I3))))))))))
def v_X4_addOpposite_52 (k : Nat) (x1 : Int32) (x2 : Int32) (x3 : Int32) (Q : wI → Prop) : Nat → Int32 → Int32 → wI → Prop
  | 0 => fun _ _ _ => False
  | f + 1 => g_X4_addOpposite_52 k x1 x2 x3 Q (v_X4_addOpposite_52 k x1 x2 x3 Q f)
def v_X4_addOpposite_47 (k : Nat) (x1 : Int32) (x2 : Int32) (x3 : Int32) (Q : wI → Prop) (v4 : Int32) (I : wI) : Prop :=
  ∃ f : Nat, v_X4_addOpposite_52 k x1 x2 x3 Q  f v4 (x3 - (1 : Int32)) I
def g_X4_addOpposite_12 (k : Nat) (x1 : Int32) (x2 : Int32) (x3 : Int32) (Q : wI → Prop) (K12 : Int32 → Int32 → wI → Prop) (v4 : Int32) (v5 : Int32) (I : wI) : Prop :=
  ((v5 < x1) → (v_X4_addOpposite_47 k x1 x2 x3 Q  v4 I)) ∧ ((¬ (v5 < x1)) → ((((500 : Int32) ≤ (I k 3)) → (v_X4_addOpposite_47 k x1 x2 x3 Q  v4 I)) ∧ ((¬ ((500 : Int32) ≤ (I k 3))) → ((pre_X4_moveAt k v5 I) ∧ (∀ r1 : Int32, (post_X4_moveAt k v5 I r1) → ((pre_X5_opposite r1 I) ∧ (∀ r2 : Int32, (post_X5_opposite r1 I r2) → ((pre_X4_addMove k r2 I) ∧ (∀ I3 : wI, (post_X4_addMove k r2 I I3) → (K12 v4 (v5 + (-1 : Int32)) I3))))))))))
def v_X4_addOpposite_12 (k : Nat) (x1 : Int32) (x2 : Int32) (x3 : Int32) (Q : wI → Prop) : Nat → Int32 → Int32 → wI → Prop
  | 0 => fun _ _ _ => False
  | f + 1 => g_X4_addOpposite_12 k x1 x2 x3 Q (v_X4_addOpposite_12 k x1 x2 x3 Q f)
def v_X4_addOpposite (k : Nat) (x1 : Int32) (x2 : Int32) (x3 : Int32) (I : wI) (Q : wI → Prop) : Prop :=
  ∃ f : Nat, v_X4_addOpposite_12 k x1 x2 x3 Q  f ((x3 + x3) - x1) (x2 - (1 : Int32)) I
theorem vc_X4_addOpposite (k : Nat) (x1 : Int32) (x2 : Int32) (x3 : Int32) (hs : wSh k = (0, 4)) (I : wI) (hp : pre_X4_addOpposite k x1 x2 x3 I) : v_X4_addOpposite k x1 x2 x3 I (post_X4_addOpposite k x1 x2 x3 I) := sorry
def v_X4_takesInBracket_123 (k : Nat) (x1 : Int32) (Q : Int32 → wI → Prop)  (I : wI) : Prop :=
  Q (0 : Int32) I
def v_X4_takesInBracket_80 (k : Nat) (x1 : Int32) (Q : Int32 → wI → Prop) (v2 : Int32) (I : wI) : Prop :=
  vp_in v2 4 ∧ (((¬ (I (k + 3) (v2).toNatClampNeg) = (2 : Int32)) → (v_X4_takesInBracket_123 k x1 Q   I)) ∧ (((I (k + 3) (v2).toNatClampNeg) = (2 : Int32)) → (((¬ x1 = (93 : Int32)) → (v_X4_takesInBracket_123 k x1 Q   I)) ∧ ((x1 = (93 : Int32)) → (∀ I1 : wI, I1 = wU I k 8 v2 → (vp_in v2 4 ∧ (vp_in v2 4 ∧ ((pre_X4_addOpposite k (I1 (k + 4) (v2).toNatClampNeg) (I1 (k + 5) (v2).toNatClampNeg) (I1 k 3) I1) ∧ (∀ I2 : wI, (post_X4_addOpposite k (I1 (k + 4) (v2).toNatClampNeg) (I1 (k + 5) (v2).toNatClampNeg) (I1 k 3) I1 I2) → (Q (1 : Int32) I2))))))))))
def v_X4_takesInBracket_40 (k : Nat) (x1 : Int32) (Q : Int32 → wI → Prop) (v2 : Int32) (I : wI) : Prop :=
  vp_in v2 4 ∧ (((¬ (I (k + 3) (v2).toNatClampNeg) = (1 : Int32)) → (v_X4_takesInBracket_80 k x1 Q  v2 I)) ∧ (((I (k + 3) (v2).toNatClampNeg) = (1 : Int32)) → (((¬ x1 = (44 : Int32)) → (v_X4_takesInBracket_80 k x1 Q  v2 I)) ∧ ((x1 = (44 : Int32)) → (vp_in v2 4 ∧ ∀ I1 : wI, I1 = wU I (k + 3) (v2).toNatClampNeg (2 : Int32) → (vp_in v2 4 ∧ ∀ I2 : wI, I2 = wU I1 (k + 5) (v2).toNatClampNeg (I1 k 3) → (∀ I3 : wI, I3 = wU I2 k 9 (0 : Int32) → (Q (1 : Int32) I3))))))))
def v_X4_takesInBracket_16 (k : Nat) (x1 : Int32) (Q : Int32 → wI → Prop)  (I : wI) : Prop :=
  Q (0 : Int32) I
def v_X4_takesInBracket (k : Nat) (x1 : Int32) (I : wI) (Q : Int32 → wI → Prop) : Prop :=
  ((((I k 8) - (1 : Int32)) < 0) → (v_X4_takesInBracket_16 k x1 Q   I)) ∧ ((¬ (((I k 8) - (1 : Int32)) < 0)) → (((((I k 8) - (1 : Int32)) < (4 : Int32)) → (vp_in ((I k 8) - (1 : Int32)) 4 ∧ (((¬ (I (k + 3) (((I k 8) - (1 : Int32))).toNatClampNeg) = 0) → (v_X4_takesInBracket_40 k x1 Q  ((I k 8) - (1 : Int32)) I)) ∧ (((I (k + 3) (((I k 8) - (1 : Int32))).toNatClampNeg) = 0) → (((¬ x1 = (41 : Int32)) → (v_X4_takesInBracket_40 k x1 Q  ((I k 8) - (1 : Int32)) I)) ∧ ((x1 = (41 : Int32)) → (∀ I1 : wI, I1 = wU I k 10 (1 : Int32) → (Q (1 : Int32) I1)))))))) ∧ ((¬ (((I k 8) - (1 : Int32)) < (4 : Int32))) → (v_X4_takesInBracket_16 k x1 Q   I))))
theorem vc_X4_takesInBracket (k : Nat) (x1 : Int32) (hs : wSh k = (0, 4)) (I : wI) (hp : pre_X4_takesInBracket k x1 I) : v_X4_takesInBracket k x1 I (post_X4_takesInBracket k x1 I) := sorry
def v_X4_takes_107 (k : Nat) (x1 : Int32) (Q : Int32 → wI → Prop) (t0 : Int32) (I : wI) : Prop :=
  (t0 = 0 ∨ t0 = 1) ∧ Q t0 I
def v_X4_takes_106 (k : Nat) (x1 : Int32) (Q : Int32 → wI → Prop)  (I : wI) : Prop :=
  v_X4_takes_107 k x1 Q  (0 : Int32) I
def v_X4_takes_63 (k : Nat) (x1 : Int32) (Q : Int32 → wI → Prop)  (I : wI) : Prop :=
  ((¬ x1 = (40 : Int32)) → (((¬ x1 = (91 : Int32)) → ((((I k 9) = 0) → (v_X4_takes_106 k x1 Q   I)) ∧ ((¬ ((I k 9) = 0)) → ((pre_X4_takesInBracket k x1 I) ∧ (∀ r1 : Int32, ∀ I2 : wI, (post_X4_takesInBracket k x1 I r1 I2) → (((r1 = 0) → (v_X4_takes_106 k x1 Q   I2)) ∧ ((¬ (r1 = 0)) → (v_X4_takes_107 k x1 Q  (1 : Int32) I2)))))))) ∧ ((x1 = (91 : Int32)) → ((pre_X4_takesOpening k (1 : Int32) I) ∧ (∀ r3 : Int32, ∀ I4 : wI, (post_X4_takesOpening k (1 : Int32) I r3 I4) → ((r3 = 0 ∨ r3 = 1) ∧ Q r3 I4)))))) ∧ ((x1 = (40 : Int32)) → ((pre_X4_takesOpening k (0 : Int32) I) ∧ (∀ r5 : Int32, ∀ I6 : wI, (post_X4_takesOpening k (0 : Int32) I r5 I6) → ((r5 = 0 ∨ r5 = 1) ∧ Q r5 I6))))
def v_X4_takes_38 (k : Nat) (x1 : Int32) (Q : Int32 → wI → Prop)  (I : wI) : Prop :=
  ((x1 < (65 : Int32)) → (v_X4_takes_63 k x1 Q   I)) ∧ ((¬ (x1 < (65 : Int32))) → ((((69 : Int32) < x1) → (v_X4_takes_63 k x1 Q   I)) ∧ ((¬ ((69 : Int32) < x1)) → ((pre_X5_moveOf (x1 - (65 : Int32)) (1 : Int32) I) ∧ (∀ r1 : Int32, (post_X5_moveOf (x1 - (65 : Int32)) (1 : Int32) I r1) → ((pre_X4_takesMove k r1 I) ∧ (∀ r2 : Int32, ∀ I3 : wI, (post_X4_takesMove k r1 I r2 I3) → ((r2 = 0 ∨ r2 = 1) ∧ Q r2 I3))))))))
def v_X4_takes (k : Nat) (x1 : Int32) (I : wI) (Q : Int32 → wI → Prop) : Prop :=
  (((I k 10) = 0) → (((x1 < (97 : Int32)) → (v_X4_takes_38 k x1 Q   I)) ∧ ((¬ (x1 < (97 : Int32))) → ((((101 : Int32) < x1) → (v_X4_takes_38 k x1 Q   I)) ∧ ((¬ ((101 : Int32) < x1)) → ((pre_X5_moveOf (x1 - (97 : Int32)) (0 : Int32) I) ∧ (∀ r1 : Int32, (post_X5_moveOf (x1 - (97 : Int32)) (0 : Int32) I r1) → ((pre_X4_takesMove k r1 I) ∧ (∀ r2 : Int32, ∀ I3 : wI, (post_X4_takesMove k r1 I r2 I3) → ((r2 = 0 ∨ r2 = 1) ∧ Q r2 I3)))))))))) ∧ ((¬ ((I k 10) = 0)) → ((pre_X4_takesFigure k x1 I) ∧ (∀ r4 : Int32, ∀ I5 : wI, (post_X4_takesFigure k x1 I r4 I5) → ((r4 = 0 ∨ r4 = 1) ∧ Q r4 I5))))
theorem vc_X4_takes (k : Nat) (x1 : Int32) (hs : wSh k = (0, 4)) (I : wI) (hp : pre_X4_takes k x1 I) : v_X4_takes k x1 I (post_X4_takes k x1 I) := sorry
def v_X4_read_83 (k : Nat) (Q : Int32 → wI → Prop) (v1 : Int32) (t0 : Int32) (I : wI) : Prop :=
  (t0 = 0 ∨ t0 = 1) ∧ (∀ I1 : wI, I1 = wU I k 4 t0 → (Q v1 I1))
def v_X4_read_82 (k : Nat) (Q : Int32 → wI → Prop) (v1 : Int32) (I : wI) : Prop :=
  v_X4_read_83 k Q  v1 (0 : Int32) I
def v_X4_read_48 (k : Nat) (Q : Int32 → wI → Prop) (v1 : Int32) (I : wI) : Prop :=
  ((¬ v1 = (I k 1)) → (v_X4_read_82 k Q  v1 I)) ∧ ((v1 = (I k 1)) → (((¬ (I k 8) = 0) → (v_X4_read_82 k Q  v1 I)) ∧ (((I k 8) = 0) → ((((I k 9) = 0) → (v_X4_read_82 k Q  v1 I)) ∧ ((¬ ((I k 9) = 0)) → (((¬ (I k 10) = 0) → (v_X4_read_82 k Q  v1 I)) ∧ (((I k 10) = 0) → (v_X4_read_83 k Q  v1 (1 : Int32) I))))))))
def g_X4_read_22 (k : Nat) (Q : Int32 → wI → Prop) (K22 : Int32 → wI → Prop) (v1 : Int32) (I : wI) : Prop :=
  (((I k 1) ≤ v1) → (v_X4_read_48 k Q  v1 I)) ∧ ((¬ ((I k 1) ≤ v1)) → ((pre_X4_signAt k v1 I) ∧ (∀ r1 : Int32, (post_X4_signAt k v1 I r1) → ((pre_X4_takes k r1 I) ∧ (∀ r2 : Int32, ∀ I3 : wI, (post_X4_takes k r1 I r2 I3) → (((r2 = 0) → (v_X4_read_48 k Q  v1 I3)) ∧ ((¬ (r2 = 0)) → (K22 (v1 + (1 : Int32)) I3))))))))
def v_X4_read_22 (k : Nat) (Q : Int32 → wI → Prop) : Nat → Int32 → wI → Prop
  | 0 => fun _ _ => False
  | f + 1 => g_X4_read_22 k Q (v_X4_read_22 k Q f)
def v_X4_read (k : Nat) (I : wI) (Q : Int32 → wI → Prop) : Prop :=
  ∀ I1 : wI, I1 = wU I k 3 (0 : Int32) → (∀ I2 : wI, I2 = wU I1 k 8 (0 : Int32) → (∀ I3 : wI, I3 = wU I2 k 9 (0 : Int32) → (∀ I4 : wI, I4 = wU I3 k 10 (0 : Int32) → (∃ f : Nat, v_X4_read_22 k Q  f (0 : Int32) I4))))
theorem vc_X4_read (k : Nat) (hs : wSh k = (0, 4)) (I : wI) (hp : pre_X4_read k I) : v_X4_read k I (post_X4_read k I) := sorry
def v_X0_reach_35 (k : Nat) (I : wI) (Q : Int32 → Prop) (K4 : Int32 → Int32 → Prop) (v1 : Int32) (v2 : Int32) : Prop :=
  K4 v1 (v2 + (1 : Int32))
def v_X0_reach_29 (k : Nat) (I : wI) (Q : Int32 → Prop) (K4 : Int32 → Int32 → Prop) (v1 : Int32) (v2 : Int32) : Prop :=
  v_X0_reach_35 k I Q K4 (v1 ||| ((1 : Int32) <<< (v2 &&& 31))) v2
def g_X0_reach_4 (k : Nat) (I : wI) (Q : Int32 → Prop) (K4 : Int32 → Int32 → Prop) (v1 : Int32) (v2 : Int32) : Prop :=
  (((6 : Int32) ≤ v2) → (Q v1)) ∧ ((¬ ((6 : Int32) ≤ v2)) → (vp_in v2 6 ∧ (((¬ (I (k + 1) (v2).toNatClampNeg) = v2) → (v_X0_reach_29 k I Q K4 v1 v2)) ∧ (((I (k + 1) (v2).toNatClampNeg) = v2) → (vp_in v2 6 ∧ ((((I (k + 2) (v2).toNatClampNeg) = 0) → (v_X0_reach_35 k I Q K4 v1 v2)) ∧ ((¬ ((I (k + 2) (v2).toNatClampNeg) = 0)) → (v_X0_reach_29 k I Q K4 v1 v2))))))))
def v_X0_reach_4 (k : Nat) (I : wI) (Q : Int32 → Prop) : Nat → Int32 → Int32 → Prop
  | 0 => fun _ _ => False
  | f + 1 => g_X0_reach_4 k I Q (v_X0_reach_4 k I Q f)
def v_X0_reach (k : Nat) (I : wI) (Q : Int32 → Prop) : Prop :=
  ∃ f : Nat, v_X0_reach_4 k I Q  f (0 : Int32) (0 : Int32)
theorem vc_X0_reach (k : Nat) (hs : wSh k = (0, 0)) (I : wI) (hp : pre_X0_reach k I) : v_X0_reach k I (post_X0_reach k I) := sorry
def g_X0_bringHome_2 (k : Nat) (Q : wI → Prop) (K2 : Int32 → wI → Prop) (v1 : Int32) (I : wI) : Prop :=
  (((6 : Int32) ≤ v1) → (Q I)) ∧ ((¬ ((6 : Int32) ≤ v1)) → (vp_in v1 6 ∧ ∀ I1 : wI, I1 = wU I (k + 1) (v1).toNatClampNeg v1 → (vp_in v1 6 ∧ ∀ I2 : wI, I2 = wU I1 (k + 2) (v1).toNatClampNeg (0 : Int32) → (K2 (v1 + (1 : Int32)) I2))))
def v_X0_bringHome_2 (k : Nat) (Q : wI → Prop) : Nat → Int32 → wI → Prop
  | 0 => fun _ _ => False
  | f + 1 => g_X0_bringHome_2 k Q (v_X0_bringHome_2 k Q f)
def v_X0_bringHome (k : Nat) (I : wI) (Q : wI → Prop) : Prop :=
  ∃ f : Nat, v_X0_bringHome_2 k Q  f (0 : Int32) I
theorem vc_X0_bringHome (k : Nat) (hs : wSh k = (0, 0)) (I : wI) (hp : pre_X0_bringHome k I) : v_X0_bringHome k I (post_X0_bringHome k I) := sorry
def v_X1_shape_23 (k : Nat) (x1 : Int32) (x2 : Int32) (x3 : Int32) (Q : wI → Prop)  (I : wI) : Prop :=
  Q I
def v_X1_shape (k : Nat) (x1 : Int32) (x2 : Int32) (x3 : Int32) (I : wI) (Q : wI → Prop) : Prop :=
  ((x1 < 0) → (v_X1_shape_23 k x1 x2 x3 Q   I)) ∧ ((¬ (x1 < 0)) → ((((5 : Int32) ≤ x1) → (v_X1_shape_23 k x1 x2 x3 Q   I)) ∧ ((¬ ((5 : Int32) ≤ x1)) → (vp_in x1 5 ∧ ∀ I1 : wI, I1 = wU I (k + 1) (x1).toNatClampNeg x2 → (vp_in x1 5 ∧ ∀ I2 : wI, I2 = wU I1 (k + 2) (x1).toNatClampNeg x3 → (v_X1_shape_23 k x1 x2 x3 Q   I2))))))
theorem vc_X1_shape (k : Nat) (x1 : Int32) (x2 : Int32) (x3 : Int32) (hs : wSh k = (0, 1)) (I : wI) (hp : pre_X1_shape k x1 x2 x3 I) : v_X1_shape k x1 x2 x3 I (post_X1_shape k x1 x2 x3 I) := sorry
def v_X3_stuckKeys_20 (k : Nat) (I : wI) (Q : Int32 → Prop) (K4 : Int32 → Int32 → Prop) (v1 : Int32) (v2 : Int32) : Prop :=
  K4 v1 (v2 + (1 : Int32))
def g_X3_stuckKeys_4 (k : Nat) (I : wI) (Q : Int32 → Prop) (K4 : Int32 → Int32 → Prop) (v1 : Int32) (v2 : Int32) : Prop :=
  (((5 : Int32) ≤ v2) → (Q v1)) ∧ ((¬ ((5 : Int32) ≤ v2)) → ((pre_X3_allows k v2 I) ∧ (∀ r1 : Int32, (post_X3_allows k v2 I r1) → (((¬ r1 = 0) → (v_X3_stuckKeys_20 k I Q K4 v1 v2)) ∧ ((r1 = 0) → (v_X3_stuckKeys_20 k I Q K4 (v1 + (1 : Int32)) v2))))))
def v_X3_stuckKeys_4 (k : Nat) (I : wI) (Q : Int32 → Prop) : Nat → Int32 → Int32 → Prop
  | 0 => fun _ _ => False
  | f + 1 => g_X3_stuckKeys_4 k I Q (v_X3_stuckKeys_4 k I Q f)
def v_X3_stuckKeys (k : Nat) (I : wI) (Q : Int32 → Prop) : Prop :=
  ∃ f : Nat, v_X3_stuckKeys_4 k I Q  f (0 : Int32) (0 : Int32)
theorem vc_X3_stuckKeys (k : Nat) (hs : wSh k = (0, 3)) (I : wI) (hp : pre_X3_stuckKeys k I) : v_X3_stuckKeys k I (post_X3_stuckKeys k I) := sorry
def g_X0_notchSum_4 (k : Nat) (I : wI) (Q : Int32 → Prop) (K4 : Int32 → Int32 → Prop) (v1 : Int32) (v2 : Int32) : Prop :=
  (((6 : Int32) ≤ v2) → (Q v1)) ∧ ((¬ ((6 : Int32) ≤ v2)) → (vp_in v2 6 ∧ (K4 (v1 + (I (k + 2) (v2).toNatClampNeg)) (v2 + (1 : Int32)))))
def v_X0_notchSum_4 (k : Nat) (I : wI) (Q : Int32 → Prop) : Nat → Int32 → Int32 → Prop
  | 0 => fun _ _ => False
  | f + 1 => g_X0_notchSum_4 k I Q (v_X0_notchSum_4 k I Q f)
def v_X0_notchSum (k : Nat) (I : wI) (Q : Int32 → Prop) : Prop :=
  ∃ f : Nat, v_X0_notchSum_4 k I Q  f (0 : Int32) (0 : Int32)
theorem vc_X0_notchSum (k : Nat) (hs : wSh k = (0, 0)) (I : wI) (hp : pre_X0_notchSum k I) : v_X0_notchSum k I (post_X0_notchSum k I) := sorry
def v_X4_addSign_36 (k : Nat) (x1 : Int32) (Q : wI → Prop)  (I : wI) : Prop :=
  Q I
def v_X4_addSign (k : Nat) (x1 : Int32) (I : wI) (Q : wI → Prop) : Prop :=
  (((I k 1) < 0) → (v_X4_addSign_36 k x1 Q   I)) ∧ ((¬ ((I k 1) < 0)) → ((((60 : Int32) ≤ (I k 1)) → (v_X4_addSign_36 k x1 Q   I)) ∧ ((¬ ((60 : Int32) ≤ (I k 1))) → (vp_in (I k 1) 60 ∧ ∀ I1 : wI, I1 = wU I (k + 1) ((I k 1)).toNatClampNeg (vp_nar .char x1) → (∀ I2 : wI, I2 = wU I1 k 1 ((I1 k 1) + (1 : Int32)) → (v_X4_addSign_36 k x1 Q   I2))))))
theorem vc_X4_addSign (k : Nat) (x1 : Int32) (hs : wSh k = (0, 4)) (I : wI) (hp : pre_X4_addSign k x1 I) : v_X4_addSign k x1 I (post_X4_addSign k x1 I) := sorry
def v_X0_discAt_20 (k : Nat) (x1 : Int32) (I : wI) (Q : Int32 → Prop) (t0 : Int32) : Prop :=
  Q t0
def v_X0_discAt_19 (k : Nat) (x1 : Int32) (I : wI) (Q : Int32 → Prop)  : Prop :=
  v_X0_discAt_20 k x1 I Q  (-1 : Int32)
def v_X0_discAt (k : Nat) (x1 : Int32) (I : wI) (Q : Int32 → Prop) : Prop :=
  ((x1 < 0) → (v_X0_discAt_19 k x1 I Q  )) ∧ ((¬ (x1 < 0)) → ((((6 : Int32) ≤ x1) → (v_X0_discAt_19 k x1 I Q  )) ∧ ((¬ ((6 : Int32) ≤ x1)) → (vp_in x1 6 ∧ (v_X0_discAt_20 k x1 I Q  (I (k + 1) (x1).toNatClampNeg))))))
theorem vc_X0_discAt (k : Nat) (x1 : Int32) (hs : wSh k = (0, 0)) (I : wI) (hp : pre_X0_discAt k x1 I) : v_X0_discAt k x1 I (post_X0_discAt k x1 I) := sorry
def v_X0_notchAt_20 (k : Nat) (x1 : Int32) (I : wI) (Q : Int32 → Prop) (t0 : Int32) : Prop :=
  Q t0
def v_X0_notchAt_19 (k : Nat) (x1 : Int32) (I : wI) (Q : Int32 → Prop)  : Prop :=
  v_X0_notchAt_20 k x1 I Q  (0 : Int32)
def v_X0_notchAt (k : Nat) (x1 : Int32) (I : wI) (Q : Int32 → Prop) : Prop :=
  ((x1 < 0) → (v_X0_notchAt_19 k x1 I Q  )) ∧ ((¬ (x1 < 0)) → ((((6 : Int32) ≤ x1) → (v_X0_notchAt_19 k x1 I Q  )) ∧ ((¬ ((6 : Int32) ≤ x1)) → (vp_in x1 6 ∧ (v_X0_notchAt_20 k x1 I Q  (I (k + 2) (x1).toNatClampNeg))))))
theorem vc_X0_notchAt (k : Nat) (x1 : Int32) (hs : wSh k = (0, 0)) (I : wI) (hp : pre_X0_notchAt k x1 I) : v_X0_notchAt k x1 I (post_X0_notchAt k x1 I) := sorry
def v_X0_agreesAt_31 (k : Nat) (k1 : Nat) (x2 : Int32) (I : wI) (Q : Int32 → Prop) (t0 : Int32) : Prop :=
  (t0 = 0 ∨ t0 = 1) ∧ Q t0
def v_X0_agreesAt_30 (k : Nat) (k1 : Nat) (x2 : Int32) (I : wI) (Q : Int32 → Prop)  : Prop :=
  v_X0_agreesAt_31 k k1 x2 I Q  (0 : Int32)
def v_X0_agreesAt (k : Nat) (k1 : Nat) (x2 : Int32) (I : wI) (Q : Int32 → Prop) : Prop :=
  (pre_X0_discAt k x2 I) ∧ (∀ r1 : Int32, (post_X0_discAt k x2 I r1) → ((pre_X0_discAt k1 x2 I) ∧ (∀ r2 : Int32, (post_X0_discAt k1 x2 I r2) → (((¬ r1 = r2) → (v_X0_agreesAt_30 k k1 x2 I Q  )) ∧ ((r1 = r2) → ((pre_X0_notchAt k x2 I) ∧ (∀ r3 : Int32, (post_X0_notchAt k x2 I r3) → ((pre_X0_notchAt k1 x2 I) ∧ (∀ r4 : Int32, (post_X0_notchAt k1 x2 I r4) → (((¬ r3 = r4) → (v_X0_agreesAt_30 k k1 x2 I Q  )) ∧ ((r3 = r4) → (v_X0_agreesAt_31 k k1 x2 I Q  (1 : Int32)))))))))))))
theorem vc_X0_agreesAt (k : Nat) (k1 : Nat) (x2 : Int32) (hs : wSh k = (0, 0)) (hs1 : wSh k1 = (0, 0)) (I : wI) (hp : pre_X0_agreesAt k k1 x2 I) : v_X0_agreesAt k k1 x2 I (post_X0_agreesAt k k1 x2 I) := sorry
def v_X1_keysAt_29 (k : Nat) (x1 : Int32) (I : wI) (Q : Int32 → Prop) (K4 : Int32 → Int32 → Prop) (v2 : Int32) (v3 : Int32) : Prop :=
  K4 v2 (v3 + (1 : Int32))
def g_X1_keysAt_4 (k : Nat) (x1 : Int32) (I : wI) (Q : Int32 → Prop) (K4 : Int32 → Int32 → Prop) (v2 : Int32) (v3 : Int32) : Prop :=
  (((5 : Int32) ≤ v3) → (Q v2)) ∧ ((¬ ((5 : Int32) ≤ v3)) → (vp_in v3 5 ∧ (((¬ (((I (k + 1) (v3).toNatClampNeg) >>> (x1 &&& 31)) &&& (1 : Int32)) = (1 : Int32)) → (v_X1_keysAt_29 k x1 I Q K4 v2 v3)) ∧ (((((I (k + 1) (v3).toNatClampNeg) >>> (x1 &&& 31)) &&& (1 : Int32)) = (1 : Int32)) → (v_X1_keysAt_29 k x1 I Q K4 (v2 ||| ((1 : Int32) <<< (v3 &&& 31))) v3)))))
def v_X1_keysAt_4 (k : Nat) (x1 : Int32) (I : wI) (Q : Int32 → Prop) : Nat → Int32 → Int32 → Prop
  | 0 => fun _ _ => False
  | f + 1 => g_X1_keysAt_4 k x1 I Q (v_X1_keysAt_4 k x1 I Q f)
def v_X1_keysAt (k : Nat) (x1 : Int32) (I : wI) (Q : Int32 → Prop) : Prop :=
  ∃ f : Nat, v_X1_keysAt_4 k x1 I Q  f (0 : Int32) (0 : Int32)
theorem vc_X1_keysAt (k : Nat) (x1 : Int32) (hs : wSh k = (0, 1)) (I : wI) (hp : pre_X1_keysAt k x1 I) : v_X1_keysAt k x1 I (post_X1_keysAt k x1 I) := sorry
def v_X5_showKey (x1 : Int32) (I : wI) (Q : wI → Prop) : Prop :=
  (pre_X0_bringHome 30 I) ∧ (∀ I1 : wI, (post_X0_bringHome 30 I I1) → ((pre_X5_moveOf x1 (0 : Int32) I1) ∧ (∀ r2 : Int32, (post_X5_moveOf x1 (0 : Int32) I1 r2) → ((pre_X1_move 5 30 r2 I1) ∧ (∀ I3 : wI, (post_X1_move 5 30 r2 I1 I3) → (Q I3))))))
theorem vc_X5_showKey (x1 : Int32)  (I : wI) (hp : pre_X5_showKey x1 I) : v_X5_showKey x1 I (post_X5_showKey x1 I) := sorry
def g_X0_putAhead_2 (k : Nat) (k1 : Nat) (Q : wI → Prop) (K2 : Int32 → wI → Prop) (v2 : Int32) (I : wI) : Prop :=
  (((6 : Int32) ≤ v2) → (Q I)) ∧ ((¬ ((6 : Int32) ≤ v2)) → (vp_in v2 6 ∧ ((pre_X0_discAt k1 (I (k + 1) (v2).toNatClampNeg) I) ∧ (∀ r1 : Int32, (post_X0_discAt k1 (I (k + 1) (v2).toNatClampNeg) I r1) → (vp_in v2 6 ∧ ∀ I2 : wI, I2 = wU I (k + 1) (v2).toNatClampNeg r1 → (vp_in v2 6 ∧ ((pre_X0_notchAt k1 (I (k + 1) (v2).toNatClampNeg) I2) ∧ (∀ r3 : Int32, (post_X0_notchAt k1 (I (k + 1) (v2).toNatClampNeg) I2 r3) → (vp_in v2 6 ∧ ∀ I4 : wI, I4 = wU I2 (k + 2) (v2).toNatClampNeg (((I2 (k + 2) (v2).toNatClampNeg) + r3) - ((I2 (k + 2) (v2).toNatClampNeg) + r3) / (5 : Int32) * (5 : Int32)) → (K2 (v2 + (1 : Int32)) I4))))))))))
def v_X0_putAhead_2 (k : Nat) (k1 : Nat) (Q : wI → Prop) : Nat → Int32 → wI → Prop
  | 0 => fun _ _ => False
  | f + 1 => g_X0_putAhead_2 k k1 Q (v_X0_putAhead_2 k k1 Q f)
def v_X0_putAhead (k : Nat) (k1 : Nat) (I : wI) (Q : wI → Prop) : Prop :=
  ∃ f : Nat, v_X0_putAhead_2 k k1 Q  f (0 : Int32) I
theorem vc_X0_putAhead (k : Nat) (k1 : Nat) (hs : wSh k = (0, 0)) (hs1 : wSh k1 = (0, 0)) (I : wI) (hp : pre_X0_putAhead k k1 I) : v_X0_putAhead k k1 I (post_X0_putAhead k k1 I) := sorry
def v_X5_periodByDoing_47  (Q : Int32 → wI → Prop) (v1 : Int32) (I : wI) : Prop :=
  Q v1 I
def g_X5_periodByDoing_13  (Q : Int32 → wI → Prop) (K13 : Int32 → wI → Prop) (v1 : Int32) (I : wI) : Prop :=
  (((1000000 : Int32) ≤ v1) → (v_X5_periodByDoing_47  Q  v1 I)) ∧ ((¬ ((1000000 : Int32) ≤ v1)) → ((pre_X0_reach 33 I) ∧ (∀ r1 : Int32, (post_X0_reach 33 I r1) → (((r1 = 0) → (v_X5_periodByDoing_47  Q  v1 I)) ∧ ((¬ (r1 = 0)) → ((pre_X0_putAhead 33 30 I) ∧ (∀ I2 : wI, (post_X0_putAhead 33 30 I I2) → (K13 (v1 + (1 : Int32)) I2))))))))
def v_X5_periodByDoing_13  (Q : Int32 → wI → Prop) : Nat → Int32 → wI → Prop
  | 0 => fun _ _ => False
  | f + 1 => g_X5_periodByDoing_13 Q (v_X5_periodByDoing_13 Q f)
def v_X5_periodByDoing  (I : wI) (Q : Int32 → wI → Prop) : Prop :=
  (pre_X0_copyFrom 33 30 I) ∧ (∀ I1 : wI, (post_X0_copyFrom 33 30 I I1) → (∃ f : Nat, v_X5_periodByDoing_13  Q  f (1 : Int32) I1))
theorem vc_X5_periodByDoing   (I : wI) (hp : pre_X5_periodByDoing  I) : v_X5_periodByDoing  I (post_X5_periodByDoing  I) := sorry
def v_X0_placeOf_22 (k : Nat) (x1 : Int32) (I : wI) (Q : Int32 → Prop) (K4 : Int32 → Int32 → Prop) (v2 : Int32) (v3 : Int32) : Prop :=
  K4 v2 (v3 + (1 : Int32))
def g_X0_placeOf_4 (k : Nat) (x1 : Int32) (I : wI) (Q : Int32 → Prop) (K4 : Int32 → Int32 → Prop) (v2 : Int32) (v3 : Int32) : Prop :=
  (((6 : Int32) ≤ v3) → (Q v2)) ∧ ((¬ ((6 : Int32) ≤ v3)) → (vp_in v3 6 ∧ (((¬ (I (k + 1) (v3).toNatClampNeg) = x1) → (v_X0_placeOf_22 k x1 I Q K4 v2 v3)) ∧ (((I (k + 1) (v3).toNatClampNeg) = x1) → (v_X0_placeOf_22 k x1 I Q K4 v3 v3)))))
def v_X0_placeOf_4 (k : Nat) (x1 : Int32) (I : wI) (Q : Int32 → Prop) : Nat → Int32 → Int32 → Prop
  | 0 => fun _ _ => False
  | f + 1 => g_X0_placeOf_4 k x1 I Q (v_X0_placeOf_4 k x1 I Q f)
def v_X0_placeOf (k : Nat) (x1 : Int32) (I : wI) (Q : Int32 → Prop) : Prop :=
  ∃ f : Nat, v_X0_placeOf_4 k x1 I Q  f x1 (0 : Int32)
theorem vc_X0_placeOf (k : Nat) (x1 : Int32) (hs : wSh k = (0, 0)) (I : wI) (hp : pre_X0_placeOf k x1 I) : v_X0_placeOf k x1 I (post_X0_placeOf k x1 I) := sorry
def v_X0_leastMultiple_25 (x0 : Int32) (x1 : Int32) (I : wI) (Q : Int32 → Prop) (v2 : Int32) : Prop :=
  Q v2
def g_X0_leastMultiple_4 (x0 : Int32) (x1 : Int32) (I : wI) (Q : Int32 → Prop) (K4 : Int32 → Int32 → Prop) (v2 : Int32) (v3 : Int32) : Prop :=
  ((x1 ≤ v3) → (v_X0_leastMultiple_25 x0 x1 I Q  v2)) ∧ ((¬ (x1 ≤ v3)) → ((¬ x1 = 0) ∧ ((((v2 - v2 / x1 * x1) = 0) → (v_X0_leastMultiple_25 x0 x1 I Q  v2)) ∧ ((¬ ((v2 - v2 / x1 * x1) = 0)) → (K4 (v2 + x0) (v3 + (1 : Int32)))))))
def v_X0_leastMultiple_4 (x0 : Int32) (x1 : Int32) (I : wI) (Q : Int32 → Prop) : Nat → Int32 → Int32 → Prop
  | 0 => fun _ _ => False
  | f + 1 => g_X0_leastMultiple_4 x0 x1 I Q (v_X0_leastMultiple_4 x0 x1 I Q f)
def v_X0_leastMultiple (x0 : Int32) (x1 : Int32) (I : wI) (Q : Int32 → Prop) : Prop :=
  ∃ f : Nat, v_X0_leastMultiple_4 x0 x1 I Q  f x0 (1 : Int32)
theorem vc_X0_leastMultiple (x0 : Int32) (x1 : Int32)  (I : wI) (hp : pre_X0_leastMultiple x0 x1 I) : v_X0_leastMultiple x0 x1 I (post_X0_leastMultiple x0 x1 I) := sorry
def v_X0_periodByRounds_95 (k : Nat) (I : wI) (Q : Int32 → Prop) (K6 : Int32 → Int32 → Int32 → Prop) (v1 : Int32) (v2 : Int32) (v3 : Int32) : Prop :=
  K6 v1 v2 (v3 + (1 : Int32))
def v_X0_periodByRounds_91 (k : Nat) (I : wI) (Q : Int32 → Prop) (K6 : Int32 → Int32 → Int32 → Prop) (v2 : Int32) (v3 : Int32) (t0 : Int32) (t1 : Int32) : Prop :=
  (pre_X0_leastMultiple t1 t0 I) ∧ (∀ r1 : Int32, (post_X0_leastMultiple t1 t0 I r1) → (v_X0_periodByRounds_95 k I Q K6 r1 v2 v3))
def v_X0_periodByRounds_69 (k : Nat) (I : wI) (Q : Int32 → Prop) (K6 : Int32 → Int32 → Int32 → Prop) (v1 : Int32) (v2 : Int32) (v3 : Int32) (v4 : Int32) (v5 : Int32) : Prop :=
  ((v4 ≤ 0) → (v_X0_periodByRounds_95 k I Q K6 v1 v2 v3)) ∧ ((¬ (v4 ≤ 0)) → (((¬ (v5 - v5 / (5 : Int32) * (5 : Int32)) = 0) → (v_X0_periodByRounds_91 k I Q K6 v2 v3 ((5 : Int32) * v4) v1)) ∧ (((v5 - v5 / (5 : Int32) * (5 : Int32)) = 0) → (v_X0_periodByRounds_91 k I Q K6 v2 v3 v4 v1))))
def g_X0_periodByRounds_21 (k : Nat) (I : wI) (Q : Int32 → Prop) (K6 : Int32 → Int32 → Int32 → Prop) (K21 : Int32 → Int32 → Int32 → Int32 → Int32 → Int32 → Prop) (v1 : Int32) (v2 : Int32) (v3 : Int32) (v4 : Int32) (v5 : Int32) (v6 : Int32) : Prop :=
  (((6 : Int32) ≤ v4) → (v_X0_periodByRounds_69 k I Q K6 v1 v2 v3 v4 v5)) ∧ ((¬ ((6 : Int32) ≤ v4)) → (((¬ ((v2 >>> (v6 &&& 31)) &&& (1 : Int32)) = 0) → (v_X0_periodByRounds_69 k I Q K6 v1 v2 v3 v4 v5)) ∧ ((((v2 >>> (v6 &&& 31)) &&& (1 : Int32)) = 0) → ((pre_X0_placeOf k v6 I) ∧ (∀ r1 : Int32, (post_X0_placeOf k v6 I r1) → ((pre_X0_notchAt k r1 I) ∧ (∀ r2 : Int32, (post_X0_notchAt k r1 I r2) → (K21 v1 (v2 ||| ((1 : Int32) <<< (v6 &&& 31))) v3 (v4 + (1 : Int32)) (v5 + r2) r1))))))))
def v_X0_periodByRounds_21 (k : Nat) (I : wI) (Q : Int32 → Prop) (K6 : Int32 → Int32 → Int32 → Prop) : Nat → Int32 → Int32 → Int32 → Int32 → Int32 → Int32 → Prop
  | 0 => fun _ _ _ _ _ _ => False
  | f + 1 => g_X0_periodByRounds_21 k I Q K6 (v_X0_periodByRounds_21 k I Q K6 f)
def g_X0_periodByRounds_6 (k : Nat) (I : wI) (Q : Int32 → Prop) (K6 : Int32 → Int32 → Int32 → Prop) (v1 : Int32) (v2 : Int32) (v3 : Int32) : Prop :=
  (((6 : Int32) ≤ v3) → (Q v1)) ∧ ((¬ ((6 : Int32) ≤ v3)) → (∃ f : Nat, v_X0_periodByRounds_21 k I Q K6 f v1 v2 v3 (0 : Int32) (0 : Int32) v3))
def v_X0_periodByRounds_6 (k : Nat) (I : wI) (Q : Int32 → Prop) : Nat → Int32 → Int32 → Int32 → Prop
  | 0 => fun _ _ _ => False
  | f + 1 => g_X0_periodByRounds_6 k I Q (v_X0_periodByRounds_6 k I Q f)
def v_X0_periodByRounds (k : Nat) (I : wI) (Q : Int32 → Prop) : Prop :=
  ∃ f : Nat, v_X0_periodByRounds_6 k I Q  f (1 : Int32) (0 : Int32) (0 : Int32)
theorem vc_X0_periodByRounds (k : Nat) (hs : wSh k = (0, 0)) (I : wI) (hp : pre_X0_periodByRounds k I) : v_X0_periodByRounds k I (post_X0_periodByRounds k I) := sorry
def v_X3_usesOf_19 (k : Nat) (x1 : Int32) (I : wI) (Q : Int32 → Prop) (t0 : Int32) : Prop :=
  Q t0
def v_X3_usesOf_18 (k : Nat) (x1 : Int32) (I : wI) (Q : Int32 → Prop)  : Prop :=
  v_X3_usesOf_19 k x1 I Q  (0 : Int32)
def v_X3_usesOf (k : Nat) (x1 : Int32) (I : wI) (Q : Int32 → Prop) : Prop :=
  ((x1 < 0) → (v_X3_usesOf_18 k x1 I Q  )) ∧ ((¬ (x1 < 0)) → ((((5 : Int32) ≤ x1) → (v_X3_usesOf_18 k x1 I Q  )) ∧ ((¬ ((5 : Int32) ≤ x1)) → (vp_in x1 5 ∧ (v_X3_usesOf_19 k x1 I Q  (I (k + 10) (x1).toNatClampNeg))))))
theorem vc_X3_usesOf (k : Nat) (x1 : Int32) (hs : wSh k = (0, 3)) (I : wI) (hp : pre_X3_usesOf k x1 I) : v_X3_usesOf k x1 I (post_X3_usesOf k x1 I) := sorry
def v_X5_showPair (x1 : Int32) (x2 : Int32) (I : wI) (Q : wI → Prop) : Prop :=
  (pre_X0_bringHome 30 I) ∧ (∀ I1 : wI, (post_X0_bringHome 30 I I1) → ((pre_X5_moveOf x1 (0 : Int32) I1) ∧ (∀ r2 : Int32, (post_X5_moveOf x1 (0 : Int32) I1 r2) → ((pre_X1_move 5 30 r2 I1) ∧ (∀ I3 : wI, (post_X1_move 5 30 r2 I1 I3) → ((pre_X5_moveOf x2 (0 : Int32) I3) ∧ (∀ r4 : Int32, (post_X5_moveOf x2 (0 : Int32) I3 r4) → ((pre_X1_move 5 30 r4 I3) ∧ (∀ I5 : wI, (post_X1_move 5 30 r4 I3 I5) → ((pre_X5_moveOf x1 (1 : Int32) I5) ∧ (∀ r6 : Int32, (post_X5_moveOf x1 (1 : Int32) I5 r6) → ((pre_X1_move 5 30 r6 I5) ∧ (∀ I7 : wI, (post_X1_move 5 30 r6 I5 I7) → ((pre_X5_moveOf x2 (1 : Int32) I7) ∧ (∀ r8 : Int32, (post_X5_moveOf x2 (1 : Int32) I7 r8) → ((pre_X1_move 5 30 r8 I7) ∧ (∀ I9 : wI, (post_X1_move 5 30 r8 I7 I9) → (Q I9))))))))))))))))))
theorem vc_X5_showPair (x1 : Int32) (x2 : Int32)  (I : wI) (hp : pre_X5_showPair x1 x2 I) : v_X5_showPair x1 x2 I (post_X5_showPair x1 x2 I) := sorry
def v_J_min_10 (x0 : Int32) (x1 : Int32) (I : wI) (Q : Int32 → Prop) (t0 : Int32) : Prop :=
  Q t0
def v_J_min (x0 : Int32) (x1 : Int32) (I : wI) (Q : Int32 → Prop) : Prop :=
  ((x1 < x0) → (v_J_min_10 x0 x1 I Q  x1)) ∧ ((¬ (x1 < x0)) → (v_J_min_10 x0 x1 I Q  x0))
theorem vc_J_min (x0 : Int32) (x1 : Int32)  (I : wI) (hp : pre_J_min x0 x1 I) : v_J_min x0 x1 I (post_J_min x0 x1 I) := sorry
def v_X4_turnsLessBacks_45 (k : Nat) (I : wI) (Q : Int32 → Prop) (v1 : Int32) : Prop :=
  Q v1
def v_X4_turnsLessBacks_37 (k : Nat) (I : wI) (Q : Int32 → Prop) (K4 : Int32 → Int32 → Prop) (v2 : Int32) (t0 : Int32) (t1 : Int32) : Prop :=
  K4 (t1 + t0) (v2 + (1 : Int32))
def g_X4_turnsLessBacks_4 (k : Nat) (I : wI) (Q : Int32 → Prop) (K4 : Int32 → Int32 → Prop) (v1 : Int32) (v2 : Int32) : Prop :=
  (((I k 3) ≤ v2) → (v_X4_turnsLessBacks_45 k I Q  v1)) ∧ ((¬ ((I k 3) ≤ v2)) → ((((500 : Int32) ≤ v2) → (v_X4_turnsLessBacks_45 k I Q  v1)) ∧ ((¬ ((500 : Int32) ≤ v2)) → (vp_in v2 500 ∧ ((pre_X5_isBack (I (k + 2) (v2).toNatClampNeg) I) ∧ (∀ r1 : Int32, (post_X5_isBack (I (k + 2) (v2).toNatClampNeg) I r1) → (((r1 = 0) → (v_X4_turnsLessBacks_37 k I Q K4 v2 (1 : Int32) v1)) ∧ ((¬ (r1 = 0)) → (v_X4_turnsLessBacks_37 k I Q K4 v2 (-1 : Int32) v1)))))))))
def v_X4_turnsLessBacks_4 (k : Nat) (I : wI) (Q : Int32 → Prop) : Nat → Int32 → Int32 → Prop
  | 0 => fun _ _ => False
  | f + 1 => g_X4_turnsLessBacks_4 k I Q (v_X4_turnsLessBacks_4 k I Q f)
def v_X4_turnsLessBacks (k : Nat) (I : wI) (Q : Int32 → Prop) : Prop :=
  ∃ f : Nat, v_X4_turnsLessBacks_4 k I Q  f (0 : Int32) (0 : Int32)
theorem vc_X4_turnsLessBacks (k : Nat) (hs : wSh k = (0, 4)) (I : wI) (hp : pre_X4_turnsLessBacks k I) : v_X4_turnsLessBacks k I (post_X4_turnsLessBacks k I) := sorry
def v_X5_showWord_55  (Q : wI → Prop)  (I : wI) : Prop :=
  Q I
def g_X5_showWord_9  (Q : wI → Prop) (K9 : Int32 → wI → Prop) (v1 : Int32) (I : wI) : Prop :=
  (((I 24 3) ≤ v1) → (v_X5_showWord_55  Q   I)) ∧ ((¬ ((I 24 3) ≤ v1)) → ((((500 : Int32) ≤ v1) → (v_X5_showWord_55  Q   I)) ∧ ((¬ ((500 : Int32) ≤ v1)) → ((pre_X4_moveAt 24 v1 I) ∧ (∀ r1 : Int32, (post_X4_moveAt 24 v1 I r1) → ((pre_X1_move 5 30 r1 I) ∧ (∀ I2 : wI, (post_X1_move 5 30 r1 I I2) → (K9 (v1 + (1 : Int32)) I2))))))))
def v_X5_showWord_9  (Q : wI → Prop) : Nat → Int32 → wI → Prop
  | 0 => fun _ _ => False
  | f + 1 => g_X5_showWord_9 Q (v_X5_showWord_9 Q f)
def v_X5_showWord  (I : wI) (Q : wI → Prop) : Prop :=
  (pre_X0_bringHome 30 I) ∧ (∀ I1 : wI, (post_X0_bringHome 30 I I1) → (∃ f : Nat, v_X5_showWord_9  Q  f (0 : Int32) I1))
theorem vc_X5_showWord   (I : wI) (hp : pre_X5_showWord  I) : v_X5_showWord  I (post_X5_showWord  I) := sorry
def v_X5_ofShortWord (x1 : Int32) (I : wI) (Q : Int32 → wI → Prop) : Prop :=
  ((¬ x1 = (4 : Int32)) → ((pre_X5_showWord  I) ∧ (∀ I1 : wI, (post_X5_showWord  I I1) → ((x1 = (1 : Int32) → ((pre_X0_reach 30 I1) ∧ (∀ r2 : Int32, (post_X0_reach 30 I1 r2) → (Q r2 I1)))) ∧ (x1 = (2 : Int32) → ((pre_X5_periodByDoing  I1) ∧ (∀ r3 : Int32, ∀ I4 : wI, (post_X5_periodByDoing  I1 r3 I4) → (Q r3 I4)))) ∧ ((¬ x1 = (1 : Int32) ∧ ¬ x1 = (2 : Int32)) → ((pre_X0_periodByRounds 30 I1) ∧ (∀ r5 : Int32, (post_X0_periodByRounds 30 I1 r5) → (Q r5 I1)))))))) ∧ ((x1 = (4 : Int32)) → ((pre_X4_turnsLessBacks 24 I) ∧ (∀ r6 : Int32, (post_X4_turnsLessBacks 24 I r6) → (Q r6 I))))
theorem vc_X5_ofShortWord (x1 : Int32)  (I : wI) (hp : pre_X5_ofShortWord x1 I) : v_X5_ofShortWord x1 I (post_X5_ofShortWord x1 I) := sorry
def g_X0_fingerprint_4 (k : Nat) (I : wI) (Q : Int32 → Prop) (K4 : Int32 → Int32 → Prop) (v1 : Int32) (v2 : Int32) : Prop :=
  (((6 : Int32) ≤ v2) → (Q v1)) ∧ ((¬ ((6 : Int32) ≤ v2)) → (vp_in v2 6 ∧ (vp_in v2 6 ∧ (K4 (((v1 * (30 : Int32)) + ((I (k + 1) (v2).toNatClampNeg) * (5 : Int32))) + (I (k + 2) (v2).toNatClampNeg)) (v2 + (1 : Int32))))))
def v_X0_fingerprint_4 (k : Nat) (I : wI) (Q : Int32 → Prop) : Nat → Int32 → Int32 → Prop
  | 0 => fun _ _ => False
  | f + 1 => g_X0_fingerprint_4 k I Q (v_X0_fingerprint_4 k I Q f)
def v_X0_fingerprint (k : Nat) (I : wI) (Q : Int32 → Prop) : Prop :=
  ∃ f : Nat, v_X0_fingerprint_4 k I Q  f (0 : Int32) (0 : Int32)
theorem vc_X0_fingerprint (k : Nat) (hs : wSh k = (0, 0)) (I : wI) (hp : pre_X0_fingerprint k I) : v_X0_fingerprint k I (post_X0_fingerprint k I) := sorry
def v_X5_meanNotch  (I : wI) (Q : UInt32 → Prop) : Prop :=
  (pre_X0_notchSum 2 I) ∧ (∀ r1 : Int32, (post_X0_notchSum 2 I r1) → (vf_n32 (FP.fdiv (FP.i2f r1) (1086324736 : UInt32)) ∧ (Q (FP.fdiv (FP.i2f r1) (1086324736 : UInt32)))))
theorem vc_X5_meanNotch   (I : wI) (hp : pre_X5_meanNotch  I) : v_X5_meanNotch  I (post_X5_meanNotch  I) := sorry
def v_X5_floatBits_69 (x0 : UInt32) (I : wI) (Q : Int32 → Prop) (v1 : UInt32) (v2 : Int32) : Prop :=
  vf_n32 (FP.fsub v1 FP.fconst1) ∧ (vf_n32 (FP.fmul (FP.fsub v1 FP.fconst1) (1258291200 : UInt32)) ∧ (Q ((v2 <<< ((23 : Int32) &&& 31)) ||| (FP.f2i (FP.fmul (FP.fsub v1 FP.fconst1) (1258291200 : UInt32))))))
def g_X5_floatBits_43 (x0 : UInt32) (I : wI) (Q : Int32 → Prop) (K43 : UInt32 → Int32 → Int32 → Prop) (v1 : UInt32) (v2 : Int32) (v3 : Int32) : Prop :=
  (((2000 : Int32) ≤ v3) → (v_X5_floatBits_69 x0 I Q  v1 v2)) ∧ ((¬ ((2000 : Int32) ≤ v3)) → ((((Op.cmpValue (FP.fcmp v1 FP.fconst2) CmpOp.l) < 0) → (v_X5_floatBits_69 x0 I Q  v1 v2)) ∧ ((¬ ((Op.cmpValue (FP.fcmp v1 FP.fconst2) CmpOp.l) < 0)) → (vf_n32 (FP.fdiv v1 FP.fconst2) ∧ (K43 (FP.fdiv v1 FP.fconst2) (v2 + (1 : Int32)) (v3 + (1 : Int32)))))))
def v_X5_floatBits_43 (x0 : UInt32) (I : wI) (Q : Int32 → Prop) : Nat → UInt32 → Int32 → Int32 → Prop
  | 0 => fun _ _ _ => False
  | f + 1 => g_X5_floatBits_43 x0 I Q (v_X5_floatBits_43 x0 I Q f)
def v_X5_floatBits_41 (x0 : UInt32) (I : wI) (Q : Int32 → Prop) (v1 : UInt32) (v2 : Int32) : Prop :=
  ∃ f : Nat, v_X5_floatBits_43 x0 I Q  f v1 v2 (0 : Int32)
def g_X5_floatBits_15 (x0 : UInt32) (I : wI) (Q : Int32 → Prop) (K15 : UInt32 → Int32 → Int32 → Prop) (v1 : UInt32) (v2 : Int32) (v3 : Int32) : Prop :=
  (((2000 : Int32) ≤ v3) → (v_X5_floatBits_41 x0 I Q  v1 v2)) ∧ ((¬ ((2000 : Int32) ≤ v3)) → (((0 ≤ (Op.cmpValue (FP.fcmp v1 FP.fconst1) CmpOp.g)) → (v_X5_floatBits_41 x0 I Q  v1 v2)) ∧ ((¬ (0 ≤ (Op.cmpValue (FP.fcmp v1 FP.fconst1) CmpOp.g))) → (vf_n32 (FP.fmul v1 FP.fconst2) ∧ (K15 (FP.fmul v1 FP.fconst2) (v2 + (-1 : Int32)) (v3 + (1 : Int32)))))))
def v_X5_floatBits_15 (x0 : UInt32) (I : wI) (Q : Int32 → Prop) : Nat → UInt32 → Int32 → Int32 → Prop
  | 0 => fun _ _ _ => False
  | f + 1 => g_X5_floatBits_15 x0 I Q (v_X5_floatBits_15 x0 I Q f)
def v_X5_floatBits (x0 : UInt32) (I : wI) (Q : Int32 → Prop) : Prop :=
  ((0 < (Op.cmpValue (FP.fcmp x0 FP.fconst0) CmpOp.l)) → (∃ f : Nat, v_X5_floatBits_15 x0 I Q  f x0 (127 : Int32) (0 : Int32))) ∧ ((¬ (0 < (Op.cmpValue (FP.fcmp x0 FP.fconst0) CmpOp.l))) → (Q (0 : Int32)))
theorem vc_X5_floatBits (x0 : UInt32)  (I : wI) (hp : pre_X5_floatBits x0 I) : v_X5_floatBits x0 I (post_X5_floatBits x0 I) := sorry
def v_J_isNaN_11 (x0 : UInt64) (I : wI) (Q : Int32 → Prop) (t0 : Int32) : Prop :=
  (t0 = 0 ∨ t0 = 1) ∧ Q t0
def v_J_isNaN (x0 : UInt64) (I : wI) (Q : Int32 → Prop) : Prop :=
  (((Op.cmpValue (FP.dcmp x0 x0) CmpOp.l) = 0) → (v_J_isNaN_11 x0 I Q  (0 : Int32))) ∧ ((¬ ((Op.cmpValue (FP.dcmp x0 x0) CmpOp.l) = 0)) → (v_J_isNaN_11 x0 I Q  (1 : Int32)))
theorem vc_J_isNaN (x0 : UInt64)  (I : wI) (hp : pre_J_isNaN x0 I) : v_J_isNaN x0 I (post_J_isNaN x0 I) := sorry
def v_J_doubleToLongBits (x0 : UInt64) (I : wI) (Q : Int64 → Prop) : Prop :=
  (pre_J_isNaN x0 I) ∧ (∀ r1 : Int32, (post_J_isNaN x0 I r1) → (((¬ r1 = 0) → (Q (9221120237041090560 : Int64))) ∧ ((r1 = 0) → (Q (x0).toInt64))))
theorem vc_J_doubleToLongBits (x0 : UInt64)  (I : wI) (hp : pre_J_doubleToLongBits x0 I) : v_J_doubleToLongBits x0 I (post_J_doubleToLongBits x0 I) := sorry
def v_J_isNaNf_11 (x0 : UInt32) (I : wI) (Q : Int32 → Prop) (t0 : Int32) : Prop :=
  (t0 = 0 ∨ t0 = 1) ∧ Q t0
def v_J_isNaNf (x0 : UInt32) (I : wI) (Q : Int32 → Prop) : Prop :=
  (((Op.cmpValue (FP.fcmp x0 x0) CmpOp.l) = 0) → (v_J_isNaNf_11 x0 I Q  (0 : Int32))) ∧ ((¬ ((Op.cmpValue (FP.fcmp x0 x0) CmpOp.l) = 0)) → (v_J_isNaNf_11 x0 I Q  (1 : Int32)))
theorem vc_J_isNaNf (x0 : UInt32)  (I : wI) (hp : pre_J_isNaNf x0 I) : v_J_isNaNf x0 I (post_J_isNaNf x0 I) := sorry
def v_J_floatToIntBits (x0 : UInt32) (I : wI) (Q : Int32 → Prop) : Prop :=
  (pre_J_isNaNf x0 I) ∧ (∀ r1 : Int32, (post_J_isNaNf x0 I r1) → (((¬ r1 = 0) → (Q (2143289344 : Int32))) ∧ ((r1 = 0) → (Q (x0).toInt32))))
theorem vc_J_floatToIntBits (x0 : UInt32)  (I : wI) (hp : pre_J_floatToIntBits x0 I) : v_J_floatToIntBits x0 I (post_J_floatToIntBits x0 I) := sorry
