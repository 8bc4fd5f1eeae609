def v_L_low (x0 : Int32) (x1 : Int32) (I : wI) (Q : Int32 → Prop) : Prop :=
  (¬ x1 = 0) ∧ (Q ((x0 &&& (2147483647 : Int32)) - (x0 &&& (2147483647 : Int32)) / x1 * x1))
def g_L_step_7 (x0 : Int32) (x1 : Int32) (x2 : Int32) (I : wI) (Q : Int32 → Prop) (K7 : Int32 → Prop) (v3 : Int32) : Prop :=
  ((¬ ((x0 >>> (v3 &&& 31)) &&& (1 : Int32)) = 0) → (Q v3)) ∧ ((((x0 >>> (v3 &&& 31)) &&& (1 : Int32)) = 0) → (K7 ((v3 + x2) - (v3 + x2) / (6 : Int32) * (6 : Int32))))
def v_L_step_7 (x0 : Int32) (x1 : Int32) (x2 : Int32) (I : wI) (Q : Int32 → Prop) : Nat → Int32 → Prop
  | 0 => fun _ => False
  | f + 1 => g_L_step_7 x0 x1 x2 I Q (v_L_step_7 x0 x1 x2 I Q f)
def v_L_step (x0 : Int32) (x1 : Int32) (x2 : Int32) (I : wI) (Q : Int32 → Prop) : Prop :=
  ∃ f : Nat, v_L_step_7 x0 x1 x2 I Q  f ((x1 + x2) - (x1 + x2) / (6 : Int32) * (6 : Int32))
def v_L_doTurn_92 (k0 : Nat) (x2 : Int32) (Q : wI → Prop) (K18 : Int32 → Int32 → Int32 → wI → Prop) (v3 : Int32) (v4 : Int32) (v5 : Int32) (I : wI) : Prop :=
  K18 v3 v4 (v5 + (1 : Int32)) I
def v_L_doTurn_88 (k0 : Nat) (x2 : Int32) (Q : wI → Prop) (K18 : Int32 → Int32 → Int32 → wI → Prop) (v3 : Int32) (v4 : Int32) (v5 : Int32) (t0 : Int32) (t1 : Int32) (t2 : Int32) (I : wI) : Prop :=
  vp_in t2 12 ∧ ∀ I1 : wI, I1 = wU I k0 (t2).toNatClampNeg ((t1 + t0) - (t1 + t0) / (5 : Int32) * (5 : Int32)) → (v_L_doTurn_92 k0 x2 Q K18 v3 v4 v5 I1)
def v_L_doTurn_57 (k0 : Nat) (x2 : Int32) (Q : wI → Prop) (K18 : Int32 → Int32 → Int32 → wI → Prop) (v3 : Int32) (v4 : Int32) (v5 : Int32) (t0 : Int32) (t1 : Int32) (t2 : Int32) (t3 : Int32) (I : wI) : Prop :=
  (pre_L_step t2 t1 t0 I) ∧ (∀ r1 : Int32, (post_L_step t2 t1 t0 I r1) → (vp_in t3 12 ∧ ∀ I2 : wI, I2 = wU I k0 (t3).toNatClampNeg r1 → (vp_in ((6 : Int32) + v5) 12 ∧ ((((5 : Int32) ≤ x2) → (v_L_doTurn_88 k0 x2 Q K18 v3 v4 v5 ((5 : Int32) - v4) (I2 k0 (((6 : Int32) + v5)).toNatClampNeg) ((6 : Int32) + v5) I2)) ∧ ((¬ ((5 : Int32) ≤ x2)) → (v_L_doTurn_88 k0 x2 Q K18 v3 v4 v5 v4 (I2 k0 (((6 : Int32) + v5)).toNatClampNeg) ((6 : Int32) + v5) I2))))))
def g_L_doTurn_18 (k0 : Nat) (x2 : Int32) (Q : wI → Prop) (K18 : Int32 → Int32 → Int32 → wI → Prop) (v3 : Int32) (v4 : Int32) (v5 : Int32) (I : wI) : Prop :=
  (((6 : Int32) ≤ v5) → (Q I)) ∧ ((¬ ((6 : Int32) ≤ v5)) → (vp_in v5 12 ∧ (((¬ ((v3 >>> ((I k0 (v5).toNatClampNeg) &&& 31)) &&& (1 : Int32)) = 0) → (vp_in v5 12 ∧ ((((5 : Int32) ≤ x2) → (v_L_doTurn_57 k0 x2 Q K18 v3 v4 v5 (5 : Int32) (I k0 (v5).toNatClampNeg) v3 v5 I)) ∧ ((¬ ((5 : Int32) ≤ x2)) → (v_L_doTurn_57 k0 x2 Q K18 v3 v4 v5 (1 : Int32) (I k0 (v5).toNatClampNeg) v3 v5 I))))) ∧ ((((v3 >>> ((I k0 (v5).toNatClampNeg) &&& 31)) &&& (1 : Int32)) = 0) → (v_L_doTurn_92 k0 x2 Q K18 v3 v4 v5 I)))))
def v_L_doTurn_18 (k0 : Nat) (x2 : Int32) (Q : wI → Prop) : Nat → Int32 → Int32 → Int32 → wI → Prop
  | 0 => fun _ _ _ _ => False
  | f + 1 => g_L_doTurn_18 k0 x2 Q (v_L_doTurn_18 k0 x2 Q f)
def v_L_doTurn (k0 : Nat) (x2 : Int32) (I : wI) (Q : wI → Prop) : Prop :=
  vp_in (x2 - x2 / (5 : Int32) * (5 : Int32)) 15 ∧ (vp_in ((5 : Int32) + (x2 - x2 / (5 : Int32) * (5 : Int32))) 15 ∧ (∃ f : Nat, v_L_doTurn_18 k0 x2 Q  f (I 112 ((x2 - x2 / (5 : Int32) * (5 : Int32))).toNatClampNeg) (I 112 (((5 : Int32) + (x2 - x2 / (5 : Int32) * (5 : Int32)))).toNatClampNeg) (0 : Int32) I))
def g_L_first_2 (k0 : Nat) (Q : wI → Prop) (K2 : Int32 → wI → Prop) (v1 : Int32) (I : wI) : Prop :=
  (((6 : Int32) ≤ v1) → (Q I)) ∧ ((¬ ((6 : Int32) ≤ v1)) → (vp_in v1 12 ∧ ∀ I1 : wI, I1 = wU I k0 (v1).toNatClampNeg v1 → (vp_in ((6 : Int32) + v1) 12 ∧ ∀ I2 : wI, I2 = wU I1 k0 (((6 : Int32) + v1)).toNatClampNeg (0 : Int32) → (K2 (v1 + (1 : Int32)) I2))))
def v_L_first_2 (k0 : Nat) (Q : wI → Prop) : Nat → Int32 → wI → Prop
  | 0 => fun _ _ => False
  | f + 1 => g_L_first_2 k0 Q (v_L_first_2 k0 Q f)
def v_L_first (k0 : Nat) (I : wI) (Q : wI → Prop) : Prop :=
  ∃ f : Nat, v_L_first_2 k0 Q  f (0 : Int32) I
def v_L_moved_36 (k0 : Nat) (I : wI) (Q : Int32 → Prop) (K4 : Int32 → Int32 → Prop) (v2 : Int32) (t0 : Int32) (t1 : Int32) : Prop :=
  K4 (t1 ||| t0) (v2 + (1 : Int32))
def v_L_moved_27 (k0 : Nat) (I : wI) (Q : Int32 → Prop) (K4 : Int32 → Int32 → Prop) (v2 : Int32) (t0 : Int32) : Prop :=
  vp_in v2 12 ∧ (v_L_moved_36 k0 I Q K4 v2 ((1 : Int32) <<< ((I k0 (v2).toNatClampNeg) &&& 31)) t0)
def g_L_moved_4 (k0 : Nat) (I : wI) (Q : Int32 → Prop) (K4 : Int32 → Int32 → Prop) (v1 : Int32) (v2 : Int32) : Prop :=
  (((6 : Int32) ≤ v2) → (Q v1)) ∧ ((¬ ((6 : Int32) ≤ v2)) → (vp_in v2 12 ∧ (((¬ (I k0 (v2).toNatClampNeg) = v2) → (v_L_moved_27 k0 I Q K4 v2 v1)) ∧ (((I k0 (v2).toNatClampNeg) = v2) → (vp_in ((6 : Int32) + v2) 12 ∧ ((((I k0 (((6 : Int32) + v2)).toNatClampNeg) = 0) → (v_L_moved_36 k0 I Q K4 v2 (0 : Int32) v1)) ∧ ((¬ ((I k0 (((6 : Int32) + v2)).toNatClampNeg) = 0)) → (v_L_moved_27 k0 I Q K4 v2 v1))))))))
def v_L_moved_4 (k0 : Nat) (I : wI) (Q : Int32 → Prop) : Nat → Int32 → Int32 → Prop
  | 0 => fun _ _ => False
  | f + 1 => g_L_moved_4 k0 I Q (v_L_moved_4 k0 I Q f)
def v_L_moved (k0 : Nat) (I : wI) (Q : Int32 → Prop) : Prop :=
  ∃ f : Nat, v_L_moved_4 k0 I Q  f (0 : Int32) (0 : Int32)
def v_L_right_53 (k0 : Nat) (I : wI) (Q : Int32 → Prop) (K5 : Int32 → Int32 → Prop) (v4 : Int32) (t0 : Int32) (t1 : Int32) : Prop :=
  K5 (t1 + t0) (v4 + (1 : Int32))
def v_L_right_52 (k0 : Nat) (I : wI) (Q : Int32 → Prop) (K5 : Int32 → Int32 → Prop) (v4 : Int32) (t0 : Int32) : Prop :=
  v_L_right_53 k0 I Q K5 v4 (0 : Int32) t0
def g_L_right_5 (k0 : Nat) (I : wI) (Q : Int32 → Prop) (K5 : Int32 → Int32 → Prop) (v3 : Int32) (v4 : Int32) : Prop :=
  (((6 : Int32) ≤ v4) → (Q v3)) ∧ ((¬ ((6 : Int32) ≤ v4)) → (vp_in (2 : Int32) 4 ∧ (((¬ (I 113 ((2 : Int32)).toNatClampNeg) = (1 : Int32)) → (v_L_right_52 k0 I Q K5 v4 v3)) ∧ (((I 113 ((2 : Int32)).toNatClampNeg) = (1 : Int32)) → (vp_in v4 12 ∧ (vp_in v4 12 ∧ (((¬ (I k0 (v4).toNatClampNeg) = (I 114 (v4).toNatClampNeg)) → (v_L_right_52 k0 I Q K5 v4 v3)) ∧ (((I k0 (v4).toNatClampNeg) = (I 114 (v4).toNatClampNeg)) → (vp_in ((6 : Int32) + v4) 12 ∧ (vp_in ((6 : Int32) + v4) 12 ∧ (((¬ (I k0 (((6 : Int32) + v4)).toNatClampNeg) = (I 114 (((6 : Int32) + v4)).toNatClampNeg)) → (v_L_right_52 k0 I Q K5 v4 v3)) ∧ (((I k0 (((6 : Int32) + v4)).toNatClampNeg) = (I 114 (((6 : Int32) + v4)).toNatClampNeg)) → (v_L_right_53 k0 I Q K5 v4 (1 : Int32) v3)))))))))))))
def v_L_right_5 (k0 : Nat) (I : wI) (Q : Int32 → Prop) : Nat → Int32 → Int32 → Prop
  | 0 => fun _ _ => False
  | f + 1 => g_L_right_5 k0 I Q (v_L_right_5 k0 I Q f)
def v_L_right (k0 : Nat) (I : wI) (Q : Int32 → Prop) : Prop :=
  ∃ f : Nat, v_L_right_5 k0 I Q  f (0 : Int32) (0 : Int32)
def g_L_ones_4 (x0 : Int32) (I : wI) (Q : Int32 → Prop) (K4 : Int32 → Int32 → Prop) (v1 : Int32) (v2 : Int32) : Prop :=
  ((v2 ≤ 0) → (Q v1)) ∧ ((¬ (v2 ≤ 0)) → (K4 (v1 + (1 : Int32)) (v2 &&& (v2 - (1 : Int32)))))
def v_L_ones_4 (x0 : Int32) (I : wI) (Q : Int32 → Prop) : Nat → Int32 → Int32 → Prop
  | 0 => fun _ _ => False
  | f + 1 => g_L_ones_4 x0 I Q (v_L_ones_4 x0 I Q f)
def v_L_ones (x0 : Int32) (I : wI) (Q : Int32 → Prop) : Prop :=
  ∃ f : Nat, v_L_ones_4 x0 I Q  f (0 : Int32) x0
def g_L_copy_2 (k0 : Nat) (k1 : Nat) (Q : wI → Prop) (K2 : Int32 → wI → Prop) (v2 : Int32) (I : wI) : Prop :=
  (((12 : Int32) ≤ v2) → (Q I)) ∧ ((¬ ((12 : Int32) ≤ v2)) → (vp_in v2 12 ∧ (vp_in v2 12 ∧ ∀ I1 : wI, I1 = wU I k1 (v2).toNatClampNeg (I k0 (v2).toNatClampNeg) → (K2 (v2 + (1 : Int32)) I1))))
def v_L_copy_2 (k0 : Nat) (k1 : Nat) (Q : wI → Prop) : Nat → Int32 → wI → Prop
  | 0 => fun _ _ => False
  | f + 1 => g_L_copy_2 k0 k1 Q (v_L_copy_2 k0 k1 Q f)
def v_L_copy (k0 : Nat) (k1 : Nat) (I : wI) (Q : wI → Prop) : Prop :=
  ∃ f : Nat, v_L_copy_2 k0 k1 Q  f (0 : Int32) I
def v_L_period_71 (x1 : Int32) (x2 : Int32) (Q : Int32 → wI → Prop) (K12 : Nat → Int32 → wI → Prop) (K29 : Nat → Int32 → Int32 → wI → Prop) (n : Nat) (v4 : Int32) (v5 : Int32) (t0 : Int32) (t1 : Int32) (I : wI) : Prop :=
  (n ≤ 1) ∧ ((¬ t0 = 0) ∧ ((pre_L_doTurn 116 ((t1 / t0) - (t1 / t0) / (10 : Int32) * (10 : Int32)) I) ∧ (∀ I1 : wI, (post_L_doTurn 116 ((t1 / t0) - (t1 / t0) / (10 : Int32) * (10 : Int32)) I I1) → (K29 n v4 (v5 + (-1 : Int32)) I1))))
def g_L_period_29 (x1 : Int32) (x2 : Int32) (Q : Int32 → wI → Prop) (K12 : Nat → Int32 → wI → Prop) (K29 : Nat → Int32 → Int32 → wI → Prop) (n : Nat) (v4 : Int32) (v5 : Int32) (I : wI) : Prop :=
  (n ≤ 1) ∧ (((v5 < 0) → (K12 n (v4 + (1 : Int32)) I)) ∧ ((¬ (v5 < 0)) → (((¬ v5 = 0) → (((¬ v5 = (1 : Int32)) → (((¬ v5 = (2 : Int32)) → (v_L_period_71 x1 x2 Q K12 K29 n v4 v5 (1000 : Int32) x1 I)) ∧ ((v5 = (2 : Int32)) → (v_L_period_71 x1 x2 Q K12 K29 n v4 v5 (100 : Int32) x1 I)))) ∧ ((v5 = (1 : Int32)) → (v_L_period_71 x1 x2 Q K12 K29 n v4 v5 (10 : Int32) x1 I)))) ∧ ((v5 = 0) → (v_L_period_71 x1 x2 Q K12 K29 n v4 v5 (1 : Int32) x1 I)))))
def v_L_period_29 (x1 : Int32) (x2 : Int32) (Q : Int32 → wI → Prop) (K12 : Nat → Int32 → wI → Prop) : Nat → Nat → Int32 → Int32 → wI → Prop
  | 0 => fun _ _ _ _ => False
  | f + 1 => g_L_period_29 x1 x2 Q K12 (v_L_period_29 x1 x2 Q K12 f)
def v_L_period_24 (x1 : Int32) (x2 : Int32) (Q : Int32 → wI → Prop) (K12 : Nat → Int32 → wI → Prop) (n : Nat) (v4 : Int32) (I : wI) : Prop :=
  (n ≤ 1) ∧ (∃ f : Nat, v_L_period_29 x1 x2 Q K12 f n v4 (x2 - (1 : Int32)) I)
def g_L_period_12 (x1 : Int32) (x2 : Int32) (Q : Int32 → wI → Prop) (K12 : Nat → Int32 → wI → Prop) (n : Nat) (v4 : Int32) (I : wI) : Prop :=
  (n ≤ 1) ∧ (((v4 = 0) → (v_L_period_24 x1 x2 Q K12 n v4 I)) ∧ ((¬ (v4 = 0)) → ((pre_L_moved 116 I) ∧ (∀ r1 : Int32, (post_L_moved 116 I r1) → (((r1 = 0) → (Q v4 I)) ∧ ((¬ (r1 = 0)) → (v_L_period_24 x1 x2 Q K12 n v4 I)))))))
def v_L_period_12 (x1 : Int32) (x2 : Int32) (Q : Int32 → wI → Prop) : Nat → Nat → Int32 → wI → Prop
  | 0 => fun _ _ _ => False
  | f + 1 => g_L_period_12 x1 x2 Q (v_L_period_12 x1 x2 Q f)
def v_L_period (x1 : Int32) (x2 : Int32) (I : wI) (Q : Int32 → wI → Prop) : Prop :=
  1 ≤ 1 ∧ ∀ I1 : wI, I1 = zI I 116 → ((pre_L_first 116 I1) ∧ (∀ I2 : wI, (post_L_first 116 I1 I2) → (∃ f : Nat, v_L_period_12 x1 x2 Q  f 1 (0 : Int32) I2)))
def v_L_areKeys_406  (Q : Int32 → wI → Prop) (n : Nat) (t0 : Int32) (I : wI) : Prop :=
  (n ≤ 31) ∧ ((t0 = 0 ∨ t0 = 1) ∧ Q t0 I)
def v_L_areKeys_405  (Q : Int32 → wI → Prop) (n : Nat) (I : wI) : Prop :=
  (n ≤ 31) ∧ (v_L_areKeys_406  Q  n (0 : Int32) I)
def v_L_areKeys_370  (Q : Int32 → wI → Prop) (K18 : Nat → Int32 → Int32 → Int32 → Int32 → wI → Prop) (K162 : Nat → Int32 → Int32 → Int32 → Int32 → Int32 → wI → Prop) (n : Nat) (v3 : Int32) (v4 : Int32) (v5 : Int32) (v7 : Int32) (v10 : Int32) (I : wI) : Prop :=
  (n ≤ 31) ∧ (K162 n v3 v4 v5 v7 (v10 + (1 : Int32)) I)
def v_L_areKeys_333  (Q : Int32 → wI → Prop) (n : Nat) (I : wI) : Prop :=
  (n ≤ 31) ∧ (Q (0 : Int32) I)
def v_L_areKeys_330  (Q : Int32 → wI → Prop) (K18 : Nat → Int32 → Int32 → Int32 → Int32 → wI → Prop) (K162 : Nat → Int32 → Int32 → Int32 → Int32 → Int32 → wI → Prop) (n : Nat) (v3 : Int32) (v4 : Int32) (v5 : Int32) (v7 : Int32) (v10 : Int32) (v13 : Int32) (t0 : Int32) (t1 : Int32) (I : wI) : Prop :=
  (n ≤ 31) ∧ (((t1 = t0) → (((v10 ≤ v7) → (v_L_areKeys_370  Q K18 K162 n v3 v4 v5 v7 v10 I)) ∧ ((¬ (v10 ≤ v7)) → ((pre_L_ones v13 I) ∧ (∀ r1 : Int32, (post_L_ones v13 I r1) → (((r1 < v4) → ((pre_L_ones v13 I) ∧ (∀ r2 : Int32, (post_L_ones v13 I r2) → (v_L_areKeys_370  Q K18 K162 n (((5 : Int32) * v7) + v10) r2 v5 v7 v10 I)))) ∧ ((¬ (r1 < v4)) → (v_L_areKeys_370  Q K18 K162 n v3 v4 v5 v7 v10 I)))))))) ∧ ((¬ (t1 = t0)) → (v_L_areKeys_333  Q  n I)))
def g_L_areKeys_162  (Q : Int32 → wI → Prop) (K18 : Nat → Int32 → Int32 → Int32 → Int32 → wI → Prop) (K162 : Nat → Int32 → Int32 → Int32 → Int32 → Int32 → wI → Prop) (n : Nat) (v3 : Int32) (v4 : Int32) (v5 : Int32) (v7 : Int32) (v10 : Int32) (I : wI) : Prop :=
  (n ≤ 31) ∧ ((((5 : Int32) ≤ v10) → (K18 n v3 v4 v5 (v7 + (1 : Int32)) I)) ∧ ((¬ ((5 : Int32) ≤ v10)) → (((n + 1) ≤ 31) ∧ ((pre_L_period ((((((1000 : Int32) * v7) + ((100 : Int32) * v10)) + ((10 : Int32) * ((5 : Int32) + v7))) + (5 : Int32)) + v10) (4 : Int32) I) ∧ (∀ r1 : Int32, ∀ I2 : wI, (post_L_period ((((((1000 : Int32) * v7) + ((100 : Int32) * v10)) + ((10 : Int32) * ((5 : Int32) + v7))) + (5 : Int32)) + v10) (4 : Int32) I r1 I2) → ((pre_L_first 115 I2) ∧ (∀ I3 : wI, (post_L_first 115 I2 I3) → ((pre_L_doTurn 115 v7 I3) ∧ (∀ I4 : wI, (post_L_doTurn 115 v7 I3 I4) → ((pre_L_doTurn 115 v10 I4) ∧ (∀ I5 : wI, (post_L_doTurn 115 v10 I4 I5) → ((pre_L_doTurn 115 ((5 : Int32) + v7) I5) ∧ (∀ I6 : wI, (post_L_doTurn 115 ((5 : Int32) + v7) I5 I6) → ((pre_L_doTurn 115 ((5 : Int32) + v10) I6) ∧ (∀ I7 : wI, (post_L_doTurn 115 ((5 : Int32) + v10) I6 I7) → ((pre_L_moved 115 I7) ∧ (∀ r8 : Int32, (post_L_moved 115 I7 r8) → ((pre_X5_pair v7 v10 (0 : Int32) I7) ∧ (∀ r9 : Int32, ∀ I10 : wI, (post_X5_pair v7 v10 (0 : Int32) I7 r9 I10) → (((¬ r9 = r8) → (v_L_areKeys_333  Q  (n + 1) I10)) ∧ ((r9 = r8) → ((pre_X5_pair v7 v10 (1 : Int32) I10) ∧ (∀ r11 : Int32, ∀ I12 : wI, (post_X5_pair v7 v10 (1 : Int32) I10 r11 I12) → ((pre_L_ones r8 I12) ∧ (∀ r13 : Int32, (post_L_ones r8 I12 r13) → (((¬ r11 = r13) → (v_L_areKeys_333  Q  (n + 1) I12)) ∧ ((r11 = r13) → ((pre_X5_pair v7 v10 (2 : Int32) I12) ∧ (∀ r14 : Int32, ∀ I15 : wI, (post_X5_pair v7 v10 (2 : Int32) I12 r14 I15) → (((¬ r14 = r1) → (v_L_areKeys_333  Q  (n + 1) I15)) ∧ ((r14 = r1) → ((pre_X5_pair v7 v10 (3 : Int32) I15) ∧ (∀ r16 : Int32, ∀ I17 : wI, (post_X5_pair v7 v10 (3 : Int32) I15 r16 I17) → (((¬ r16 = r1) → (v_L_areKeys_333  Q  (n + 1) I17)) ∧ ((r16 = r1) → ((pre_X5_pair v7 v10 (4 : Int32) I17) ∧ (∀ r18 : Int32, ∀ I19 : wI, (post_X5_pair v7 v10 (4 : Int32) I17 r18 I19) → (((¬ r8 = 0) → (v_L_areKeys_330  Q K18 K162 (n + 1) v3 v4 v5 v7 v10 r8 (0 : Int32) r18 I19)) ∧ ((r8 = 0) → (v_L_areKeys_330  Q K18 K162 (n + 1) v3 v4 v5 v7 v10 r8 (1 : Int32) r18 I19))))))))))))))))))))))))))))))))))))))))
def v_L_areKeys_162  (Q : Int32 → wI → Prop) (K18 : Nat → Int32 → Int32 → Int32 → Int32 → wI → Prop) : Nat → Nat → Int32 → Int32 → Int32 → Int32 → Int32 → wI → Prop
  | 0 => fun _ _ _ _ _ _ _ => False
  | f + 1 => g_L_areKeys_162 Q K18 (v_L_areKeys_162 Q K18 f)
def v_L_areKeys_157  (Q : Int32 → wI → Prop) (n : Nat) (I : wI) : Prop :=
  (n ≤ 31) ∧ (Q (0 : Int32) I)
def v_L_areKeys_137  (Q : Int32 → wI → Prop) (K18 : Nat → Int32 → Int32 → Int32 → Int32 → wI → Prop) (n : Nat) (v3 : Int32) (v4 : Int32) (v5 : Int32) (v7 : Int32) (t0 : Int32) (t1 : Int32) (I : wI) : Prop :=
  (n ≤ 31) ∧ (((¬ t1 = t0) → (v_L_areKeys_157  Q  n I)) ∧ ((t1 = t0) → ((pre_X5_key v7 (5 : Int32) I) ∧ (∀ r1 : Int32, ∀ I2 : wI, (post_X5_key v7 (5 : Int32) I r1 I2) → (vp_in ((10 : Int32) + v7) 15 ∧ (((r1 = (I2 112 (((10 : Int32) + v7)).toNatClampNeg)) → (∃ f : Nat, v_L_areKeys_162  Q K18 f n v3 v4 v5 v7 (0 : Int32) I2)) ∧ ((¬ (r1 = (I2 112 (((10 : Int32) + v7)).toNatClampNeg))) → (v_L_areKeys_157  Q  n I2))))))))
def v_L_areKeys_63  (Q : Int32 → wI → Prop) (K18 : Nat → Int32 → Int32 → Int32 → Int32 → wI → Prop) (n : Nat) (v3 : Int32) (v4 : Int32) (v7 : Int32) (v8 : Int32) (v9 : Int32) (t0 : Int32) (t1 : Int32) (I : wI) : Prop :=
  (n ≤ 31) ∧ ((pre_X5_key v7 (0 : Int32) I) ∧ (∀ r1 : Int32, ∀ I2 : wI, (post_X5_key v7 (0 : Int32) I r1 I2) → (vp_in v7 15 ∧ (((¬ r1 = (I2 112 (v7).toNatClampNeg)) → (v_L_areKeys_157  Q  n I2)) ∧ ((r1 = (I2 112 (v7).toNatClampNeg)) → ((pre_X5_key v7 (1 : Int32) I2) ∧ (∀ r3 : Int32, ∀ I4 : wI, (post_X5_key v7 (1 : Int32) I2 r3 I4) → (vp_in ((5 : Int32) + v7) 15 ∧ (((¬ r3 = (I4 112 (((5 : Int32) + v7)).toNatClampNeg)) → (v_L_areKeys_157  Q  n I4)) ∧ ((r3 = (I4 112 (((5 : Int32) + v7)).toNatClampNeg)) → ((pre_X5_key v7 (2 : Int32) I4) ∧ (∀ r5 : Int32, ∀ I6 : wI, (post_X5_key v7 (2 : Int32) I4 r5 I6) → (((¬ r5 = v8) → (v_L_areKeys_157  Q  n I6)) ∧ ((r5 = v8) → ((pre_X5_key v7 (3 : Int32) I6) ∧ (∀ r7 : Int32, ∀ I8 : wI, (post_X5_key v7 (3 : Int32) I6 r7 I8) → (((¬ r7 = v8) → (v_L_areKeys_157  Q  n I8)) ∧ ((r7 = v8) → ((pre_X5_key v7 (4 : Int32) I8) ∧ (∀ r9 : Int32, ∀ I10 : wI, (post_X5_key v7 (4 : Int32) I8 r9 I10) → (((v9 = 0) → (v_L_areKeys_137  Q K18 n v3 v4 (t1 + t0) v7 (0 : Int32) r9 I10)) ∧ ((¬ (v9 = 0)) → (v_L_areKeys_137  Q K18 n v3 v4 (t1 + t0) v7 (1 : Int32) r9 I10)))))))))))))))))))))))
def v_L_areKeys_49  (Q : Int32 → wI → Prop) (K18 : Nat → Int32 → Int32 → Int32 → Int32 → wI → Prop) (n : Nat) (v3 : Int32) (v4 : Int32) (v5 : Int32) (v7 : Int32) (v8 : Int32) (t0 : Int32) (I : wI) : Prop :=
  (n ≤ 31) ∧ (((t0 = 0) → (v_L_areKeys_63  Q K18 n v3 v4 v7 v8 t0 (0 : Int32) v5 I)) ∧ ((¬ (t0 = 0)) → (v_L_areKeys_63  Q K18 n v3 v4 v7 v8 t0 (1 : Int32) v5 I)))
def g_L_areKeys_18  (Q : Int32 → wI → Prop) (K18 : Nat → Int32 → Int32 → Int32 → Int32 → wI → Prop) (n : Nat) (v3 : Int32) (v4 : Int32) (v5 : Int32) (v7 : Int32) (I : wI) : Prop :=
  (n ≤ 31) ∧ ((((5 : Int32) ≤ v7) → ((pre_X5_closest  I) ∧ (∀ r1 : Int32, ∀ I2 : wI, (post_X5_closest  I r1 I2) → (((¬ r1 = v3) → (v_L_areKeys_405  Q  n I2)) ∧ ((r1 = v3) → ((pre_X5_count (7 : Int32) I2) ∧ (∀ r3 : Int32, (post_X5_count (7 : Int32) I2 r3) → (((¬ r3 = v5) → (v_L_areKeys_405  Q  n I2)) ∧ ((r3 = v5) → (v_L_areKeys_406  Q  n (1 : Int32) I2)))))))))) ∧ ((¬ ((5 : Int32) ≤ v7)) → (((n + 1) ≤ 31) ∧ ((pre_L_period v7 (1 : Int32) I) ∧ (∀ r4 : Int32, ∀ I5 : wI, (post_L_period v7 (1 : Int32) I r4 I5) → (vp_in v7 15 ∧ (vp_in (3 : Int32) 4 ∧ (((((I5 112 (v7).toNatClampNeg) &&& (I5 113 ((3 : Int32)).toNatClampNeg)) = 0) → (v_L_areKeys_49  Q K18 (n + 1) v3 v4 v5 v7 r4 (0 : Int32) I5)) ∧ ((¬ (((I5 112 (v7).toNatClampNeg) &&& (I5 113 ((3 : Int32)).toNatClampNeg)) = 0)) → (v_L_areKeys_49  Q K18 (n + 1) v3 v4 v5 v7 r4 (1 : Int32) I5))))))))))
def v_L_areKeys_18  (Q : Int32 → wI → Prop) : Nat → Nat → Int32 → Int32 → Int32 → Int32 → wI → Prop
  | 0 => fun _ _ _ _ _ _ => False
  | f + 1 => g_L_areKeys_18 Q (v_L_areKeys_18 Q f)
def v_L_areKeys  (I : wI) (Q : Int32 → wI → Prop) : Prop :=
  1 ≤ 31 ∧ ∀ I1 : wI, I1 = zI I 115 → (∃ f : Nat, v_L_areKeys_18  Q  f 1 (0 : Int32) (7 : Int32) (0 : Int32) (0 : Int32) I1)
def v_L_isSo_396  (I : wI) (Q : Int32 → Prop) (t0 : Int32) : Prop :=
  (t0 = 0 ∨ t0 = 1) ∧ Q t0
def v_L_isSo_395  (I : wI) (Q : Int32 → Prop)  : Prop :=
  v_L_isSo_396  I Q  (0 : Int32)
def v_L_isSo_355  (I : wI) (Q : Int32 → Prop) (v5 : Int32) (v8 : Int32) (t0 : Int32) : Prop :=
  ((t0 = 0) → (v_L_isSo_395  I Q  )) ∧ ((¬ (t0 = 0)) → ((pre_X5_openShare  I) ∧ (∀ r1 : UInt64, (post_X5_openShare  I r1) → (vf_n64 (FP.ddiv (FP.i2d v8) (4618441417868443648 : UInt64)) ∧ (((¬ (Op.cmpValue (FP.dcmp r1 (FP.ddiv (FP.i2d v8) (4618441417868443648 : UInt64))) CmpOp.l) = 0) → (v_L_isSo_395  I Q  )) ∧ (((Op.cmpValue (FP.dcmp r1 (FP.ddiv (FP.i2d v8) (4618441417868443648 : UInt64))) CmpOp.l) = 0) → ((pre_X5_meanNotch  I) ∧ (∀ r2 : UInt32, (post_X5_meanNotch  I r2) → (vf_n32 (FP.fdiv (FP.i2f v5) (1086324736 : UInt32)) ∧ (((¬ (Op.cmpValue (FP.fcmp r2 (FP.fdiv (FP.i2f v5) (1086324736 : UInt32))) CmpOp.l) = 0) → (v_L_isSo_395  I Q  )) ∧ (((Op.cmpValue (FP.fcmp r2 (FP.fdiv (FP.i2f v5) (1086324736 : UInt32))) CmpOp.l) = 0) → (v_L_isSo_396  I Q  (1 : Int32)))))))))))))
def v_L_isSo_354  (I : wI) (Q : Int32 → Prop) (v5 : Int32) (v8 : Int32) : Prop :=
  v_L_isSo_355  I Q  v5 v8 (0 : Int32)
def v_L_isSo_314  (I : wI) (Q : Int32 → Prop) (v5 : Int32) (v7 : Int32) (v8 : Int32) (t0 : Int32) (t1 : Int32) : Prop :=
  ((¬ t1 = t0) → (v_L_isSo_354  I Q  v5 v8)) ∧ ((t1 = t0) → ((pre_X5_count (5 : Int32) I) ∧ (∀ r1 : Int32, (post_X5_count (5 : Int32) I r1) → (((¬ r1 = v8) → (v_L_isSo_354  I Q  v5 v8)) ∧ ((r1 = v8) → ((pre_X5_count (6 : Int32) I) ∧ (∀ r2 : Int32, (post_X5_count (6 : Int32) I r2) → (((¬ r2 = v7) → (v_L_isSo_354  I Q  v5 v8)) ∧ ((r2 = v7) → ((pre_X5_count (8 : Int32) I) ∧ (∀ r3 : Int32, (post_X5_count (8 : Int32) I r3) → (vp_in (1 : Int32) 4 ∧ (((¬ r3 = (I 113 ((1 : Int32)).toNatClampNeg)) → (v_L_isSo_354  I Q  v5 v8)) ∧ ((r3 = (I 113 ((1 : Int32)).toNatClampNeg)) → (v_L_isSo_355  I Q  v5 v8 (1 : Int32))))))))))))))))
def v_L_isSo_222  (I : wI) (Q : Int32 → Prop)  : Prop :=
  Q (0 : Int32)
def g_L_isSo_163  (I : wI) (Q : Int32 → Prop) (K12 : Int32 → Int32 → Int32 → Int32 → Prop) (K163 : Int32 → Int32 → Int32 → Int32 → Int32 → Int32 → Prop) (v5 : Int32) (v6 : Int32) (v7 : Int32) (v8 : Int32) (v11 : Int32) (v12 : Int32) : Prop :=
  (((5 : Int32) ≤ v12) → ((pre_X5_at v8 (2 : Int32) I) ∧ (∀ r1 : Int32, (post_X5_at v8 (2 : Int32) I r1) → (vp_in (3 : Int32) 4 ∧ (((¬ r1 = (((I 113 ((3 : Int32)).toNatClampNeg) >>> (v8 &&& 31)) &&& (1 : Int32))) → (v_L_isSo_222  I Q  )) ∧ ((r1 = (((I 113 ((3 : Int32)).toNatClampNeg) >>> (v8 &&& 31)) &&& (1 : Int32))) → ((pre_X5_at v8 (4 : Int32) I) ∧ (∀ r2 : Int32, (post_X5_at v8 (4 : Int32) I r2) → (((r2 = v11) → (vp_in (3 : Int32) 4 ∧ (K12 v5 v6 (v7 + (((I 113 ((3 : Int32)).toNatClampNeg) >>> (v8 &&& 31)) &&& (1 : Int32))) (v8 + (1 : Int32))))) ∧ ((¬ (r2 = v11)) → (v_L_isSo_222  I Q  ))))))))))) ∧ ((¬ ((5 : Int32) ≤ v12)) → (vp_in v12 15 ∧ (K163 v5 v6 v7 v8 (v11 ||| ((((I 112 (v12).toNatClampNeg) >>> (v8 &&& 31)) &&& (1 : Int32)) <<< (v12 &&& 31))) (v12 + (1 : Int32)))))
def v_L_isSo_163  (I : wI) (Q : Int32 → Prop) (K12 : Int32 → Int32 → Int32 → Int32 → Prop) : Nat → Int32 → Int32 → Int32 → Int32 → Int32 → Int32 → Prop
  | 0 => fun _ _ _ _ _ _ => False
  | f + 1 => g_L_isSo_163 I Q K12 (v_L_isSo_163 I Q K12 f)
def v_L_isSo_154  (I : wI) (Q : Int32 → Prop) (K12 : Int32 → Int32 → Int32 → Int32 → Prop) (v5 : Int32) (v7 : Int32) (v8 : Int32) (t0 : Int32) (t1 : Int32) : Prop :=
  ∃ f : Nat, v_L_isSo_163  I Q K12 f v5 (t1 + t0) v7 v8 (0 : Int32) (0 : Int32)
def v_L_isSo_153  (I : wI) (Q : Int32 → Prop) (K12 : Int32 → Int32 → Int32 → Int32 → Prop) (v5 : Int32) (v7 : Int32) (v8 : Int32) (t0 : Int32) : Prop :=
  v_L_isSo_154  I Q K12 v5 v7 v8 (0 : Int32) t0
def v_L_isSo_116  (I : wI) (Q : Int32 → Prop)  : Prop :=
  Q (0 : Int32)
def v_L_isSo_113  (I : wI) (Q : Int32 → Prop) (K12 : Int32 → Int32 → Int32 → Int32 → Prop) (v5 : Int32) (v6 : Int32) (v7 : Int32) (v8 : Int32) (v9 : Int32) (t0 : Int32) (t1 : Int32) : Prop :=
  ((t1 = t0) → (vp_in ((6 : Int32) + v8) 12 ∧ (((¬ v9 = v8) → (v_L_isSo_153  I Q K12 (v5 + (I 111 (((6 : Int32) + v8)).toNatClampNeg)) v7 v8 v6)) ∧ ((v9 = v8) → (vp_in ((6 : Int32) + v8) 12 ∧ (((¬ (I 111 (((6 : Int32) + v8)).toNatClampNeg) = 0) → (v_L_isSo_153  I Q K12 (v5 + (I 111 (((6 : Int32) + v8)).toNatClampNeg)) v7 v8 v6)) ∧ (((I 111 (((6 : Int32) + v8)).toNatClampNeg) = 0) → (v_L_isSo_154  I Q K12 (v5 + (I 111 (((6 : Int32) + v8)).toNatClampNeg)) v7 v8 (1 : Int32) v6)))))))) ∧ ((¬ (t1 = t0)) → (v_L_isSo_116  I Q  ))
def v_L_isSo_65  (I : wI) (Q : Int32 → Prop) (K12 : Int32 → Int32 → Int32 → Int32 → Prop) (v5 : Int32) (v6 : Int32) (v7 : Int32) (v8 : Int32) (v9 : Int32) (t0 : Int32) : Prop :=
  (pre_X5_at v9 (0 : Int32) I) ∧ (∀ r1 : Int32, (post_X5_at v9 (0 : Int32) I r1) → (((¬ r1 = v8) → (v_L_isSo_116  I Q  )) ∧ ((r1 = v8) → ((pre_X5_at v9 (1 : Int32) I) ∧ (∀ r2 : Int32, (post_X5_at v9 (1 : Int32) I r2) → (vp_in ((6 : Int32) + v8) 12 ∧ (((¬ r2 = (I 111 (((6 : Int32) + v8)).toNatClampNeg)) → (v_L_isSo_116  I Q  )) ∧ ((r2 = (I 111 (((6 : Int32) + v8)).toNatClampNeg)) → ((pre_X5_at v9 (3 : Int32) I) ∧ (∀ r3 : Int32, (post_X5_at v9 (3 : Int32) I r3) → (((t0 = 0) → (v_L_isSo_113  I Q K12 v5 v6 v7 v8 v9 (0 : Int32) r3)) ∧ ((¬ (t0 = 0)) → (v_L_isSo_113  I Q K12 v5 v6 v7 v8 v9 (1 : Int32) r3)))))))))))))
def v_L_isSo_64  (I : wI) (Q : Int32 → Prop) (K12 : Int32 → Int32 → Int32 → Int32 → Prop) (v5 : Int32) (v6 : Int32) (v7 : Int32) (v8 : Int32) (v9 : Int32) : Prop :=
  v_L_isSo_65  I Q K12 v5 v6 v7 v8 v9 (0 : Int32)
def g_L_isSo_12  (I : wI) (Q : Int32 → Prop) (K12 : Int32 → Int32 → Int32 → Int32 → Prop) (v5 : Int32) (v6 : Int32) (v7 : Int32) (v8 : Int32) : Prop :=
  (((6 : Int32) ≤ v8) → ((pre_L_right 111 I) ∧ (∀ r1 : Int32, (post_L_right 111 I r1) → ((pre_X5_count (0 : Int32) I) ∧ (∀ r2 : Int32, (post_X5_count (0 : Int32) I r2) → (vp_in (0 : Int32) 4 ∧ (((¬ r2 = (I 113 ((0 : Int32)).toNatClampNeg)) → (v_L_isSo_354  I Q  v5 r1)) ∧ ((r2 = (I 113 ((0 : Int32)).toNatClampNeg)) → ((pre_X5_count (1 : Int32) I) ∧ (∀ r3 : Int32, (post_X5_count (1 : Int32) I r3) → (((¬ r3 = (v5 - v5 / (5 : Int32) * (5 : Int32))) → (v_L_isSo_354  I Q  v5 r1)) ∧ ((r3 = (v5 - v5 / (5 : Int32) * (5 : Int32))) → ((pre_X5_count (2 : Int32) I) ∧ (∀ r4 : Int32, (post_X5_count (2 : Int32) I r4) → (((¬ r4 = (v5 - v5 / (5 : Int32) * (5 : Int32))) → (v_L_isSo_354  I Q  v5 r1)) ∧ ((r4 = (v5 - v5 / (5 : Int32) * (5 : Int32))) → ((pre_X5_count (3 : Int32) I) ∧ (∀ r5 : Int32, (post_X5_count (3 : Int32) I r5) → (((¬ r5 = v6) → (v_L_isSo_354  I Q  v5 r1)) ∧ ((r5 = v6) → ((pre_X5_count (4 : Int32) I) ∧ (∀ r6 : Int32, (post_X5_count (4 : Int32) I r6) → (((¬ r1 = (6 : Int32)) → (v_L_isSo_314  I Q  v5 v7 r1 (0 : Int32) r6)) ∧ ((r1 = (6 : Int32)) → (v_L_isSo_314  I Q  v5 v7 r1 (1 : Int32) r6))))))))))))))))))))))))) ∧ ((¬ ((6 : Int32) ≤ v8)) → (vp_in v8 12 ∧ (vp_in (2 : Int32) 4 ∧ (((¬ (I 113 ((2 : Int32)).toNatClampNeg) = (1 : Int32)) → (v_L_isSo_64  I Q K12 v5 v6 v7 v8 (I 111 (v8).toNatClampNeg))) ∧ (((I 113 ((2 : Int32)).toNatClampNeg) = (1 : Int32)) → (vp_in v8 12 ∧ (((¬ (I 114 (v8).toNatClampNeg) = (I 111 (v8).toNatClampNeg)) → (v_L_isSo_64  I Q K12 v5 v6 v7 v8 (I 111 (v8).toNatClampNeg))) ∧ (((I 114 (v8).toNatClampNeg) = (I 111 (v8).toNatClampNeg)) → (vp_in ((6 : Int32) + v8) 12 ∧ (vp_in ((6 : Int32) + v8) 12 ∧ (((¬ (I 114 (((6 : Int32) + v8)).toNatClampNeg) = (I 111 (((6 : Int32) + v8)).toNatClampNeg)) → (v_L_isSo_64  I Q K12 v5 v6 v7 v8 (I 111 (v8).toNatClampNeg))) ∧ (((I 114 (((6 : Int32) + v8)).toNatClampNeg) = (I 111 (((6 : Int32) + v8)).toNatClampNeg)) → (v_L_isSo_65  I Q K12 v5 v6 v7 v8 (I 111 (v8).toNatClampNeg) (1 : Int32))))))))))))))
def v_L_isSo_12  (I : wI) (Q : Int32 → Prop) : Nat → Int32 → Int32 → Int32 → Int32 → Prop
  | 0 => fun _ _ _ _ => False
  | f + 1 => g_L_isSo_12 I Q (v_L_isSo_12 I Q f)
def v_L_isSo  (I : wI) (Q : Int32 → Prop) : Prop :=
  ∃ f : Nat, v_L_isSo_12  I Q  f (0 : Int32) (0 : Int32) (0 : Int32) (0 : Int32)
def v_L_isAhead_341 (x5 : Int32) (Q : Int32 → wI → Prop) (n : Nat) (t0 : Int32) (I : wI) : Prop :=
  (n ≤ 1) ∧ ((t0 = 0 ∨ t0 = 1) ∧ Q t0 I)
def v_L_isAhead_340 (x5 : Int32) (Q : Int32 → wI → Prop) (n : Nat) (I : wI) : Prop :=
  (n ≤ 1) ∧ (v_L_isAhead_341 x5 Q  n (0 : Int32) I)
def v_L_isAhead_319 (x5 : Int32) (Q : Int32 → wI → Prop) (n : Nat) (v7 : Int32) (v8 : Int32) (v10 : Int32) (I : wI) : Prop :=
  (n ≤ 1) ∧ (((¬ v10 = v7) → (v_L_isAhead_340 x5 Q  n I)) ∧ ((v10 = v7) → ((pre_X5_openIn (1 : Int32) I) ∧ (∀ r1 : Int32, ∀ I2 : wI, (post_X5_openIn (1 : Int32) I r1 I2) → (((¬ r1 = v8) → (v_L_isAhead_340 x5 Q  n I2)) ∧ ((r1 = v8) → (v_L_isAhead_341 x5 Q  n (1 : Int32) I2)))))))
def v_L_isAhead_318 (x5 : Int32) (Q : Int32 → wI → Prop) (n : Nat) (t0 : Int32) (I : wI) : Prop :=
  (n ≤ 1) ∧ ((t0 = 0 ∨ t0 = 1) ∧ Q t0 I)
def v_L_isAhead_313 (x5 : Int32) (Q : Int32 → wI → Prop) (n : Nat) (I : wI) : Prop :=
  (n ≤ 1) ∧ (v_L_isAhead_318 x5 Q  n (1 : Int32) I)
def v_L_isAhead_275 (x5 : Int32) (Q : Int32 → wI → Prop) (n : Nat) (v7 : Int32) (v8 : Int32) (I : wI) : Prop :=
  (n ≤ 1) ∧ ((pre_X5_openIn (0 : Int32) I) ∧ (∀ r1 : Int32, ∀ I2 : wI, (post_X5_openIn (0 : Int32) I r1 I2) → (((0 ≤ v7) → (v_L_isAhead_319 x5 Q  n v7 v8 r1 I2)) ∧ ((¬ (0 ≤ v7)) → (vp_in (2 : Int32) 4 ∧ (((¬ (I2 113 ((2 : Int32)).toNatClampNeg) = (1 : Int32)) → (v_L_isAhead_319 x5 Q  n v7 v8 r1 I2)) ∧ (((I2 113 ((2 : Int32)).toNatClampNeg) = (1 : Int32)) → ((((4 : Int32) ≤ x5) → (v_L_isAhead_319 x5 Q  n v7 v8 r1 I2)) ∧ ((¬ ((4 : Int32) ≤ x5)) → (((r1 = (-1 : Int32)) → (v_L_isAhead_313 x5 Q  n I2)) ∧ ((¬ (r1 = (-1 : Int32))) → (((r1 ≤ x5) → (v_L_isAhead_318 x5 Q  n (0 : Int32) I2)) ∧ ((¬ (r1 ≤ x5)) → (v_L_isAhead_313 x5 Q  n I2))))))))))))))
def v_L_isAhead_269 (x5 : Int32) (Q : Int32 → wI → Prop) (K95 : Nat → Int32 → Int32 → Int32 → Int32 → wI → Prop) (n : Nat) (v7 : Int32) (v8 : Int32) (v9 : Int32) (v10 : Int32) (I : wI) : Prop :=
  (n ≤ 1) ∧ (K95 n v7 v8 v9 (v10 + (1 : Int32)) I)
def v_L_isAhead_263 (x5 : Int32) (Q : Int32 → wI → Prop) (K95 : Nat → Int32 → Int32 → Int32 → Int32 → wI → Prop) (K124 : Nat → Int32 → Int32 → Int32 → Int32 → Int32 → wI → Prop) (n : Nat) (v7 : Int32) (v8 : Int32) (v9 : Int32) (v10 : Int32) (v11 : Int32) (I : wI) : Prop :=
  (n ≤ 1) ∧ (K124 n v7 v8 v9 v10 (v11 + (1 : Int32)) I)
def v_L_isAhead_220 (x5 : Int32) (Q : Int32 → wI → Prop) (K95 : Nat → Int32 → Int32 → Int32 → Int32 → wI → Prop) (K124 : Nat → Int32 → Int32 → Int32 → Int32 → Int32 → wI → Prop) (K155 : Nat → Int32 → Int32 → Int32 → Int32 → Int32 → Int32 → Int32 → Int32 → wI → Prop) (n : Nat) (v7 : Int32) (v8 : Int32) (v9 : Int32) (v10 : Int32) (v11 : Int32) (v12 : Int32) (v14 : Int32) (t0 : Int32) (I : wI) : Prop :=
  (n ≤ 1) ∧ (K155 n v7 v8 v9 v10 v11 v12 t0 (v14 + (1 : Int32)) I)
def v_L_isAhead_195 (x5 : Int32) (Q : Int32 → wI → Prop) (K95 : Nat → Int32 → Int32 → Int32 → Int32 → wI → Prop) (K124 : Nat → Int32 → Int32 → Int32 → Int32 → Int32 → wI → Prop) (K155 : Nat → Int32 → Int32 → Int32 → Int32 → Int32 → Int32 → Int32 → Int32 → wI → Prop) (n : Nat) (v7 : Int32) (v8 : Int32) (v9 : Int32) (v10 : Int32) (v11 : Int32) (v13 : Int32) (v14 : Int32) (v15 : Int32) (t0 : Int32) (I : wI) : Prop :=
  (n ≤ 1) ∧ ((pre_L_doTurn 115 v15 I) ∧ (∀ I1 : wI, (post_L_doTurn 115 v15 I I1) → (((v13 ≤ (1 : Int32)) → (v_L_isAhead_220 x5 Q K95 K124 K155 n v7 v8 v9 v10 v11 t0 v14 (1 : Int32) I1)) ∧ ((¬ (v13 ≤ (1 : Int32))) → (v_L_isAhead_220 x5 Q K95 K124 K155 n v7 v8 v9 v10 v11 t0 v14 (v13 / (10 : Int32)) I1)))))
def v_L_isAhead_194 (x5 : Int32) (Q : Int32 → wI → Prop) (K95 : Nat → Int32 → Int32 → Int32 → Int32 → wI → Prop) (K124 : Nat → Int32 → Int32 → Int32 → Int32 → Int32 → wI → Prop) (K155 : Nat → Int32 → Int32 → Int32 → Int32 → Int32 → Int32 → Int32 → Int32 → wI → Prop) (n : Nat) (v7 : Int32) (v8 : Int32) (v9 : Int32) (v10 : Int32) (v11 : Int32) (v13 : Int32) (v14 : Int32) (v15 : Int32) (I : wI) : Prop :=
  (n ≤ 1) ∧ (v_L_isAhead_195 x5 Q K95 K124 K155 n v7 v8 v9 v10 v11 v13 v14 v15 (0 : Int32) I)
def g_L_isAhead_155 (x5 : Int32) (Q : Int32 → wI → Prop) (K95 : Nat → Int32 → Int32 → Int32 → Int32 → wI → Prop) (K124 : Nat → Int32 → Int32 → Int32 → Int32 → Int32 → wI → Prop) (K155 : Nat → Int32 → Int32 → Int32 → Int32 → Int32 → Int32 → Int32 → Int32 → wI → Prop) (n : Nat) (v7 : Int32) (v8 : Int32) (v9 : Int32) (v10 : Int32) (v11 : Int32) (v12 : Int32) (v13 : Int32) (v14 : Int32) (I : wI) : Prop :=
  (n ≤ 1) ∧ (((v10 ≤ v14) → (((v12 = 0) → (v_L_isAhead_263 x5 Q K95 K124 n v7 v8 v9 v10 v11 I)) ∧ ((¬ (v12 = 0)) → ((pre_L_right 115 I) ∧ (∀ r1 : Int32, (post_L_right 115 I r1) → ((((6 : Int32) ≤ r1) → ((¬ (v9 / (10 : Int32)) = 0) ∧ (v_L_isAhead_263 x5 Q K95 K124 n v10 (v11 / (v9 / (10 : Int32))) v9 v10 v11 I))) ∧ ((¬ ((6 : Int32) ≤ r1)) → (v_L_isAhead_263 x5 Q K95 K124 n v7 v8 v9 v10 v11 I)))))))) ∧ ((¬ (v10 ≤ v14)) → ((¬ v13 = 0) ∧ (((v12 = 0) → (v_L_isAhead_194 x5 Q K95 K124 K155 n v7 v8 v9 v10 v11 v13 v14 ((v11 / v13) - (v11 / v13) / (10 : Int32) * (10 : Int32)) I)) ∧ ((¬ (v12 = 0)) → (vp_in (((v11 / v13) - (v11 / v13) / (10 : Int32) * (10 : Int32)) - ((v11 / v13) - (v11 / v13) / (10 : Int32) * (10 : Int32)) / (5 : Int32) * (5 : Int32)) 15 ∧ (vp_in (3 : Int32) 4 ∧ (((¬ ((I 112 ((((v11 / v13) - (v11 / v13) / (10 : Int32) * (10 : Int32)) - ((v11 / v13) - (v11 / v13) / (10 : Int32) * (10 : Int32)) / (5 : Int32) * (5 : Int32))).toNatClampNeg) &&& (I 113 ((3 : Int32)).toNatClampNeg)) = 0) → (v_L_isAhead_194 x5 Q K95 K124 K155 n v7 v8 v9 v10 v11 v13 v14 ((v11 / v13) - (v11 / v13) / (10 : Int32) * (10 : Int32)) I)) ∧ ((((I 112 ((((v11 / v13) - (v11 / v13) / (10 : Int32) * (10 : Int32)) - ((v11 / v13) - (v11 / v13) / (10 : Int32) * (10 : Int32)) / (5 : Int32) * (5 : Int32))).toNatClampNeg) &&& (I 113 ((3 : Int32)).toNatClampNeg)) = 0) → (v_L_isAhead_195 x5 Q K95 K124 K155 n v7 v8 v9 v10 v11 v13 v14 ((v11 / v13) - (v11 / v13) / (10 : Int32) * (10 : Int32)) (1 : Int32) I))))))))))
def v_L_isAhead_155 (x5 : Int32) (Q : Int32 → wI → Prop) (K95 : Nat → Int32 → Int32 → Int32 → Int32 → wI → Prop) (K124 : Nat → Int32 → Int32 → Int32 → Int32 → Int32 → wI → Prop) : Nat → Nat → Int32 → Int32 → Int32 → Int32 → Int32 → Int32 → Int32 → Int32 → wI → Prop
  | 0 => fun _ _ _ _ _ _ _ _ _ _ => False
  | f + 1 => g_L_isAhead_155 x5 Q K95 K124 (v_L_isAhead_155 x5 Q K95 K124 f)
def g_L_isAhead_124 (x5 : Int32) (Q : Int32 → wI → Prop) (K95 : Nat → Int32 → Int32 → Int32 → Int32 → wI → Prop) (K124 : Nat → Int32 → Int32 → Int32 → Int32 → Int32 → wI → Prop) (n : Nat) (v7 : Int32) (v8 : Int32) (v9 : Int32) (v10 : Int32) (v11 : Int32) (I : wI) : Prop :=
  (n ≤ 1) ∧ (((v9 ≤ v11) → (v_L_isAhead_269 x5 Q K95 n v7 v8 v9 v10 I)) ∧ ((¬ (v9 ≤ v11)) → (((0 ≤ v7) → (v_L_isAhead_269 x5 Q K95 n v7 v8 v9 v10 I)) ∧ ((¬ (0 ≤ v7)) → ((pre_L_copy 111 115 I) ∧ (∀ I1 : wI, (post_L_copy 111 115 I I1) → (∃ f : Nat, v_L_isAhead_155 x5 Q K95 K124 f n v7 v8 v9 v10 v11 (1 : Int32) (v9 / (10 : Int32)) (0 : Int32) I1)))))))
def v_L_isAhead_124 (x5 : Int32) (Q : Int32 → wI → Prop) (K95 : Nat → Int32 → Int32 → Int32 → Int32 → wI → Prop) : Nat → Nat → Int32 → Int32 → Int32 → Int32 → Int32 → wI → Prop
  | 0 => fun _ _ _ _ _ _ _ => False
  | f + 1 => g_L_isAhead_124 x5 Q K95 (v_L_isAhead_124 x5 Q K95 f)
def g_L_isAhead_95 (x5 : Int32) (Q : Int32 → wI → Prop) (K95 : Nat → Int32 → Int32 → Int32 → Int32 → wI → Prop) (n : Nat) (v7 : Int32) (v8 : Int32) (v9 : Int32) (v10 : Int32) (I : wI) : Prop :=
  (n ≤ 1) ∧ (((x5 < v10) → (v_L_isAhead_275 x5 Q  n v7 v8 I)) ∧ ((¬ (x5 < v10)) → (((0 ≤ v7) → (v_L_isAhead_275 x5 Q  n v7 v8 I)) ∧ ((¬ (0 ≤ v7)) → (vp_in (2 : Int32) 4 ∧ (((¬ (I 113 ((2 : Int32)).toNatClampNeg) = (1 : Int32)) → (v_L_isAhead_275 x5 Q  n v7 v8 I)) ∧ (((I 113 ((2 : Int32)).toNatClampNeg) = (1 : Int32)) → (∃ f : Nat, v_L_isAhead_124 x5 Q K95 f n v7 v8 (v9 * (10 : Int32)) v10 (0 : Int32) I))))))))
def v_L_isAhead_95 (x5 : Int32) (Q : Int32 → wI → Prop) : Nat → Nat → Int32 → Int32 → Int32 → Int32 → wI → Prop
  | 0 => fun _ _ _ _ _ _ => False
  | f + 1 => g_L_isAhead_95 x5 Q (v_L_isAhead_95 x5 Q f)
def v_L_isAhead_89 (x5 : Int32) (Q : Int32 → wI → Prop) (n : Nat) (v7 : Int32) (v8 : Int32) (I : wI) : Prop :=
  (n ≤ 1) ∧ (∃ f : Nat, v_L_isAhead_95 x5 Q  f n v7 v8 (1 : Int32) (1 : Int32) I)
def g_L_isAhead_9 (x5 : Int32) (Q : Int32 → wI → Prop) (K9 : Nat → Int32 → wI → Prop) (n : Nat) (v7 : Int32) (I : wI) : Prop :=
  (n ≤ 1) ∧ ((((10 : Int32) ≤ v7) → (vp_in (2 : Int32) 4 ∧ (((¬ (I 113 ((2 : Int32)).toNatClampNeg) = (1 : Int32)) → (v_L_isAhead_89 x5 Q  n (-1 : Int32) (-1 : Int32) I)) ∧ (((I 113 ((2 : Int32)).toNatClampNeg) = (1 : Int32)) → ((pre_L_right 111 I) ∧ (∀ r1 : Int32, (post_L_right 111 I r1) → (((¬ r1 = (6 : Int32)) → (v_L_isAhead_89 x5 Q  n (-1 : Int32) (-1 : Int32) I)) ∧ ((r1 = (6 : Int32)) → (v_L_isAhead_89 x5 Q  n (0 : Int32) (-1 : Int32) I))))))))) ∧ ((¬ ((10 : Int32) ≤ v7)) → ((pre_L_copy 111 115 I) ∧ (∀ I2 : wI, (post_L_copy 111 115 I I2) → ((pre_L_doTurn 115 v7 I2) ∧ (∀ I3 : wI, (post_L_doTurn 115 v7 I2 I3) → ((pre_X5_ifTurned (v7 - v7 / (5 : Int32) * (5 : Int32)) (v7 / (5 : Int32)) I3) ∧ (∀ r4 : Int32, ∀ I5 : wI, (post_X5_ifTurned (v7 - v7 / (5 : Int32) * (5 : Int32)) (v7 / (5 : Int32)) I3 r4 I5) → ((pre_L_right 115 I5) ∧ (∀ r6 : Int32, (post_L_right 115 I5 r6) → (((r4 = r6) → (K9 n (v7 + (1 : Int32)) I5)) ∧ ((¬ (r4 = r6)) → (Q (0 : Int32) I5)))))))))))))
def v_L_isAhead_9 (x5 : Int32) (Q : Int32 → wI → Prop) : Nat → Nat → Int32 → wI → Prop
  | 0 => fun _ _ _ => False
  | f + 1 => g_L_isAhead_9 x5 Q (v_L_isAhead_9 x5 Q f)
def v_L_isAhead (x5 : Int32) (I : wI) (Q : Int32 → wI → Prop) : Prop :=
  1 ≤ 1 ∧ ∀ I1 : wI, I1 = zI I 115 → (∃ f : Nat, v_L_isAhead_9 x5 Q  f 1 (0 : Int32) I1)
def v_L_act_623 (x1 : Int32) (x2 : Int32) (Q : Int32 → wI → Prop) (n : Nat) (t0 : Int32) (I : wI) : Prop :=
  (n ≤ 4) ∧ ((t0 = 0 ∨ t0 = 1) ∧ Q t0 I)
def g_L_act_573 (x1 : Int32) (x2 : Int32) (Q : Int32 → wI → Prop) (K573 : Nat → Int32 → Int32 → wI → Prop) (n : Nat) (v8 : Int32) (v9 : Int32) (I : wI) : Prop :=
  (n ≤ 4) ∧ ((((6 : Int32) ≤ v9) → ((pre_L_copy 111 114 I) ∧ (∀ I1 : wI, (post_L_copy 111 114 I I1) → (vp_in (2 : Int32) 4 ∧ ∀ I2 : wI, I2 = wU I1 113 ((2 : Int32)).toNatClampNeg (1 : Int32) → ((pre_X5_learn  I2) ∧ (∀ r3 : Int32, ∀ I4 : wI, (post_X5_learn  I2 r3 I4) → (((¬ r3 = v8) → (v_L_act_623 x1 x2 Q  n (0 : Int32) I4)) ∧ ((r3 = v8) → (v_L_act_623 x1 x2 Q  n (1 : Int32) I4))))))))) ∧ ((¬ ((6 : Int32) ≤ v9)) → (vp_in ((6 : Int32) + v9) 12 ∧ (K573 n (v8 + (I 111 (((6 : Int32) + v9)).toNatClampNeg)) (v9 + (1 : Int32)) I))))
def v_L_act_573 (x1 : Int32) (x2 : Int32) (Q : Int32 → wI → Prop) : Nat → Nat → Int32 → Int32 → wI → Prop
  | 0 => fun _ _ _ _ => False
  | f + 1 => g_L_act_573 x1 x2 Q (v_L_act_573 x1 x2 Q f)
def v_L_act_567 (x1 : Int32) (x2 : Int32) (Q : Int32 → wI → Prop) (n : Nat) (I : wI) : Prop :=
  (n ≤ 4) ∧ (∃ f : Nat, v_L_act_573 x1 x2 Q  f n (0 : Int32) (0 : Int32) I)
def v_L_act_550 (x1 : Int32) (x2 : Int32) (Q : Int32 → wI → Prop) (n : Nat) (t0 : Int32) (I : wI) : Prop :=
  (n ≤ 4) ∧ ((t0 = 0 ∨ t0 = 1) ∧ Q t0 I)
def v_L_act_549 (x1 : Int32) (x2 : Int32) (Q : Int32 → wI → Prop) (n : Nat) (I : wI) : Prop :=
  (n ≤ 4) ∧ (v_L_act_550 x1 x2 Q  n (0 : Int32) I)
def v_L_act_510 (x1 : Int32) (x2 : Int32) (Q : Int32 → wI → Prop) (K484 : Nat → Int32 → Int32 → wI → Prop) (n : Nat) (v9 : Int32) (t0 : Int32) (t1 : Int32) (I : wI) : Prop :=
  (n ≤ 4) ∧ (K484 n (t1 + t0) (v9 + (1 : Int32)) I)
def g_L_act_484 (x1 : Int32) (x2 : Int32) (Q : Int32 → wI → Prop) (K484 : Nat → Int32 → Int32 → wI → Prop) (n : Nat) (v8 : Int32) (v9 : Int32) (I : wI) : Prop :=
  (n ≤ 4) ∧ ((((5 : Int32) ≤ v9) → ((pre_L_low x2 (6 : Int32) I) ∧ (∀ r1 : Int32, (post_L_low x2 (6 : Int32) I r1) → (((n + 1) ≤ 4) ∧ ((pre_L_stick r1 I) ∧ (∀ r2 : Int32, ∀ I3 : wI, (post_L_stick r1 I r2 I3) → (((¬ r2 = v8) → (v_L_act_549 x1 x2 Q  (n + 1) I3)) ∧ ((r2 = v8) → ((((n + 1) + 1) ≤ 4) ∧ ((pre_L_stick (6 : Int32) I3) ∧ (∀ r4 : Int32, ∀ I5 : wI, (post_L_stick (6 : Int32) I3 r4 I5) → (((¬ r4 = (-31 : Int32)) → (v_L_act_549 x1 x2 Q  ((n + 1) + 1) I5)) ∧ ((r4 = (-31 : Int32)) → (v_L_act_550 x1 x2 Q  ((n + 1) + 1) (1 : Int32) I5)))))))))))))) ∧ ((¬ ((5 : Int32) ≤ v9)) → (vp_in v9 15 ∧ (vp_in (3 : Int32) 4 ∧ (((((I 112 (v9).toNatClampNeg) &&& (I 113 ((3 : Int32)).toNatClampNeg)) = 0) → (v_L_act_510 x1 x2 Q K484 n v9 (0 : Int32) v8 I)) ∧ ((¬ (((I 112 (v9).toNatClampNeg) &&& (I 113 ((3 : Int32)).toNatClampNeg)) = 0)) → (v_L_act_510 x1 x2 Q K484 n v9 (1 : Int32) v8 I)))))))
def v_L_act_484 (x1 : Int32) (x2 : Int32) (Q : Int32 → wI → Prop) : Nat → Nat → Int32 → Int32 → wI → Prop
  | 0 => fun _ _ _ _ => False
  | f + 1 => g_L_act_484 x1 x2 Q (v_L_act_484 x1 x2 Q f)
def v_L_act_455 (x1 : Int32) (x2 : Int32) (Q : Int32 → wI → Prop) (n : Nat) (t0 : Int32) (I : wI) : Prop :=
  (n ≤ 4) ∧ ((t0 = 0 ∨ t0 = 1) ∧ Q t0 I)
def v_L_act_411 (x1 : Int32) (x2 : Int32) (Q : Int32 → wI → Prop) (n : Nat) (t0 : Int32) (I : wI) : Prop :=
  (n ≤ 4) ∧ ((t0 = 0 ∨ t0 = 1) ∧ Q t0 I)
def v_L_act_410 (x1 : Int32) (x2 : Int32) (Q : Int32 → wI → Prop) (n : Nat) (I : wI) : Prop :=
  (n ≤ 4) ∧ (v_L_act_411 x1 x2 Q  n (0 : Int32) I)
def v_L_act_308 (x1 : Int32) (x2 : Int32) (Q : Int32 → wI → Prop) (n : Nat) (t0 : Int32) (I : wI) : Prop :=
  (n ≤ 4) ∧ ((t0 = 0 ∨ t0 = 1) ∧ Q t0 I)
def v_L_act_289 (x1 : Int32) (x2 : Int32) (Q : Int32 → wI → Prop) (n : Nat) (t0 : Int32) (I : wI) : Prop :=
  (n ≤ 4) ∧ ((t0 = 0 ∨ t0 = 1) ∧ Q t0 I)
def v_L_act_256 (x1 : Int32) (x2 : Int32) (Q : Int32 → wI → Prop) (K223 : Nat → Int32 → Int32 → wI → Prop) (n : Nat) (v9 : Int32) (t0 : Int32) (t1 : Int32) (I : wI) : Prop :=
  (n ≤ 4) ∧ (K223 n (t1 + t0) (v9 + (1 : Int32)) I)
def v_L_act_251 (x1 : Int32) (x2 : Int32) (Q : Int32 → wI → Prop) (K223 : Nat → Int32 → Int32 → wI → Prop) (n : Nat) (v9 : Int32) (t0 : Int32) (I : wI) : Prop :=
  (n ≤ 4) ∧ (v_L_act_256 x1 x2 Q K223 n v9 (1 : Int32) t0 I)
def g_L_act_223 (x1 : Int32) (x2 : Int32) (Q : Int32 → wI → Prop) (K223 : Nat → Int32 → Int32 → wI → Prop) (n : Nat) (v8 : Int32) (v9 : Int32) (I : wI) : Prop :=
  (n ≤ 4) ∧ ((((6 : Int32) ≤ v9) → ((((x2 &&& (3 : Int32)) ≤ 0) → ((pre_L_first 111 I) ∧ (∀ I1 : wI, (post_L_first 111 I I1) → ((pre_X5_home  I1) ∧ (∀ r2 : Int32, ∀ I3 : wI, (post_X5_home  I1 r2 I3) → (((¬ r2 = v8) → (v_L_act_308 x1 x2 Q  n (0 : Int32) I3)) ∧ ((r2 = v8) → (v_L_act_308 x1 x2 Q  n (1 : Int32) I3)))))))) ∧ ((¬ ((x2 &&& (3 : Int32)) ≤ 0)) → ((pre_X5_count (3 : Int32) I) ∧ (∀ r4 : Int32, (post_X5_count (3 : Int32) I r4) → (((¬ v8 = ((6 : Int32) - r4)) → (v_L_act_289 x1 x2 Q  n (0 : Int32) I)) ∧ ((v8 = ((6 : Int32) - r4)) → (v_L_act_289 x1 x2 Q  n (1 : Int32) I)))))))) ∧ ((¬ ((6 : Int32) ≤ v9)) → (vp_in v9 12 ∧ (((¬ (I 111 (v9).toNatClampNeg) = v9) → (v_L_act_251 x1 x2 Q K223 n v9 v8 I)) ∧ (((I 111 (v9).toNatClampNeg) = v9) → (vp_in ((6 : Int32) + v9) 12 ∧ ((((I 111 (((6 : Int32) + v9)).toNatClampNeg) = 0) → (v_L_act_256 x1 x2 Q K223 n v9 (0 : Int32) v8 I)) ∧ ((¬ ((I 111 (((6 : Int32) + v9)).toNatClampNeg) = 0)) → (v_L_act_251 x1 x2 Q K223 n v9 v8 I)))))))))
def v_L_act_223 (x1 : Int32) (x2 : Int32) (Q : Int32 → wI → Prop) : Nat → Nat → Int32 → Int32 → wI → Prop
  | 0 => fun _ _ _ _ => False
  | f + 1 => g_L_act_223 x1 x2 Q (v_L_act_223 x1 x2 Q f)
def v_L_act_209 (x1 : Int32) (x2 : Int32) (Q : Int32 → wI → Prop) (n : Nat) (t0 : Int32) (I : wI) : Prop :=
  (n ≤ 4) ∧ ((t0 = 0 ∨ t0 = 1) ∧ Q t0 I)
def v_L_act_199 (x1 : Int32) (x2 : Int32) (Q : Int32 → wI → Prop) (n : Nat) (v10 : Int32) (t0 : Int32) (I : wI) : Prop :=
  (n ≤ 4) ∧ (((¬ t0 = v10) → (v_L_act_209 x1 x2 Q  n (0 : Int32) I)) ∧ ((t0 = v10) → (v_L_act_209 x1 x2 Q  n (1 : Int32) I)))
def v_L_act_174 (x1 : Int32) (x2 : Int32) (Q : Int32 → wI → Prop) (n : Nat) (v8 : Int32) (v10 : Int32) (t0 : Int32) (t1 : Int32) (t2 : Int32) (I : wI) : Prop :=
  (n ≤ 4) ∧ (vp_in t2 4 ∧ ∀ I1 : wI, I1 = wU I 113 (t2).toNatClampNeg (t1 + t0) → ((((5 : Int32) ≤ v8) → (((n + 1) ≤ 4) ∧ ((pre_L_back (v8 - (5 : Int32)) I1) ∧ (∀ r2 : Int32, ∀ I3 : wI, (post_L_back (v8 - (5 : Int32)) I1 r2 I3) → (v_L_act_199 x1 x2 Q  (n + 1) v10 r2 I3))))) ∧ ((¬ ((5 : Int32) ≤ v8)) → (((n + 1) ≤ 4) ∧ ((pre_L_turn v8 I1) ∧ (∀ r4 : Int32, ∀ I5 : wI, (post_L_turn v8 I1 r4 I5) → (v_L_act_199 x1 x2 Q  (n + 1) v10 r4 I5)))))))
def v_L_act_173 (x1 : Int32) (x2 : Int32) (Q : Int32 → wI → Prop) (n : Nat) (v8 : Int32) (v10 : Int32) (t0 : Int32) (t1 : Int32) (I : wI) : Prop :=
  (n ≤ 4) ∧ (v_L_act_174 x1 x2 Q  n v8 v10 (0 : Int32) t0 t1 I)
def v_L_act_110 (x1 : Int32) (x2 : Int32) (Q : Int32 → wI → Prop) (n : Nat) (v8 : Int32) (t0 : Int32) (I : wI) : Prop :=
  (n ≤ 4) ∧ ((pre_L_doTurn 111 v8 I) ∧ (∀ I1 : wI, (post_L_doTurn 111 v8 I I1) → ((pre_L_right 111 I1) ∧ (∀ r2 : Int32, (post_L_right 111 I1 r2) → (vp_in (0 : Int32) 4 ∧ (vp_in (0 : Int32) 4 ∧ ∀ I3 : wI, I3 = wU I1 113 ((0 : Int32)).toNatClampNeg ((I1 113 ((0 : Int32)).toNatClampNeg) + (1 : Int32)) → (vp_in ((10 : Int32) + (v8 - v8 / (5 : Int32) * (5 : Int32))) 15 ∧ (vp_in ((10 : Int32) + (v8 - v8 / (5 : Int32) * (5 : Int32))) 15 ∧ ∀ I4 : wI, I4 = wU I3 112 (((10 : Int32) + (v8 - v8 / (5 : Int32) * (5 : Int32)))).toNatClampNeg ((I3 112 (((10 : Int32) + (v8 - v8 / (5 : Int32) * (5 : Int32)))).toNatClampNeg) + (1 : Int32)) → (vp_in (1 : Int32) 4 ∧ (((¬ t0 = 0) → (v_L_act_173 x1 x2 Q  n v8 r2 (I4 113 ((1 : Int32)).toNatClampNeg) (1 : Int32) I4)) ∧ ((t0 = 0) → (((¬ r2 = (6 : Int32)) → (v_L_act_173 x1 x2 Q  n v8 r2 (I4 113 ((1 : Int32)).toNatClampNeg) (1 : Int32) I4)) ∧ ((r2 = (6 : Int32)) → (v_L_act_174 x1 x2 Q  n v8 r2 (1 : Int32) (I4 113 ((1 : Int32)).toNatClampNeg) (1 : Int32) I4))))))))))))))
def v_L_act_91 (x1 : Int32) (x2 : Int32) (Q : Int32 → wI → Prop) (n : Nat) (t0 : Int32) (I : wI) : Prop :=
  (n ≤ 4) ∧ ((t0 = 0 ∨ t0 = 1) ∧ Q t0 I)
def v_L_act_90 (x1 : Int32) (x2 : Int32) (Q : Int32 → wI → Prop) (n : Nat) (I : wI) : Prop :=
  (n ≤ 4) ∧ (v_L_act_91 x1 x2 Q  n (0 : Int32) I)
def v_L_act_61 (x1 : Int32) (x2 : Int32) (Q : Int32 → wI → Prop) (n : Nat) (t0 : Int32) (I : wI) : Prop :=
  (n ≤ 4) ∧ (((¬ t0 = (-33 : Int32)) → (v_L_act_90 x1 x2 Q  n I)) ∧ ((t0 = (-33 : Int32)) → (((n + 1) ≤ 4) ∧ ((pre_L_turn (5 : Int32) I) ∧ (∀ r1 : Int32, ∀ I2 : wI, (post_L_turn (5 : Int32) I r1 I2) → (((¬ r1 = (-31 : Int32)) → (v_L_act_90 x1 x2 Q  (n + 1) I2)) ∧ ((r1 = (-31 : Int32)) → ((((n + 1) + 1) ≤ 4) ∧ ((pre_L_back (-1 : Int32) I2) ∧ (∀ r3 : Int32, ∀ I4 : wI, (post_L_back (-1 : Int32) I2 r3 I4) → (((¬ r3 = (-31 : Int32)) → (v_L_act_90 x1 x2 Q  ((n + 1) + 1) I4)) ∧ ((r3 = (-31 : Int32)) → (v_L_act_91 x1 x2 Q  ((n + 1) + 1) (1 : Int32) I4)))))))))))))
def v_L_act (x1 : Int32) (x2 : Int32) (I : wI) (Q : Int32 → wI → Prop) : Prop :=
  (pre_L_low x1 (16 : Int32) I) ∧ (∀ r1 : Int32, (post_L_low x1 (16 : Int32) I r1) → ((((10 : Int32) ≤ r1) → (((¬ r1 = (10 : Int32)) → ((((13 : Int32) ≤ r1) → (((¬ r1 = (13 : Int32)) → (vp_in (2 : Int32) 4 ∧ (((¬ (I 113 ((2 : Int32)).toNatClampNeg) = (1 : Int32)) → (v_L_act_567 x1 x2 Q  0 I)) ∧ (((I 113 ((2 : Int32)).toNatClampNeg) = (1 : Int32)) → ((((x2 &&& (3 : Int32)) ≤ 0) → (v_L_act_567 x1 x2 Q  0 I)) ∧ ((¬ ((x2 &&& (3 : Int32)) ≤ 0)) → (Q (1 : Int32) I))))))) ∧ ((r1 = (13 : Int32)) → (vp_in (3 : Int32) 4 ∧ ((pre_L_low x2 (6 : Int32) I) ∧ (∀ r2 : Int32, (post_L_low x2 (6 : Int32) I r2) → (vp_in (3 : Int32) 4 ∧ ∀ I3 : wI, I3 = wU I 113 ((3 : Int32)).toNatClampNeg ((I 113 ((3 : Int32)).toNatClampNeg) ^^^ ((1 : Int32) <<< (r2 &&& 31))) → (∃ f : Nat, v_L_act_484 x1 x2 Q  f 0 (0 : Int32) (0 : Int32) I3)))))))) ∧ ((¬ ((13 : Int32) ≤ r1)) → ((pre_L_low x2 (5 : Int32) I) ∧ (∀ r4 : Int32, (post_L_low x2 (5 : Int32) I r4) → ((pre_L_low (x2 >>> ((9 : Int32) &&& 31)) (5 : Int32) I) ∧ (∀ r5 : Int32, (post_L_low (x2 >>> ((9 : Int32) &&& 31)) (5 : Int32) I r5) → ((pre_L_ones ((x2 >>> ((3 : Int32) &&& 31)) &&& (63 : Int32)) I) ∧ (∀ r6 : Int32, (post_L_ones ((x2 >>> ((3 : Int32) &&& 31)) &&& (63 : Int32)) I r6) → ((((2 : Int32) ≤ r6) → (vp_in r4 15 ∧ (vp_in r4 15 ∧ ∀ I7 : wI, I7 = wU I 112 (r4).toNatClampNeg ((x2 >>> ((3 : Int32) &&& 31)) &&& (63 : Int32)) → (vp_in ((5 : Int32) + r4) 15 ∧ ∀ I8 : wI, I8 = wU I7 112 (((5 : Int32) + r4)).toNatClampNeg r5 → (((0 + 1) ≤ 4) ∧ ((pre_L_cut r4 ((x2 >>> ((3 : Int32) &&& 31)) &&& (63 : Int32)) r5 I8) ∧ (∀ r9 : Int32, ∀ I10 : wI, (post_L_cut r4 ((x2 >>> ((3 : Int32) &&& 31)) &&& (63 : Int32)) r5 I8 r9 I10) → (((¬ r9 = (I 112 (r4).toNatClampNeg)) → (v_L_act_455 x1 x2 Q  (0 + 1) (0 : Int32) I10)) ∧ ((r9 = (I 112 (r4).toNatClampNeg)) → (v_L_act_455 x1 x2 Q  (0 + 1) (1 : Int32) I10)))))))))) ∧ ((¬ ((2 : Int32) ≤ r6)) → (((0 + 1) ≤ 4) ∧ ((pre_L_cut r4 ((x2 >>> ((3 : Int32) &&& 31)) &&& (63 : Int32)) r5 I) ∧ (∀ r11 : Int32, ∀ I12 : wI, (post_L_cut r4 ((x2 >>> ((3 : Int32) &&& 31)) &&& (63 : Int32)) r5 I r11 I12) → (((¬ r11 = (-32 : Int32)) → (v_L_act_410 x1 x2 Q  (0 + 1) I12)) ∧ ((r11 = (-32 : Int32)) → ((((0 + 1) + 1) ≤ 4) ∧ ((pre_L_cut (5 : Int32) ((x2 >>> ((3 : Int32) &&& 31)) &&& (63 : Int32)) r5 I12) ∧ (∀ r13 : Int32, ∀ I14 : wI, (post_L_cut (5 : Int32) ((x2 >>> ((3 : Int32) &&& 31)) &&& (63 : Int32)) r5 I12 r13 I14) → (((¬ r13 = (-31 : Int32)) → (v_L_act_410 x1 x2 Q  ((0 + 1) + 1) I14)) ∧ ((r13 = (-31 : Int32)) → (((((0 + 1) + 1) + 1) ≤ 4) ∧ ((pre_L_cut r4 (64 : Int32) (0 : Int32) I14) ∧ (∀ r15 : Int32, ∀ I16 : wI, (post_L_cut r4 (64 : Int32) (0 : Int32) I14 r15 I16) → (((¬ r15 = (-32 : Int32)) → (v_L_act_410 x1 x2 Q  (((0 + 1) + 1) + 1) I16)) ∧ ((r15 = (-32 : Int32)) → ((((((0 + 1) + 1) + 1) + 1) ≤ 4) ∧ ((pre_L_cut r4 (3 : Int32) (5 : Int32) I16) ∧ (∀ r17 : Int32, ∀ I18 : wI, (post_L_cut r4 (3 : Int32) (5 : Int32) I16 r17 I18) → (((¬ r17 = (-32 : Int32)) → (v_L_act_410 x1 x2 Q  ((((0 + 1) + 1) + 1) + 1) I18)) ∧ ((r17 = (-32 : Int32)) → (v_L_act_411 x1 x2 Q  ((((0 + 1) + 1) + 1) + 1) (1 : Int32) I18)))))))))))))))))))))))))))))))) ∧ ((r1 = (10 : Int32)) → (∃ f : Nat, v_L_act_223 x1 x2 Q  f 0 (0 : Int32) (0 : Int32) I)))) ∧ ((¬ ((10 : Int32) ≤ r1)) → ((pre_L_low x2 (10 : Int32) I) ∧ (∀ r19 : Int32, (post_L_low x2 (10 : Int32) I r19) → (vp_in (r19 - r19 / (5 : Int32) * (5 : Int32)) 15 ∧ (vp_in (3 : Int32) 4 ∧ (((((I 112 ((r19 - r19 / (5 : Int32) * (5 : Int32))).toNatClampNeg) &&& (I 113 ((3 : Int32)).toNatClampNeg)) = 0) → ((pre_L_right 111 I) ∧ (∀ r20 : Int32, (post_L_right 111 I r20) → (((¬ r20 = (6 : Int32)) → (v_L_act_110 x1 x2 Q  0 r19 (0 : Int32) I)) ∧ ((r20 = (6 : Int32)) → (v_L_act_110 x1 x2 Q  0 r19 (1 : Int32) I)))))) ∧ ((¬ (((I 112 ((r19 - r19 / (5 : Int32) * (5 : Int32))).toNatClampNeg) &&& (I 113 ((3 : Int32)).toNatClampNeg)) = 0)) → ((((5 : Int32) ≤ r19) → (((0 + 1) ≤ 4) ∧ ((pre_L_back (r19 - (5 : Int32)) I) ∧ (∀ r21 : Int32, ∀ I22 : wI, (post_L_back (r19 - (5 : Int32)) I r21 I22) → (v_L_act_61 x1 x2 Q  (0 + 1) r21 I22))))) ∧ ((¬ ((5 : Int32) ≤ r19)) → (((0 + 1) ≤ 4) ∧ ((pre_L_turn r19 I) ∧ (∀ r23 : Int32, ∀ I24 : wI, (post_L_turn r19 I r23 I24) → (v_L_act_61 x1 x2 Q  (0 + 1) r23 I24)))))))))))))))
