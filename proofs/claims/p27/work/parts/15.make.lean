def kI_X0 (k : Nat) (I : wI) : wI := (wU (wU (wU (wU (wU (wU (zI (zI I (k + 1)) (k + 2)) (k + 1) ((0 : Int32)).toNatClampNeg (0 : Int32)) (k + 1) ((1 : Int32)).toNatClampNeg (1 : Int32)) (k + 1) ((2 : Int32)).toNatClampNeg (2 : Int32)) (k + 1) ((3 : Int32)).toNatClampNeg (3 : Int32)) (k + 1) ((4 : Int32)).toNatClampNeg (4 : Int32)) (k + 1) ((5 : Int32)).toNatClampNeg (5 : Int32))
def kR_X0 (k : Nat) (R : wR) : wR := (uR (zR (uR (zR R (k + 1)) k 0 (some (k + 1))) (k + 2)) k 1 (some (k + 2)))
abbrev rm_X0_init : Room := { frames := 1, cells := 2, slots := 12, locals := 12 }
theorem hd_X0_init : yX0_init.cls = RX0 ∧ yX0_init.cls ≠ "java/lang/invoke/MethodHandle" ∧ yX0_init.cls ≠ "java/lang/invoke/VarHandle" ∧ (parseMethodDescriptor yX0_init.desc).map (fun d => d.parameters.length) = some 0 := by decide +kernel
set_option maxRecDepth 100000 in
set_option maxHeartbeats 4000000 in
theorem c_X0_init {l : Launch} {D : va_G} {cs : wC4} {ad : Nat → Nat} {b : Nat} {k : Nat} (hs : wSh k = (0, 0)) (I : wI) (R : wR) : Met l yX0_init (ws_ yX0_init cX0_init 2 none) rm_X0_init (va_Pc [.ref (b + k)] (wPk D cs ad b (k + 1) I R)) (kPost D cs b (k + 3) (kI_X0 k I) (kR_X0 k R)) 2 12 (fun q => b ≤ q) := by
  refine k_met (by decide) (Nat.le_of_ble_eq_true rfl) ?_
  intro p e s m below meth c hX hr hlk hnm hK hE hO hH ls hl
  have hX : CallFix p m c cX0_init 2 s _ lw_all RX0 := hX
  have hnm : meth.name = "<init>" := hnm
  have hx := hX.1
  have hb := hX.2.1
  have hl : lv_has ls 2 [(0, .ref (b + k))] := hl
  refine lv_aload_n hx hb dX0_init_0 rfl (lv_at hl 0 rfl) ?_
  refine k_init0 hX q1_34 q1_21 q1_22 hl.1 ⟨Nat.le_of_ble_eq_true rfl, Nat.le_of_ble_eq_true rfl⟩ dX0_init_1 ?_
  refine lv_aload_n hx hb dX0_init_4 rfl (lv_at hl 0 rfl) ?_
  refine lv_bipush (v := 6) hx hb dX0_init_5 (by decide) ?_
  refine k_newa hX hK hH ⟨by decide, by decide, by decide⟩ (sf0_0 hs) q1_42 ⟨Nat.le_of_ble_eq_true rfl, Nat.le_of_ble_eq_true rfl⟩ dX0_init_7 (fun H hH => ?_)
  refine k_putr hX hK hH ck0 (by omega) hs hnm rfl 0 1 ⟨fr0_0.1, fr0_0.2, rfl, fun _ => ⟨rfl, rfl⟩⟩ q1_35 dX0_init_9 (fun H locs hH => ?_)
  refine lv_aload_n hx hb dX0_init_12 rfl (lv_at hl 0 rfl) ?_
  refine lv_bipush (v := 6) hx hb dX0_init_13 (by decide) ?_
  refine k_newa hX hK hH ⟨by decide, by decide, by decide⟩ (sf0_1 hs) q1_42 ⟨Nat.le_of_ble_eq_true rfl, Nat.le_of_ble_eq_true rfl⟩ dX0_init_15 (fun H hH => ?_)
  refine k_putr hX hK hH ck0 (by omega) hs hnm rfl 1 2 ⟨fr0_1.1, fr0_1.2, rfl, fun _ => ⟨rfl, rfl⟩⟩ q1_36 dX0_init_17 (fun H locs hH => ?_)
  refine lv_iconst (v := 0) hx hb dX0_init_20 (by decide) ?_
  refine lv_istore_n (lv' := [(1, .int (0 : Int32)), (0, .ref (b + k))]) hx hb dX0_init_21 rfl hl (by decide) rfl (fun ls hl => ?_)
  refine lv_iload_n hx hb dX0_init_22 rfl (lv_at hl 0 rfl) ?_
  refine lv_bipush (v := 6) hx hb dX0_init_23 (by decide) ?_
  refine lv_icmp_ge (tgt := 41) hx hb dX0_init_25 (by decide) (fun hc => absurd hc (by decide)) (fun _ => ?_)
  refine lv_aload_n hx hb dX0_init_28 rfl (lv_at hl 1 rfl) ?_
  refine k_getr (c' := (k + 1)) hX hK hH ck0 (by omega) hs 0 1 fr0_0 (by simp [uR, zR, va_up, (show k ≠ k + 1 by omega), (show k ≠ k + 1 + 1 by omega)]) q1_35 dX0_init_29 ?_
  refine lv_iload_n hx hb dX0_init_32 rfl (lv_at hl 0 rfl) ?_
  refine lv_iload_n hx hb dX0_init_33 rfl (lv_at hl 0 rfl) ?_
  refine k_iast hX hK hH (by omega) (sf0_0 hs) (by unfold vp_in; decide) dX0_init_34 (fun H locs hH => ?_)
  refine lv_iinc (v := (1 : Int32)) (lv' := [(1, .int (1 : Int32)), (0, .ref (b + k))]) hx hb dX0_init_35 hl (k := 0) rfl (by decide) (by decide) rfl (fun ls hl => ?_)
  refine lv_goto (tgt := 22) hx hb dX0_init_38 (by decide) ?_
  refine lv_iload_n hx hb dX0_init_22 rfl (lv_at hl 0 rfl) ?_
  refine lv_bipush (v := 6) hx hb dX0_init_23 (by decide) ?_
  refine lv_icmp_ge (tgt := 41) hx hb dX0_init_25 (by decide) (fun hc => absurd hc (by decide)) (fun _ => ?_)
  refine lv_aload_n hx hb dX0_init_28 rfl (lv_at hl 1 rfl) ?_
  refine k_getr (c' := (k + 1)) hX hK hH ck0 (by omega) hs 0 1 fr0_0 (by simp [uR, zR, va_up, (show k ≠ k + 1 by omega), (show k ≠ k + 1 + 1 by omega)]) q1_35 dX0_init_29 ?_
  refine lv_iload_n hx hb dX0_init_32 rfl (lv_at hl 0 rfl) ?_
  refine lv_iload_n hx hb dX0_init_33 rfl (lv_at hl 0 rfl) ?_
  refine k_iast hX hK hH (by omega) (sf0_0 hs) (by unfold vp_in; decide) dX0_init_34 (fun H locs hH => ?_)
  refine lv_iinc (v := (2 : Int32)) (lv' := [(1, .int (2 : Int32)), (0, .ref (b + k))]) hx hb dX0_init_35 hl (k := 0) rfl (by decide) (by decide) rfl (fun ls hl => ?_)
  refine lv_goto (tgt := 22) hx hb dX0_init_38 (by decide) ?_
  refine lv_iload_n hx hb dX0_init_22 rfl (lv_at hl 0 rfl) ?_
  refine lv_bipush (v := 6) hx hb dX0_init_23 (by decide) ?_
  refine lv_icmp_ge (tgt := 41) hx hb dX0_init_25 (by decide) (fun hc => absurd hc (by decide)) (fun _ => ?_)
  refine lv_aload_n hx hb dX0_init_28 rfl (lv_at hl 1 rfl) ?_
  refine k_getr (c' := (k + 1)) hX hK hH ck0 (by omega) hs 0 1 fr0_0 (by simp [uR, zR, va_up, (show k ≠ k + 1 by omega), (show k ≠ k + 1 + 1 by omega)]) q1_35 dX0_init_29 ?_
  refine lv_iload_n hx hb dX0_init_32 rfl (lv_at hl 0 rfl) ?_
  refine lv_iload_n hx hb dX0_init_33 rfl (lv_at hl 0 rfl) ?_
  refine k_iast hX hK hH (by omega) (sf0_0 hs) (by unfold vp_in; decide) dX0_init_34 (fun H locs hH => ?_)
  refine lv_iinc (v := (3 : Int32)) (lv' := [(1, .int (3 : Int32)), (0, .ref (b + k))]) hx hb dX0_init_35 hl (k := 0) rfl (by decide) (by decide) rfl (fun ls hl => ?_)
  refine lv_goto (tgt := 22) hx hb dX0_init_38 (by decide) ?_
  refine lv_iload_n hx hb dX0_init_22 rfl (lv_at hl 0 rfl) ?_
  refine lv_bipush (v := 6) hx hb dX0_init_23 (by decide) ?_
  refine lv_icmp_ge (tgt := 41) hx hb dX0_init_25 (by decide) (fun hc => absurd hc (by decide)) (fun _ => ?_)
  refine lv_aload_n hx hb dX0_init_28 rfl (lv_at hl 1 rfl) ?_
  refine k_getr (c' := (k + 1)) hX hK hH ck0 (by omega) hs 0 1 fr0_0 (by simp [uR, zR, va_up, (show k ≠ k + 1 by omega), (show k ≠ k + 1 + 1 by omega)]) q1_35 dX0_init_29 ?_
  refine lv_iload_n hx hb dX0_init_32 rfl (lv_at hl 0 rfl) ?_
  refine lv_iload_n hx hb dX0_init_33 rfl (lv_at hl 0 rfl) ?_
  refine k_iast hX hK hH (by omega) (sf0_0 hs) (by unfold vp_in; decide) dX0_init_34 (fun H locs hH => ?_)
  refine lv_iinc (v := (4 : Int32)) (lv' := [(1, .int (4 : Int32)), (0, .ref (b + k))]) hx hb dX0_init_35 hl (k := 0) rfl (by decide) (by decide) rfl (fun ls hl => ?_)
  refine lv_goto (tgt := 22) hx hb dX0_init_38 (by decide) ?_
  refine lv_iload_n hx hb dX0_init_22 rfl (lv_at hl 0 rfl) ?_
  refine lv_bipush (v := 6) hx hb dX0_init_23 (by decide) ?_
  refine lv_icmp_ge (tgt := 41) hx hb dX0_init_25 (by decide) (fun hc => absurd hc (by decide)) (fun _ => ?_)
  refine lv_aload_n hx hb dX0_init_28 rfl (lv_at hl 1 rfl) ?_
  refine k_getr (c' := (k + 1)) hX hK hH ck0 (by omega) hs 0 1 fr0_0 (by simp [uR, zR, va_up, (show k ≠ k + 1 by omega), (show k ≠ k + 1 + 1 by omega)]) q1_35 dX0_init_29 ?_
  refine lv_iload_n hx hb dX0_init_32 rfl (lv_at hl 0 rfl) ?_
  refine lv_iload_n hx hb dX0_init_33 rfl (lv_at hl 0 rfl) ?_
  refine k_iast hX hK hH (by omega) (sf0_0 hs) (by unfold vp_in; decide) dX0_init_34 (fun H locs hH => ?_)
  refine lv_iinc (v := (5 : Int32)) (lv' := [(1, .int (5 : Int32)), (0, .ref (b + k))]) hx hb dX0_init_35 hl (k := 0) rfl (by decide) (by decide) rfl (fun ls hl => ?_)
  refine lv_goto (tgt := 22) hx hb dX0_init_38 (by decide) ?_
  refine lv_iload_n hx hb dX0_init_22 rfl (lv_at hl 0 rfl) ?_
  refine lv_bipush (v := 6) hx hb dX0_init_23 (by decide) ?_
  refine lv_icmp_ge (tgt := 41) hx hb dX0_init_25 (by decide) (fun hc => absurd hc (by decide)) (fun _ => ?_)
  refine lv_aload_n hx hb dX0_init_28 rfl (lv_at hl 1 rfl) ?_
  refine k_getr (c' := (k + 1)) hX hK hH ck0 (by omega) hs 0 1 fr0_0 (by simp [uR, zR, va_up, (show k ≠ k + 1 by omega), (show k ≠ k + 1 + 1 by omega)]) q1_35 dX0_init_29 ?_
  refine lv_iload_n hx hb dX0_init_32 rfl (lv_at hl 0 rfl) ?_
  refine lv_iload_n hx hb dX0_init_33 rfl (lv_at hl 0 rfl) ?_
  refine k_iast hX hK hH (by omega) (sf0_0 hs) (by unfold vp_in; decide) dX0_init_34 (fun H locs hH => ?_)
  refine lv_iinc (v := (6 : Int32)) (lv' := [(1, .int (6 : Int32)), (0, .ref (b + k))]) hx hb dX0_init_35 hl (k := 0) rfl (by decide) (by decide) rfl (fun ls hl => ?_)
  refine lv_goto (tgt := 22) hx hb dX0_init_38 (by decide) ?_
  refine lv_iload_n hx hb dX0_init_22 rfl (lv_at hl 0 rfl) ?_
  refine lv_bipush (v := 6) hx hb dX0_init_23 (by decide) ?_
  refine lv_icmp_ge (tgt := 41) hx hb dX0_init_25 (by decide) (fun _ => ?_) (fun hc => absurd (show (6 : Int32) ≤ (6 : Int32) by decide) hc)
  exact k_end hX hr hlk hH dX0_init_41
def kI_X1 (k : Nat) (I : wI) : wI := (wU (wU (wU (wU (wU (wU (wU (wU (wU (wU (zI (zI I (k + 1)) (k + 2)) (k + 1) ((0 : Int32)).toNatClampNeg ((((1 : Int32) <<< ((0 : Int32) &&& 31)) ||| ((1 : Int32) <<< ((((0 : Int32) + (1 : Int32)) - ((0 : Int32) + (1 : Int32)) / (6 : Int32) * (6 : Int32)) &&& 31))) ||| ((1 : Int32) <<< ((((0 : Int32) + (3 : Int32)) - ((0 : Int32) + (3 : Int32)) / (6 : Int32) * (6 : Int32)) &&& 31)))) (k + 2) ((0 : Int32)).toNatClampNeg ((1 : Int32) + ((0 : Int32) - (0 : Int32) / (4 : Int32) * (4 : Int32)))) (k + 1) ((1 : Int32)).toNatClampNeg ((((1 : Int32) <<< ((1 : Int32) &&& 31)) ||| ((1 : Int32) <<< ((((1 : Int32) + (1 : Int32)) - ((1 : Int32) + (1 : Int32)) / (6 : Int32) * (6 : Int32)) &&& 31))) ||| ((1 : Int32) <<< ((((1 : Int32) + (3 : Int32)) - ((1 : Int32) + (3 : Int32)) / (6 : Int32) * (6 : Int32)) &&& 31)))) (k + 2) ((1 : Int32)).toNatClampNeg ((1 : Int32) + ((1 : Int32) - (1 : Int32) / (4 : Int32) * (4 : Int32)))) (k + 1) ((2 : Int32)).toNatClampNeg ((((1 : Int32) <<< ((2 : Int32) &&& 31)) ||| ((1 : Int32) <<< ((((2 : Int32) + (1 : Int32)) - ((2 : Int32) + (1 : Int32)) / (6 : Int32) * (6 : Int32)) &&& 31))) ||| ((1 : Int32) <<< ((((2 : Int32) + (3 : Int32)) - ((2 : Int32) + (3 : Int32)) / (6 : Int32) * (6 : Int32)) &&& 31)))) (k + 2) ((2 : Int32)).toNatClampNeg ((1 : Int32) + ((2 : Int32) - (2 : Int32) / (4 : Int32) * (4 : Int32)))) (k + 1) ((3 : Int32)).toNatClampNeg ((((1 : Int32) <<< ((3 : Int32) &&& 31)) ||| ((1 : Int32) <<< ((((3 : Int32) + (1 : Int32)) - ((3 : Int32) + (1 : Int32)) / (6 : Int32) * (6 : Int32)) &&& 31))) ||| ((1 : Int32) <<< ((((3 : Int32) + (3 : Int32)) - ((3 : Int32) + (3 : Int32)) / (6 : Int32) * (6 : Int32)) &&& 31)))) (k + 2) ((3 : Int32)).toNatClampNeg ((1 : Int32) + ((3 : Int32) - (3 : Int32) / (4 : Int32) * (4 : Int32)))) (k + 1) ((4 : Int32)).toNatClampNeg ((((1 : Int32) <<< ((4 : Int32) &&& 31)) ||| ((1 : Int32) <<< ((((4 : Int32) + (1 : Int32)) - ((4 : Int32) + (1 : Int32)) / (6 : Int32) * (6 : Int32)) &&& 31))) ||| ((1 : Int32) <<< ((((4 : Int32) + (3 : Int32)) - ((4 : Int32) + (3 : Int32)) / (6 : Int32) * (6 : Int32)) &&& 31)))) (k + 2) ((4 : Int32)).toNatClampNeg ((1 : Int32) + ((4 : Int32) - (4 : Int32) / (4 : Int32) * (4 : Int32))))
def kR_X1 (k : Nat) (R : wR) : wR := (uR (zR (uR (zR R (k + 1)) k 0 (some (k + 1))) (k + 2)) k 1 (some (k + 2)))
abbrev rm_X1_init : Room := { frames := 1, cells := 2, slots := 10, locals := 12 }
theorem hd_X1_init : yX1_init.cls = RX1 ∧ yX1_init.cls ≠ "java/lang/invoke/MethodHandle" ∧ yX1_init.cls ≠ "java/lang/invoke/VarHandle" ∧ (parseMethodDescriptor yX1_init.desc).map (fun d => d.parameters.length) = some 0 := by decide +kernel
set_option maxRecDepth 100000 in
set_option maxHeartbeats 4000000 in
theorem c_X1_init {l : Launch} {D : va_G} {cs : wC4} {ad : Nat → Nat} {b : Nat} {k : Nat} (hs : wSh k = (0, 1)) (I : wI) (R : wR) : Met l yX1_init (ws_ yX1_init cX1_init 2 none) rm_X1_init (va_Pc [.ref (b + k)] (wPk D cs ad b (k + 1) I R)) (kPost D cs b (k + 3) (kI_X1 k I) (kR_X1 k R)) 2 10 (fun q => b ≤ q) := by
  refine k_met (by decide) (Nat.le_of_ble_eq_true rfl) ?_
  intro p e s m below meth c hX hr hlk hnm hK hE hO hH ls hl
  have hX : CallFix p m c cX1_init 2 s _ lw_all RX1 := hX
  have hnm : meth.name = "<init>" := hnm
  have hx := hX.1
  have hb := hX.2.1
  have hl : lv_has ls 2 [(0, .ref (b + k))] := hl
  refine lv_aload_n hx hb dX1_init_0 rfl (lv_at hl 0 rfl) ?_
  refine k_init0 hX q1_48 q1_21 q1_22 hl.1 ⟨Nat.le_of_ble_eq_true rfl, Nat.le_of_ble_eq_true rfl⟩ dX1_init_1 ?_
  refine lv_aload_n hx hb dX1_init_4 rfl (lv_at hl 0 rfl) ?_
  refine lv_iconst (v := 5) hx hb dX1_init_5 (by decide) ?_
  refine k_newa hX hK hH ⟨by decide, by decide, by decide⟩ (sf1_0 hs) q1_42 ⟨Nat.le_of_ble_eq_true rfl, Nat.le_of_ble_eq_true rfl⟩ dX1_init_6 (fun H hH => ?_)
  refine k_putr hX hK hH ck1 (by omega) hs hnm rfl 0 1 ⟨fr1_0.1, fr1_0.2, rfl, fun _ => ⟨rfl, rfl⟩⟩ q1_49 dX1_init_8 (fun H locs hH => ?_)
  refine lv_aload_n hx hb dX1_init_11 rfl (lv_at hl 0 rfl) ?_
  refine lv_iconst (v := 5) hx hb dX1_init_12 (by decide) ?_
  refine k_newa hX hK hH ⟨by decide, by decide, by decide⟩ (sf1_1 hs) q1_42 ⟨Nat.le_of_ble_eq_true rfl, Nat.le_of_ble_eq_true rfl⟩ dX1_init_13 (fun H hH => ?_)
  refine k_putr hX hK hH ck1 (by omega) hs hnm rfl 1 2 ⟨fr1_1.1, fr1_1.2, rfl, fun _ => ⟨rfl, rfl⟩⟩ q1_50 dX1_init_15 (fun H locs hH => ?_)
  refine lv_iconst (v := 0) hx hb dX1_init_18 (by decide) ?_
  refine lv_istore_n (lv' := [(1, .int (0 : Int32)), (0, .ref (b + k))]) hx hb dX1_init_19 rfl hl (by decide) rfl (fun ls hl => ?_)
  refine lv_iload_n hx hb dX1_init_20 rfl (lv_at hl 0 rfl) ?_
  refine lv_iconst (v := 5) hx hb dX1_init_21 (by decide) ?_
  refine lv_icmp_ge (tgt := 69) hx hb dX1_init_22 (by decide) (fun hc => absurd hc (by decide)) (fun _ => ?_)
  refine lv_aload_n hx hb dX1_init_25 rfl (lv_at hl 1 rfl) ?_
  refine k_getr (c' := (k + 1)) hX hK hH ck1 (by omega) hs 0 1 fr1_0 (by simp [uR, zR, va_up, (show k ≠ k + 1 by omega), (show k ≠ k + 1 + 1 by omega)]) q1_49 dX1_init_26 ?_
  refine lv_iload_n hx hb dX1_init_29 rfl (lv_at hl 0 rfl) ?_
  refine lv_iconst (v := 1) hx hb dX1_init_30 (by decide) ?_
  refine lv_iload_n hx hb dX1_init_31 rfl (lv_at hl 0 rfl) ?_
  refine lv_ishl hx hb dX1_init_32 ?_
  refine lv_iconst (v := 1) hx hb dX1_init_33 (by decide) ?_
  refine lv_iload_n hx hb dX1_init_34 rfl (lv_at hl 0 rfl) ?_
  refine lv_iconst (v := 1) hx hb dX1_init_35 (by decide) ?_
  refine lv_iadd hx hb dX1_init_36 ?_
  refine lv_bipush (v := 6) hx hb dX1_init_37 (by decide) ?_
  refine lv_irem hx hb dX1_init_39 (by decide) ?_
  refine lv_ishl hx hb dX1_init_40 ?_
  refine lv_ior hx hb dX1_init_41 ?_
  refine lv_iconst (v := 1) hx hb dX1_init_42 (by decide) ?_
  refine lv_iload_n hx hb dX1_init_43 rfl (lv_at hl 0 rfl) ?_
  refine lv_iconst (v := 3) hx hb dX1_init_44 (by decide) ?_
  refine lv_iadd hx hb dX1_init_45 ?_
  refine lv_bipush (v := 6) hx hb dX1_init_46 (by decide) ?_
  refine lv_irem hx hb dX1_init_48 (by decide) ?_
  refine lv_ishl hx hb dX1_init_49 ?_
  refine lv_ior hx hb dX1_init_50 ?_
  refine k_iast hX hK hH (by omega) (sf1_0 hs) (by unfold vp_in; decide) dX1_init_51 (fun H locs hH => ?_)
  refine lv_aload_n hx hb dX1_init_52 rfl (lv_at hl 1 rfl) ?_
  refine k_getr (c' := (k + 2)) hX hK hH ck1 (by omega) hs 1 2 fr1_1 (by simp [uR, zR, va_up, (show k ≠ k + 1 by omega), (show k ≠ k + 1 + 1 by omega)]) q1_50 dX1_init_53 ?_
  refine lv_iload_n hx hb dX1_init_56 rfl (lv_at hl 0 rfl) ?_
  refine lv_iconst (v := 1) hx hb dX1_init_57 (by decide) ?_
  refine lv_iload_n hx hb dX1_init_58 rfl (lv_at hl 0 rfl) ?_
  refine lv_iconst (v := 4) hx hb dX1_init_59 (by decide) ?_
  refine lv_irem hx hb dX1_init_60 (by decide) ?_
  refine lv_iadd hx hb dX1_init_61 ?_
  refine k_iast hX hK hH (by omega) (sf1_1 hs) (by unfold vp_in; decide) dX1_init_62 (fun H locs hH => ?_)
  refine lv_iinc (v := (1 : Int32)) (lv' := [(1, .int (1 : Int32)), (0, .ref (b + k))]) hx hb dX1_init_63 hl (k := 0) rfl (by decide) (by decide) rfl (fun ls hl => ?_)
  refine lv_goto (tgt := 20) hx hb dX1_init_66 (by decide) ?_
  refine lv_iload_n hx hb dX1_init_20 rfl (lv_at hl 0 rfl) ?_
  refine lv_iconst (v := 5) hx hb dX1_init_21 (by decide) ?_
  refine lv_icmp_ge (tgt := 69) hx hb dX1_init_22 (by decide) (fun hc => absurd hc (by decide)) (fun _ => ?_)
  refine lv_aload_n hx hb dX1_init_25 rfl (lv_at hl 1 rfl) ?_
  refine k_getr (c' := (k + 1)) hX hK hH ck1 (by omega) hs 0 1 fr1_0 (by simp [uR, zR, va_up, (show k ≠ k + 1 by omega), (show k ≠ k + 1 + 1 by omega)]) q1_49 dX1_init_26 ?_
  refine lv_iload_n hx hb dX1_init_29 rfl (lv_at hl 0 rfl) ?_
  refine lv_iconst (v := 1) hx hb dX1_init_30 (by decide) ?_
  refine lv_iload_n hx hb dX1_init_31 rfl (lv_at hl 0 rfl) ?_
  refine lv_ishl hx hb dX1_init_32 ?_
  refine lv_iconst (v := 1) hx hb dX1_init_33 (by decide) ?_
  refine lv_iload_n hx hb dX1_init_34 rfl (lv_at hl 0 rfl) ?_
  refine lv_iconst (v := 1) hx hb dX1_init_35 (by decide) ?_
  refine lv_iadd hx hb dX1_init_36 ?_
  refine lv_bipush (v := 6) hx hb dX1_init_37 (by decide) ?_
  refine lv_irem hx hb dX1_init_39 (by decide) ?_
  refine lv_ishl hx hb dX1_init_40 ?_
  refine lv_ior hx hb dX1_init_41 ?_
  refine lv_iconst (v := 1) hx hb dX1_init_42 (by decide) ?_
  refine lv_iload_n hx hb dX1_init_43 rfl (lv_at hl 0 rfl) ?_
  refine lv_iconst (v := 3) hx hb dX1_init_44 (by decide) ?_
  refine lv_iadd hx hb dX1_init_45 ?_
  refine lv_bipush (v := 6) hx hb dX1_init_46 (by decide) ?_
  refine lv_irem hx hb dX1_init_48 (by decide) ?_
  refine lv_ishl hx hb dX1_init_49 ?_
  refine lv_ior hx hb dX1_init_50 ?_
  refine k_iast hX hK hH (by omega) (sf1_0 hs) (by unfold vp_in; decide) dX1_init_51 (fun H locs hH => ?_)
  refine lv_aload_n hx hb dX1_init_52 rfl (lv_at hl 1 rfl) ?_
  refine k_getr (c' := (k + 2)) hX hK hH ck1 (by omega) hs 1 2 fr1_1 (by simp [uR, zR, va_up, (show k ≠ k + 1 by omega), (show k ≠ k + 1 + 1 by omega)]) q1_50 dX1_init_53 ?_
  refine lv_iload_n hx hb dX1_init_56 rfl (lv_at hl 0 rfl) ?_
  refine lv_iconst (v := 1) hx hb dX1_init_57 (by decide) ?_
  refine lv_iload_n hx hb dX1_init_58 rfl (lv_at hl 0 rfl) ?_
  refine lv_iconst (v := 4) hx hb dX1_init_59 (by decide) ?_
  refine lv_irem hx hb dX1_init_60 (by decide) ?_
  refine lv_iadd hx hb dX1_init_61 ?_
  refine k_iast hX hK hH (by omega) (sf1_1 hs) (by unfold vp_in; decide) dX1_init_62 (fun H locs hH => ?_)
  refine lv_iinc (v := (2 : Int32)) (lv' := [(1, .int (2 : Int32)), (0, .ref (b + k))]) hx hb dX1_init_63 hl (k := 0) rfl (by decide) (by decide) rfl (fun ls hl => ?_)
  refine lv_goto (tgt := 20) hx hb dX1_init_66 (by decide) ?_
  refine lv_iload_n hx hb dX1_init_20 rfl (lv_at hl 0 rfl) ?_
  refine lv_iconst (v := 5) hx hb dX1_init_21 (by decide) ?_
  refine lv_icmp_ge (tgt := 69) hx hb dX1_init_22 (by decide) (fun hc => absurd hc (by decide)) (fun _ => ?_)
  refine lv_aload_n hx hb dX1_init_25 rfl (lv_at hl 1 rfl) ?_
  refine k_getr (c' := (k + 1)) hX hK hH ck1 (by omega) hs 0 1 fr1_0 (by simp [uR, zR, va_up, (show k ≠ k + 1 by omega), (show k ≠ k + 1 + 1 by omega)]) q1_49 dX1_init_26 ?_
  refine lv_iload_n hx hb dX1_init_29 rfl (lv_at hl 0 rfl) ?_
  refine lv_iconst (v := 1) hx hb dX1_init_30 (by decide) ?_
  refine lv_iload_n hx hb dX1_init_31 rfl (lv_at hl 0 rfl) ?_
  refine lv_ishl hx hb dX1_init_32 ?_
  refine lv_iconst (v := 1) hx hb dX1_init_33 (by decide) ?_
  refine lv_iload_n hx hb dX1_init_34 rfl (lv_at hl 0 rfl) ?_
  refine lv_iconst (v := 1) hx hb dX1_init_35 (by decide) ?_
  refine lv_iadd hx hb dX1_init_36 ?_
  refine lv_bipush (v := 6) hx hb dX1_init_37 (by decide) ?_
  refine lv_irem hx hb dX1_init_39 (by decide) ?_
  refine lv_ishl hx hb dX1_init_40 ?_
  refine lv_ior hx hb dX1_init_41 ?_
  refine lv_iconst (v := 1) hx hb dX1_init_42 (by decide) ?_
  refine lv_iload_n hx hb dX1_init_43 rfl (lv_at hl 0 rfl) ?_
  refine lv_iconst (v := 3) hx hb dX1_init_44 (by decide) ?_
  refine lv_iadd hx hb dX1_init_45 ?_
  refine lv_bipush (v := 6) hx hb dX1_init_46 (by decide) ?_
  refine lv_irem hx hb dX1_init_48 (by decide) ?_
  refine lv_ishl hx hb dX1_init_49 ?_
  refine lv_ior hx hb dX1_init_50 ?_
  refine k_iast hX hK hH (by omega) (sf1_0 hs) (by unfold vp_in; decide) dX1_init_51 (fun H locs hH => ?_)
  refine lv_aload_n hx hb dX1_init_52 rfl (lv_at hl 1 rfl) ?_
  refine k_getr (c' := (k + 2)) hX hK hH ck1 (by omega) hs 1 2 fr1_1 (by simp [uR, zR, va_up, (show k ≠ k + 1 by omega), (show k ≠ k + 1 + 1 by omega)]) q1_50 dX1_init_53 ?_
  refine lv_iload_n hx hb dX1_init_56 rfl (lv_at hl 0 rfl) ?_
  refine lv_iconst (v := 1) hx hb dX1_init_57 (by decide) ?_
  refine lv_iload_n hx hb dX1_init_58 rfl (lv_at hl 0 rfl) ?_
  refine lv_iconst (v := 4) hx hb dX1_init_59 (by decide) ?_
  refine lv_irem hx hb dX1_init_60 (by decide) ?_
  refine lv_iadd hx hb dX1_init_61 ?_
  refine k_iast hX hK hH (by omega) (sf1_1 hs) (by unfold vp_in; decide) dX1_init_62 (fun H locs hH => ?_)
  refine lv_iinc (v := (3 : Int32)) (lv' := [(1, .int (3 : Int32)), (0, .ref (b + k))]) hx hb dX1_init_63 hl (k := 0) rfl (by decide) (by decide) rfl (fun ls hl => ?_)
  refine lv_goto (tgt := 20) hx hb dX1_init_66 (by decide) ?_
  refine lv_iload_n hx hb dX1_init_20 rfl (lv_at hl 0 rfl) ?_
  refine lv_iconst (v := 5) hx hb dX1_init_21 (by decide) ?_
  refine lv_icmp_ge (tgt := 69) hx hb dX1_init_22 (by decide) (fun hc => absurd hc (by decide)) (fun _ => ?_)
  refine lv_aload_n hx hb dX1_init_25 rfl (lv_at hl 1 rfl) ?_
  refine k_getr (c' := (k + 1)) hX hK hH ck1 (by omega) hs 0 1 fr1_0 (by simp [uR, zR, va_up, (show k ≠ k + 1 by omega), (show k ≠ k + 1 + 1 by omega)]) q1_49 dX1_init_26 ?_
  refine lv_iload_n hx hb dX1_init_29 rfl (lv_at hl 0 rfl) ?_
  refine lv_iconst (v := 1) hx hb dX1_init_30 (by decide) ?_
  refine lv_iload_n hx hb dX1_init_31 rfl (lv_at hl 0 rfl) ?_
  refine lv_ishl hx hb dX1_init_32 ?_
  refine lv_iconst (v := 1) hx hb dX1_init_33 (by decide) ?_
  refine lv_iload_n hx hb dX1_init_34 rfl (lv_at hl 0 rfl) ?_
  refine lv_iconst (v := 1) hx hb dX1_init_35 (by decide) ?_
  refine lv_iadd hx hb dX1_init_36 ?_
  refine lv_bipush (v := 6) hx hb dX1_init_37 (by decide) ?_
  refine lv_irem hx hb dX1_init_39 (by decide) ?_
  refine lv_ishl hx hb dX1_init_40 ?_
  refine lv_ior hx hb dX1_init_41 ?_
  refine lv_iconst (v := 1) hx hb dX1_init_42 (by decide) ?_
  refine lv_iload_n hx hb dX1_init_43 rfl (lv_at hl 0 rfl) ?_
  refine lv_iconst (v := 3) hx hb dX1_init_44 (by decide) ?_
  refine lv_iadd hx hb dX1_init_45 ?_
  refine lv_bipush (v := 6) hx hb dX1_init_46 (by decide) ?_
  refine lv_irem hx hb dX1_init_48 (by decide) ?_
  refine lv_ishl hx hb dX1_init_49 ?_
  refine lv_ior hx hb dX1_init_50 ?_
  refine k_iast hX hK hH (by omega) (sf1_0 hs) (by unfold vp_in; decide) dX1_init_51 (fun H locs hH => ?_)
  refine lv_aload_n hx hb dX1_init_52 rfl (lv_at hl 1 rfl) ?_
  refine k_getr (c' := (k + 2)) hX hK hH ck1 (by omega) hs 1 2 fr1_1 (by simp [uR, zR, va_up, (show k ≠ k + 1 by omega), (show k ≠ k + 1 + 1 by omega)]) q1_50 dX1_init_53 ?_
  refine lv_iload_n hx hb dX1_init_56 rfl (lv_at hl 0 rfl) ?_
  refine lv_iconst (v := 1) hx hb dX1_init_57 (by decide) ?_
  refine lv_iload_n hx hb dX1_init_58 rfl (lv_at hl 0 rfl) ?_
  refine lv_iconst (v := 4) hx hb dX1_init_59 (by decide) ?_
  refine lv_irem hx hb dX1_init_60 (by decide) ?_
  refine lv_iadd hx hb dX1_init_61 ?_
  refine k_iast hX hK hH (by omega) (sf1_1 hs) (by unfold vp_in; decide) dX1_init_62 (fun H locs hH => ?_)
  refine lv_iinc (v := (4 : Int32)) (lv' := [(1, .int (4 : Int32)), (0, .ref (b + k))]) hx hb dX1_init_63 hl (k := 0) rfl (by decide) (by decide) rfl (fun ls hl => ?_)
  refine lv_goto (tgt := 20) hx hb dX1_init_66 (by decide) ?_
  refine lv_iload_n hx hb dX1_init_20 rfl (lv_at hl 0 rfl) ?_
  refine lv_iconst (v := 5) hx hb dX1_init_21 (by decide) ?_
  refine lv_icmp_ge (tgt := 69) hx hb dX1_init_22 (by decide) (fun hc => absurd hc (by decide)) (fun _ => ?_)
  refine lv_aload_n hx hb dX1_init_25 rfl (lv_at hl 1 rfl) ?_
  refine k_getr (c' := (k + 1)) hX hK hH ck1 (by omega) hs 0 1 fr1_0 (by simp [uR, zR, va_up, (show k ≠ k + 1 by omega), (show k ≠ k + 1 + 1 by omega)]) q1_49 dX1_init_26 ?_
  refine lv_iload_n hx hb dX1_init_29 rfl (lv_at hl 0 rfl) ?_
  refine lv_iconst (v := 1) hx hb dX1_init_30 (by decide) ?_
  refine lv_iload_n hx hb dX1_init_31 rfl (lv_at hl 0 rfl) ?_
  refine lv_ishl hx hb dX1_init_32 ?_
  refine lv_iconst (v := 1) hx hb dX1_init_33 (by decide) ?_
  refine lv_iload_n hx hb dX1_init_34 rfl (lv_at hl 0 rfl) ?_
  refine lv_iconst (v := 1) hx hb dX1_init_35 (by decide) ?_
  refine lv_iadd hx hb dX1_init_36 ?_
  refine lv_bipush (v := 6) hx hb dX1_init_37 (by decide) ?_
  refine lv_irem hx hb dX1_init_39 (by decide) ?_
  refine lv_ishl hx hb dX1_init_40 ?_
  refine lv_ior hx hb dX1_init_41 ?_
  refine lv_iconst (v := 1) hx hb dX1_init_42 (by decide) ?_
  refine lv_iload_n hx hb dX1_init_43 rfl (lv_at hl 0 rfl) ?_
  refine lv_iconst (v := 3) hx hb dX1_init_44 (by decide) ?_
  refine lv_iadd hx hb dX1_init_45 ?_
  refine lv_bipush (v := 6) hx hb dX1_init_46 (by decide) ?_
  refine lv_irem hx hb dX1_init_48 (by decide) ?_
  refine lv_ishl hx hb dX1_init_49 ?_
  refine lv_ior hx hb dX1_init_50 ?_
  refine k_iast hX hK hH (by omega) (sf1_0 hs) (by unfold vp_in; decide) dX1_init_51 (fun H locs hH => ?_)
  refine lv_aload_n hx hb dX1_init_52 rfl (lv_at hl 1 rfl) ?_
  refine k_getr (c' := (k + 2)) hX hK hH ck1 (by omega) hs 1 2 fr1_1 (by simp [uR, zR, va_up, (show k ≠ k + 1 by omega), (show k ≠ k + 1 + 1 by omega)]) q1_50 dX1_init_53 ?_
  refine lv_iload_n hx hb dX1_init_56 rfl (lv_at hl 0 rfl) ?_
  refine lv_iconst (v := 1) hx hb dX1_init_57 (by decide) ?_
  refine lv_iload_n hx hb dX1_init_58 rfl (lv_at hl 0 rfl) ?_
  refine lv_iconst (v := 4) hx hb dX1_init_59 (by decide) ?_
  refine lv_irem hx hb dX1_init_60 (by decide) ?_
  refine lv_iadd hx hb dX1_init_61 ?_
  refine k_iast hX hK hH (by omega) (sf1_1 hs) (by unfold vp_in; decide) dX1_init_62 (fun H locs hH => ?_)
  refine lv_iinc (v := (5 : Int32)) (lv' := [(1, .int (5 : Int32)), (0, .ref (b + k))]) hx hb dX1_init_63 hl (k := 0) rfl (by decide) (by decide) rfl (fun ls hl => ?_)
  refine lv_goto (tgt := 20) hx hb dX1_init_66 (by decide) ?_
  refine lv_iload_n hx hb dX1_init_20 rfl (lv_at hl 0 rfl) ?_
  refine lv_iconst (v := 5) hx hb dX1_init_21 (by decide) ?_
  refine lv_icmp_ge (tgt := 69) hx hb dX1_init_22 (by decide) (fun _ => ?_) (fun hc => absurd (show (5 : Int32) ≤ (5 : Int32) by decide) hc)
  exact k_end hX hr hlk hH dX1_init_69
def kI_X4 (k : Nat) (I : wI) : wI := (wU (wU (wU (zI (zI (zI (wU (wU (zI (wU (zI I (k + 1)) k 1 (0 : Int32)) (k + 2)) k 3 (0 : Int32)) k 4 (0 : Int32)) (k + 3)) (k + 4)) (k + 5)) k 8 (0 : Int32)) k 9 (0 : Int32)) k 10 (0 : Int32))
def kR_X4 (k : Nat) (R : wR) : wR := (uR (zR (uR (zR (uR (zR (uR (zR (uR (zR R (k + 1)) k 0 (some (k + 1))) (k + 2)) k 2 (some (k + 2))) (k + 3)) k 5 (some (k + 3))) (k + 4)) k 6 (some (k + 4))) (k + 5)) k 7 (some (k + 5)))
abbrev rm_X4_init : Room := { frames := 1, cells := 5, slots := 572, locals := 12 }
theorem hd_X4_init : yX4_init.cls = RX4 ∧ yX4_init.cls ≠ "java/lang/invoke/MethodHandle" ∧ yX4_init.cls ≠ "java/lang/invoke/VarHandle" ∧ (parseMethodDescriptor yX4_init.desc).map (fun d => d.parameters.length) = some 0 := by decide +kernel
set_option maxRecDepth 100000 in
set_option maxHeartbeats 4000000 in
theorem c_X4_init {l : Launch} {D : va_G} {cs : wC4} {ad : Nat → Nat} {b : Nat} {k : Nat} (hs : wSh k = (0, 4)) (I : wI) (R : wR) : Met l yX4_init (ws_ yX4_init cX4_init 1 none) rm_X4_init (va_Pc [.ref (b + k)] (wPk D cs ad b (k + 1) I R)) (kPost D cs b (k + 6) (kI_X4 k I) (kR_X4 k R)) 5 572 (fun q => b ≤ q) := by
  refine k_met (by decide) (Nat.le_of_ble_eq_true rfl) ?_
  intro p e s m below meth c hX hr hlk hnm hK hE hO hH ls hl
  have hX : CallFix p m c cX4_init 1 s _ lw_all RX4 := hX
  have hnm : meth.name = "<init>" := hnm
  have hx := hX.1
  have hb := hX.2.1
  have hl : lv_has ls 1 [(0, .ref (b + k))] := hl
  refine lv_aload_n hx hb dX4_init_0 rfl (lv_at hl 0 rfl) ?_
  refine k_init0 hX q1_102 q1_21 q1_22 hl.1 ⟨Nat.le_of_ble_eq_true rfl, Nat.le_of_ble_eq_true rfl⟩ dX4_init_1 ?_
  refine lv_aload_n hx hb dX4_init_4 rfl (lv_at hl 0 rfl) ?_
  refine lv_bipush (v := 60) hx hb dX4_init_5 (by decide) ?_
  refine k_newc hX hK hH ⟨by decide, by decide, by decide⟩ (sf4_0 hs) q1_137 ⟨Nat.le_of_ble_eq_true rfl, Nat.le_of_ble_eq_true rfl⟩ dX4_init_7 (fun H hH => ?_)
  refine k_putr hX hK hH ck4 (by omega) hs hnm rfl 0 1 ⟨fr4_0.1, fr4_0.2, rfl, fun _ => ⟨rfl, rfl⟩⟩ q1_103 dX4_init_9 (fun H locs hH => ?_)
  refine lv_aload_n hx hb dX4_init_12 rfl (lv_at hl 0 rfl) ?_
  refine lv_iconst (v := 0) hx hb dX4_init_13 (by decide) ?_
  refine k_puti hX hK hH ck4 (by omega) hs 1 ⟨fw4_1.1, fw4_1.2.1, fw4_1.2.2.1⟩ ⟨rfl, rfl⟩ q1_104 dX4_init_14 (fun H locs hH => ?_)
  refine lv_aload_n hx hb dX4_init_17 rfl (lv_at hl 0 rfl) ?_
  refine lv_sipush (v := 500) hx hb dX4_init_18 (by decide) ?_
  refine k_newa hX hK hH ⟨by decide, by decide, by decide⟩ (sf4_2 hs) q1_42 ⟨Nat.le_of_ble_eq_true rfl, Nat.le_of_ble_eq_true rfl⟩ dX4_init_21 (fun H hH => ?_)
  refine k_putr hX hK hH ck4 (by omega) hs hnm rfl 2 2 ⟨fr4_2.1, fr4_2.2, rfl, fun _ => ⟨rfl, rfl⟩⟩ q1_105 dX4_init_23 (fun H locs hH => ?_)
  refine lv_aload_n hx hb dX4_init_26 rfl (lv_at hl 0 rfl) ?_
  refine lv_iconst (v := 0) hx hb dX4_init_27 (by decide) ?_
  refine k_puti hX hK hH ck4 (by omega) hs 3 ⟨fw4_3.1, fw4_3.2.1, fw4_3.2.2.1⟩ ⟨rfl, rfl⟩ q1_106 dX4_init_28 (fun H locs hH => ?_)
  refine lv_aload_n hx hb dX4_init_31 rfl (lv_at hl 0 rfl) ?_
  refine lv_iconst (v := 0) hx hb dX4_init_32 (by decide) ?_
  refine k_puti hX hK hH ck4 (by omega) hs 4 ⟨fw4_4.1, fw4_4.2.1, fw4_4.2.2.1⟩ ⟨rfl, rfl⟩ q1_107 dX4_init_33 (fun H locs hH => ?_)
  refine lv_aload_n hx hb dX4_init_36 rfl (lv_at hl 0 rfl) ?_
  refine lv_iconst (v := 4) hx hb dX4_init_37 (by decide) ?_
  refine k_newa hX hK hH ⟨by decide, by decide, by decide⟩ (sf4_5 hs) q1_42 ⟨Nat.le_of_ble_eq_true rfl, Nat.le_of_ble_eq_true rfl⟩ dX4_init_38 (fun H hH => ?_)
  refine k_putr hX hK hH ck4 (by omega) hs hnm rfl 5 3 ⟨fr4_5.1, fr4_5.2, rfl, fun _ => ⟨rfl, rfl⟩⟩ q1_108 dX4_init_40 (fun H locs hH => ?_)
  refine lv_aload_n hx hb dX4_init_43 rfl (lv_at hl 0 rfl) ?_
  refine lv_iconst (v := 4) hx hb dX4_init_44 (by decide) ?_
  refine k_newa hX hK hH ⟨by decide, by decide, by decide⟩ (sf4_6 hs) q1_42 ⟨Nat.le_of_ble_eq_true rfl, Nat.le_of_ble_eq_true rfl⟩ dX4_init_45 (fun H hH => ?_)
  refine k_putr hX hK hH ck4 (by omega) hs hnm rfl 6 4 ⟨fr4_6.1, fr4_6.2, rfl, fun _ => ⟨rfl, rfl⟩⟩ q1_109 dX4_init_47 (fun H locs hH => ?_)
  refine lv_aload_n hx hb dX4_init_50 rfl (lv_at hl 0 rfl) ?_
  refine lv_iconst (v := 4) hx hb dX4_init_51 (by decide) ?_
  refine k_newa hX hK hH ⟨by decide, by decide, by decide⟩ (sf4_7 hs) q1_42 ⟨Nat.le_of_ble_eq_true rfl, Nat.le_of_ble_eq_true rfl⟩ dX4_init_52 (fun H hH => ?_)
  refine k_putr hX hK hH ck4 (by omega) hs hnm rfl 7 5 ⟨fr4_7.1, fr4_7.2, rfl, fun _ => ⟨rfl, rfl⟩⟩ q1_110 dX4_init_54 (fun H locs hH => ?_)
  refine lv_aload_n hx hb dX4_init_57 rfl (lv_at hl 0 rfl) ?_
  refine lv_iconst (v := 0) hx hb dX4_init_58 (by decide) ?_
  refine k_puti hX hK hH ck4 (by omega) hs 8 ⟨fw4_8.1, fw4_8.2.1, fw4_8.2.2.1⟩ ⟨rfl, rfl⟩ q1_111 dX4_init_59 (fun H locs hH => ?_)
  refine lv_aload_n hx hb dX4_init_62 rfl (lv_at hl 0 rfl) ?_
  refine lv_iconst (v := 0) hx hb dX4_init_63 (by decide) ?_
  refine k_puti hX hK hH ck4 (by omega) hs 9 ⟨fw4_9.1, fw4_9.2.1, fw4_9.2.2.1⟩ ⟨rfl, rfl⟩ q1_112 dX4_init_64 (fun H locs hH => ?_)
  refine lv_aload_n hx hb dX4_init_67 rfl (lv_at hl 0 rfl) ?_
  refine lv_iconst (v := 0) hx hb dX4_init_68 (by decide) ?_
  refine k_puti hX hK hH ck4 (by omega) hs 10 ⟨fw4_10.1, fw4_10.2.1, fw4_10.2.2.1⟩ ⟨rfl, rfl⟩ q1_113 dX4_init_69 (fun H locs hH => ?_)
  exact k_end hX hr hlk hH dX4_init_72
def kI_X2 (k : Nat) (I : wI) : wI := (wU (wU (kI_X0 (k + 6) (zI (kI_X0 (k + 3) (zI (wU (zI (zI I (k + 1)) (k + 2)) k 2 (0 : Int32)) (k + 3))) (k + 6))) k 5 (-1 : Int32)) k 6 (-1 : Int32))
def kR_X2 (k : Nat) (R : wR) : wR := (uR (kR_X0 (k + 6) (zR (uR (kR_X0 (k + 3) (zR (uR (zR (uR (zR R (k + 1)) k 0 (some (k + 1))) (k + 2)) k 1 (some (k + 2))) (k + 3))) k 3 (some (k + 3))) (k + 6))) k 4 (some (k + 6)))
abbrev rm_X2_init : Room := { frames := 2, cells := 8, slots := 250, locals := 33 }
theorem hd_X2_init : yX2_init.cls = RX2 ∧ yX2_init.cls ≠ "java/lang/invoke/MethodHandle" ∧ yX2_init.cls ≠ "java/lang/invoke/VarHandle" ∧ (parseMethodDescriptor yX2_init.desc).map (fun d => d.parameters.length) = some 0 := by decide +kernel
set_option maxRecDepth 100000 in
set_option maxHeartbeats 4000000 in
theorem c_X2_init {l : Launch} {D : va_G} {cs : wC4} {ad : Nat → Nat} {b : Nat} {k : Nat} (hs : wSh k = (0, 2)) (I : wI) (R : wR) : Met l yX2_init (ws_ yX2_init cX2_init 1 none) rm_X2_init (va_Pc [.ref (b + k)] (wPk D cs ad b (k + 1) I R)) (kPost D cs b (k + 9) (kI_X2 k I) (kR_X2 k R)) 8 250 (fun q => b ≤ q) := by
  refine k_met (by decide) (Nat.le_of_ble_eq_true rfl) ?_
  intro p e s m below meth c hX hr hlk hnm hK hE hO hH ls hl
  have hX : CallFix p m c cX2_init 1 s _ lw_all RX2 := hX
  have hnm : meth.name = "<init>" := hnm
  have hx := hX.1
  have hb := hX.2.1
  have hl : lv_has ls 1 [(0, .ref (b + k))] := hl
  refine lv_aload_n hx hb dX2_init_0 rfl (lv_at hl 0 rfl) ?_
  refine k_init0 hX q1_145 q1_21 q1_22 hl.1 ⟨Nat.le_of_ble_eq_true rfl, Nat.le_of_ble_eq_true rfl⟩ dX2_init_1 ?_
  refine lv_aload_n hx hb dX2_init_4 rfl (lv_at hl 0 rfl) ?_
  refine lv_bipush (v := 111) hx hb dX2_init_5 (by decide) ?_
  refine k_newa hX hK hH ⟨by decide, by decide, by decide⟩ (sf2_0 hs) q1_42 ⟨Nat.le_of_ble_eq_true rfl, Nat.le_of_ble_eq_true rfl⟩ dX2_init_7 (fun H hH => ?_)
  refine k_putr hX hK hH ck2 (by omega) hs hnm rfl 0 1 ⟨fr2_0.1, fr2_0.2, rfl, fun _ => ⟨rfl, rfl⟩⟩ q1_148 dX2_init_9 (fun H locs hH => ?_)
  refine lv_aload_n hx hb dX2_init_12 rfl (lv_at hl 0 rfl) ?_
  refine lv_bipush (v := 111) hx hb dX2_init_13 (by decide) ?_
  refine k_newa hX hK hH ⟨by decide, by decide, by decide⟩ (sf2_1 hs) q1_42 ⟨Nat.le_of_ble_eq_true rfl, Nat.le_of_ble_eq_true rfl⟩ dX2_init_15 (fun H hH => ?_)
  refine k_putr hX hK hH ck2 (by omega) hs hnm rfl 1 2 ⟨fr2_1.1, fr2_1.2, rfl, fun _ => ⟨rfl, rfl⟩⟩ q1_149 dX2_init_17 (fun H locs hH => ?_)
  refine lv_aload_n hx hb dX2_init_20 rfl (lv_at hl 0 rfl) ?_
  refine lv_iconst (v := 0) hx hb dX2_init_21 (by decide) ?_
  refine k_puti hX hK hH ck2 (by omega) hs 2 ⟨fw2_2.1, fw2_2.2.1, fw2_2.2.2.1⟩ ⟨rfl, rfl⟩ q1_150 dX2_init_22 (fun H locs hH => ?_)
  refine lv_aload_n hx hb dX2_init_25 rfl (lv_at hl 0 rfl) ?_
  refine k_new hX hK hH ck0 df0 (sf2_3 hs) q1_146 q1_30 q1_3 ⟨Nat.le_of_ble_eq_true rfl, Nat.le_of_ble_eq_true rfl⟩ dX2_init_26 (fun H hH => ?_)
  refine lv_dup hx hb dX2_init_29 rfl ?_
  refine k_call hH (k_rI (rest := [.ref (b + (k + 3)), .ref (b + k)]) hX hK hE hO hH (c_X0_init (sf2_3 hs) _ _) q1_147 q1_32 q1_3 q1_33 rfl hd_X0_init.2 ⟨Nat.le_of_ble_eq_true rfl, Nat.le_of_ble_eq_true rfl⟩ ⟨rfl, rfl⟩ hl.1 rfl (Nat.le_of_ble_eq_true rfl) dX2_init_30 ⟨Nat.le_of_ble_eq_true rfl, Nat.le_of_ble_eq_true rfl⟩) (fun H locs hH => ?_)
  refine k_putr hX hK hH ck2 (by omega) hs hnm rfl 3 3 ⟨fr2_3.1, fr2_3.2, rfl, fun _ => ⟨rfl, rfl⟩⟩ q1_151 dX2_init_33 (fun H locs hH => ?_)
  refine lv_aload_n hx hb dX2_init_36 rfl (lv_at hl 0 rfl) ?_
  refine k_new hX hK hH ck0 df0 (sf2_4 hs) q1_146 q1_30 q1_3 ⟨Nat.le_of_ble_eq_true rfl, Nat.le_of_ble_eq_true rfl⟩ dX2_init_37 (fun H hH => ?_)
  refine lv_dup hx hb dX2_init_40 rfl ?_
  refine k_call hH (k_rI (rest := [.ref (b + (k + 6)), .ref (b + k)]) hX hK hE hO hH (c_X0_init (sf2_4 hs) _ _) q1_147 q1_32 q1_3 q1_33 rfl hd_X0_init.2 ⟨Nat.le_of_ble_eq_true rfl, Nat.le_of_ble_eq_true rfl⟩ ⟨rfl, rfl⟩ hl.1 rfl (Nat.le_of_ble_eq_true rfl) dX2_init_41 ⟨Nat.le_of_ble_eq_true rfl, Nat.le_of_ble_eq_true rfl⟩) (fun H locs hH => ?_)
  refine k_putr hX hK hH ck2 (by omega) hs hnm rfl 4 6 ⟨fr2_4.1, fr2_4.2, rfl, fun _ => ⟨rfl, rfl⟩⟩ q1_152 dX2_init_44 (fun H locs hH => ?_)
  refine lv_aload_n hx hb dX2_init_47 rfl (lv_at hl 0 rfl) ?_
  refine lv_iconst (v := -1) hx hb dX2_init_48 (by decide) ?_
  refine k_puti hX hK hH ck2 (by omega) hs 5 ⟨fw2_5.1, fw2_5.2.1, fw2_5.2.2.1⟩ ⟨rfl, rfl⟩ q1_153 dX2_init_49 (fun H locs hH => ?_)
  refine lv_aload_n hx hb dX2_init_52 rfl (lv_at hl 0 rfl) ?_
  refine lv_iconst (v := -1) hx hb dX2_init_53 (by decide) ?_
  refine k_puti hX hK hH ck2 (by omega) hs 6 ⟨fw2_6.1, fw2_6.2.1, fw2_6.2.2.1⟩ ⟨rfl, rfl⟩ q1_155 dX2_init_54 (fun H locs hH => ?_)
  exact k_end hX hr hlk hH dX2_init_57
def kI_X3 (k : Nat) (I : wI) : wI := (wU (wU (wU (zI (wU (wU (kI_X0 (k + 7) (zI (kI_X1 (k + 4) (zI (kI_X0 (k + 1) (zI I (k + 1))) (k + 4))) (k + 7))) k 3 (0 : Int32)) k 4 (0 : Int32)) (k + 10)) k 6 (0 : Int32)) k 7 (0 : Int32)) k 8 (0 : Int32))
def kR_X3 (k : Nat) (R : wR) : wR := (uR (zR (uR (kR_X0 (k + 7) (zR (uR (kR_X1 (k + 4) (zR (uR (kR_X0 (k + 1) (zR R (k + 1))) k 0 (some (k + 1))) (k + 4))) k 1 (some (k + 4))) (k + 7))) k 2 (some (k + 7))) (k + 10)) k 5 (some (k + 10)))
abbrev rm_X3_init : Room := { frames := 2, cells := 10, slots := 45, locals := 33 }
theorem hd_X3_init : yX3_init.cls = RX3 ∧ yX3_init.cls ≠ "java/lang/invoke/MethodHandle" ∧ yX3_init.cls ≠ "java/lang/invoke/VarHandle" ∧ (parseMethodDescriptor yX3_init.desc).map (fun d => d.parameters.length) = some 0 := by decide +kernel
set_option maxRecDepth 100000 in
set_option maxHeartbeats 4000000 in
theorem c_X3_init {l : Launch} {D : va_G} {cs : wC4} {ad : Nat → Nat} {b : Nat} {k : Nat} (hs : wSh k = (0, 3)) (I : wI) (R : wR) : Met l yX3_init (ws_ yX3_init cX3_init 1 none) rm_X3_init (va_Pc [.ref (b + k)] (wPk D cs ad b (k + 1) I R)) (kPost D cs b (k + 11) (kI_X3 k I) (kR_X3 k R)) 10 45 (fun q => b ≤ q) := by
  refine k_met (by decide) (Nat.le_of_ble_eq_true rfl) ?_
  intro p e s m below meth c hX hr hlk hnm hK hE hO hH ls hl
  have hX : CallFix p m c cX3_init 1 s _ lw_all RX3 := hX
  have hnm : meth.name = "<init>" := hnm
  have hx := hX.1
  have hb := hX.2.1
  have hl : lv_has ls 1 [(0, .ref (b + k))] := hl
  refine lv_aload_n hx hb dX3_init_0 rfl (lv_at hl 0 rfl) ?_
  refine k_init0 hX q1_28 q1_21 q1_22 hl.1 ⟨Nat.le_of_ble_eq_true rfl, Nat.le_of_ble_eq_true rfl⟩ dX3_init_1 ?_
  refine lv_aload_n hx hb dX3_init_4 rfl (lv_at hl 0 rfl) ?_
  refine k_new hX hK hH ck0 df0 (sf3_0 hs) q1_29 q1_30 q1_3 ⟨Nat.le_of_ble_eq_true rfl, Nat.le_of_ble_eq_true rfl⟩ dX3_init_5 (fun H hH => ?_)
  refine lv_dup hx hb dX3_init_8 rfl ?_
  refine k_call hH (k_rI (rest := [.ref (b + (k + 1)), .ref (b + k)]) hX hK hE hO hH (c_X0_init (sf3_0 hs) _ _) q1_31 q1_32 q1_3 q1_33 rfl hd_X0_init.2 ⟨Nat.le_of_ble_eq_true rfl, Nat.le_of_ble_eq_true rfl⟩ ⟨rfl, rfl⟩ hl.1 rfl (Nat.le_of_ble_eq_true rfl) dX3_init_9 ⟨Nat.le_of_ble_eq_true rfl, Nat.le_of_ble_eq_true rfl⟩) (fun H locs hH => ?_)
  refine k_putr hX hK hH ck3 (by omega) hs hnm rfl 0 1 ⟨fr3_0.1, fr3_0.2, rfl, fun _ => ⟨rfl, rfl⟩⟩ q1_56 dX3_init_12 (fun H locs hH => ?_)
  refine lv_aload_n hx hb dX3_init_15 rfl (lv_at hl 0 rfl) ?_
  refine k_new hX hK hH ck1 df1 (sf3_1 hs) q1_43 q1_44 q1_4 ⟨Nat.le_of_ble_eq_true rfl, Nat.le_of_ble_eq_true rfl⟩ dX3_init_16 (fun H hH => ?_)
  refine lv_dup hx hb dX3_init_19 rfl ?_
  refine k_call hH (k_rI (rest := [.ref (b + (k + 4)), .ref (b + k)]) hX hK hE hO hH (c_X1_init (sf3_1 hs) _ _) q1_45 q1_46 q1_4 q1_47 rfl hd_X1_init.2 ⟨Nat.le_of_ble_eq_true rfl, Nat.le_of_ble_eq_true rfl⟩ ⟨rfl, rfl⟩ hl.1 rfl (Nat.le_of_ble_eq_true rfl) dX3_init_20 ⟨Nat.le_of_ble_eq_true rfl, Nat.le_of_ble_eq_true rfl⟩) (fun H locs hH => ?_)
  refine k_putr hX hK hH ck3 (by omega) hs hnm rfl 1 4 ⟨fr3_1.1, fr3_1.2, rfl, fun _ => ⟨rfl, rfl⟩⟩ q1_59 dX3_init_23 (fun H locs hH => ?_)
  refine lv_aload_n hx hb dX3_init_26 rfl (lv_at hl 0 rfl) ?_
  refine k_new hX hK hH ck0 df0 (sf3_2 hs) q1_29 q1_30 q1_3 ⟨Nat.le_of_ble_eq_true rfl, Nat.le_of_ble_eq_true rfl⟩ dX3_init_27 (fun H hH => ?_)
  refine lv_dup hx hb dX3_init_30 rfl ?_
  refine k_call hH (k_rI (rest := [.ref (b + (k + 7)), .ref (b + k)]) hX hK hE hO hH (c_X0_init (sf3_2 hs) _ _) q1_31 q1_32 q1_3 q1_33 rfl hd_X0_init.2 ⟨Nat.le_of_ble_eq_true rfl, Nat.le_of_ble_eq_true rfl⟩ ⟨rfl, rfl⟩ hl.1 rfl (Nat.le_of_ble_eq_true rfl) dX3_init_31 ⟨Nat.le_of_ble_eq_true rfl, Nat.le_of_ble_eq_true rfl⟩) (fun H locs hH => ?_)
  refine k_putr hX hK hH ck3 (by omega) hs hnm rfl 2 7 ⟨fr3_2.1, fr3_2.2, rfl, fun _ => ⟨rfl, rfl⟩⟩ q1_62 dX3_init_34 (fun H locs hH => ?_)
  refine lv_aload_n hx hb dX3_init_37 rfl (lv_at hl 0 rfl) ?_
  refine lv_iconst (v := 0) hx hb dX3_init_38 (by decide) ?_
  refine k_puti hX hK hH ck3 (by omega) hs 3 ⟨fw3_3.1, fw3_3.2.1, fw3_3.2.2.1⟩ ⟨rfl, rfl⟩ q1_65 dX3_init_39 (fun H locs hH => ?_)
  refine lv_aload_n hx hb dX3_init_42 rfl (lv_at hl 0 rfl) ?_
  refine lv_iconst (v := 0) hx hb dX3_init_43 (by decide) ?_
  refine k_puti hX hK hH ck3 (by omega) hs 4 ⟨fw3_4.1, fw3_4.2.1, fw3_4.2.2.1⟩ ⟨rfl, rfl⟩ q1_68 dX3_init_44 (fun H locs hH => ?_)
  refine lv_aload_n hx hb dX3_init_47 rfl (lv_at hl 0 rfl) ?_
  refine lv_iconst (v := 5) hx hb dX3_init_48 (by decide) ?_
  refine k_newa hX hK hH ⟨by decide, by decide, by decide⟩ (sf3_5 hs) q1_42 ⟨Nat.le_of_ble_eq_true rfl, Nat.le_of_ble_eq_true rfl⟩ dX3_init_49 (fun H hH => ?_)
  refine k_putr hX hK hH ck3 (by omega) hs hnm rfl 5 10 ⟨fr3_5.1, fr3_5.2, rfl, fun _ => ⟨rfl, rfl⟩⟩ q1_70 dX3_init_51 (fun H locs hH => ?_)
  refine lv_aload_n hx hb dX3_init_54 rfl (lv_at hl 0 rfl) ?_
  refine lv_iconst (v := 0) hx hb dX3_init_55 (by decide) ?_
  refine k_puti hX hK hH ck3 (by omega) hs 6 ⟨fw3_6.1, fw3_6.2.1, fw3_6.2.2.1⟩ ⟨rfl, rfl⟩ q1_71 dX3_init_56 (fun H locs hH => ?_)
  refine lv_aload_n hx hb dX3_init_59 rfl (lv_at hl 0 rfl) ?_
  refine lv_iconst (v := 0) hx hb dX3_init_60 (by decide) ?_
  refine k_puti hX hK hH ck3 (by omega) hs 7 ⟨fw3_7.1, fw3_7.2.1, fw3_7.2.2.1⟩ ⟨rfl, rfl⟩ q1_73 dX3_init_61 (fun H locs hH => ?_)
  refine lv_aload_n hx hb dX3_init_64 rfl (lv_at hl 0 rfl) ?_
  refine lv_iconst (v := 0) hx hb dX3_init_65 (by decide) ?_
  refine k_puti hX hK hH ck3 (by omega) hs 8 ⟨fw3_8.1, fw3_8.2.1, fw3_8.2.2.1⟩ ⟨rfl, rfl⟩ q1_75 dX3_init_66 (fun H locs hH => ?_)
  exact k_end hX hr hlk hH dX3_init_69
def kI_X5 (_k : Nat) (I : wI) : wI := (kI_X3 100 (zI (kI_X3 89 (zI (kI_X3 78 (zI (kI_X3 67 (zI (kI_X3 56 (zI (kI_X3 45 (zI (kI_X2 36 (zI (kI_X0 33 (zI (kI_X0 30 (zI (kI_X4 24 (zI (wU (zI (wU (kI_X3 12 (zI (kI_X3 1 (zI I 1)) 12)) 0 2 (0 : Int32)) 23) 0 4 (0 : Int32)) 24)) 30)) 33)) 36)) 45)) 56)) 67)) 78)) 89)) 100))
def kR_X5 (_k : Nat) (R : wR) : wR := (uR (kR_X3 100 (zR (uR (kR_X3 89 (zR (uR (kR_X3 78 (zR (uR (kR_X3 67 (zR (uR (kR_X3 56 (zR (uR (kR_X3 45 (zR (uR (kR_X2 36 (zR (uR (kR_X0 33 (zR (uR (kR_X0 30 (zR (uR (kR_X4 24 (zR (uR (zR (uR (kR_X3 12 (zR (uR (kR_X3 1 (zR R 1)) 0 0 (some 1)) 12)) 0 1 (some 12)) 23) 0 3 (some 23)) 24)) 0 5 (some 24)) 30)) 0 6 (some 30)) 33)) 0 7 (some 33)) 36)) 0 8 (some 36)) 45)) 23 ((0 : Int32)).toNatClampNeg (some 45)) 56)) 23 ((1 : Int32)).toNatClampNeg (some 56)) 67)) 23 ((2 : Int32)).toNatClampNeg (some 67)) 78)) 23 ((3 : Int32)).toNatClampNeg (some 78)) 89)) 23 ((4 : Int32)).toNatClampNeg (some 89)) 100)) 23 ((5 : Int32)).toNatClampNeg (some 100))
abbrev rm_X5_init : Room := { frames := 3, cells := 110, slots := 1306, locals := 53 }
theorem hd_X5_init : yX5_init.cls = RX5 ∧ yX5_init.cls ≠ "java/lang/invoke/MethodHandle" ∧ yX5_init.cls ≠ "java/lang/invoke/VarHandle" ∧ (parseMethodDescriptor yX5_init.desc).map (fun d => d.parameters.length) = some 0 := by decide +kernel
set_option maxRecDepth 100000 in
set_option maxHeartbeats 4000000 in
theorem c_X5_init {l : Launch} {D : va_G} {cs : wC4} {ad : Nat → Nat} {b : Nat} (I : wI) (R : wR) : Met l yX5_init (ws_ yX5_init cX5_init 2 none) rm_X5_init (va_Pc [.ref (b + 0)] (wPk D cs ad b (0 + 1) I R)) (kPost D cs b 111 (kI_X5 0 I) (kR_X5 0 R)) 110 1306 (fun q => b ≤ q) := by
  refine k_met (by decide) (Nat.le_of_ble_eq_true rfl) ?_
  intro p e s m below meth c hX hr hlk hnm hK hE hO hH ls hl
  have hX : CallFix p m c cX5_init 2 s _ lw_all RX5 := hX
  have hnm : meth.name = "<init>" := hnm
  have hx := hX.1
  have hb := hX.2.1
  have hl : lv_has ls 2 [(0, .ref (b + 0))] := hl
  refine lv_aload_n hx hb dX5_init_0 rfl (lv_at hl 0 rfl) ?_
  refine k_init0 hX q1_20 q1_21 q1_22 hl.1 ⟨Nat.le_of_ble_eq_true rfl, Nat.le_of_ble_eq_true rfl⟩ dX5_init_1 ?_
  refine lv_aload_n hx hb dX5_init_4 rfl (lv_at hl 0 rfl) ?_
  refine k_new hX hK hH ck3 df3 (sf5_0 sh0) q1_23 q1_24 q1_2 ⟨Nat.le_of_ble_eq_true rfl, Nat.le_of_ble_eq_true rfl⟩ dX5_init_5 (fun H hH => ?_)
  refine lv_dup hx hb dX5_init_8 rfl ?_
  refine k_call hH (k_rIN (rest := [.ref (b + 1), .ref (b + 0)]) hX hK hE hO hH (c_X3_init (sf5_0 sh0) _ _) qn1_25 q1_26 q1_2 q1_27 rfl hd_X3_init.2 ⟨Nat.le_of_ble_eq_true rfl, Nat.le_of_ble_eq_true rfl⟩ ⟨rfl, rfl⟩ hl.1 rfl (Nat.le_of_ble_eq_true rfl) dX5_init_9 ⟨Nat.le_of_ble_eq_true rfl, Nat.le_of_ble_eq_true rfl⟩) (fun H locs hH => ?_)
  refine k_putr hX hK hH ck5 (by omega) sh0 hnm rfl 0 1 ⟨fr5_0.1, fr5_0.2, rfl, fun _ => ⟨rfl, rfl⟩⟩ q1_172 dX5_init_12 (fun H locs hH => ?_)
  refine lv_aload_n hx hb dX5_init_15 rfl (lv_at hl 0 rfl) ?_
  refine k_new hX hK hH ck3 df3 (sf5_1 sh0) q1_23 q1_24 q1_2 ⟨Nat.le_of_ble_eq_true rfl, Nat.le_of_ble_eq_true rfl⟩ dX5_init_16 (fun H hH => ?_)
  refine lv_dup hx hb dX5_init_19 rfl ?_
  refine k_call hH (k_rIN (rest := [.ref (b + 12), .ref (b + 0)]) hX hK hE hO hH (c_X3_init (sf5_1 sh0) _ _) qn1_25 q1_26 q1_2 q1_27 rfl hd_X3_init.2 ⟨Nat.le_of_ble_eq_true rfl, Nat.le_of_ble_eq_true rfl⟩ ⟨rfl, rfl⟩ hl.1 rfl (Nat.le_of_ble_eq_true rfl) dX5_init_20 ⟨Nat.le_of_ble_eq_true rfl, Nat.le_of_ble_eq_true rfl⟩) (fun H locs hH => ?_)
  refine k_putr hX hK hH ck5 (by omega) sh0 hnm rfl 1 12 ⟨fr5_1.1, fr5_1.2, rfl, fun _ => ⟨rfl, rfl⟩⟩ q1_173 dX5_init_23 (fun H locs hH => ?_)
  refine lv_aload_n hx hb dX5_init_26 rfl (lv_at hl 0 rfl) ?_
  refine lv_iconst (v := 0) hx hb dX5_init_27 (by decide) ?_
  refine k_puti hX hK hH ck5 (by omega) sh0 2 ⟨fw5_2.1, fw5_2.2.1, fw5_2.2.2.1⟩ ⟨rfl, rfl⟩ q1_174 dX5_init_28 (fun H locs hH => ?_)
  refine lv_aload_n hx hb dX5_init_31 rfl (lv_at hl 0 rfl) ?_
  refine lv_bipush (v := 6) hx hb dX5_init_32 (by decide) ?_
  refine k_news hX hK hO hH ⟨by decide, by decide, by decide⟩ (sf5_3 sh0) q1_23 ⟨Nat.le_of_ble_eq_true rfl, Nat.le_of_ble_eq_true rfl⟩ dX5_init_34 (fun H hH => ?_)
  refine k_putr hX hK hH ck5 (by omega) sh0 hnm rfl 3 23 ⟨fr5_3.1, fr5_3.2, rfl, fun _ => ⟨rfl, rfl⟩⟩ q1_175 dX5_init_37 (fun H locs hH => ?_)
  refine lv_aload_n hx hb dX5_init_40 rfl (lv_at hl 0 rfl) ?_
  refine lv_iconst (v := 0) hx hb dX5_init_41 (by decide) ?_
  refine k_puti hX hK hH ck5 (by omega) sh0 4 ⟨fw5_4.1, fw5_4.2.1, fw5_4.2.2.1⟩ ⟨rfl, rfl⟩ q1_176 dX5_init_42 (fun H locs hH => ?_)
  refine lv_aload_n hx hb dX5_init_45 rfl (lv_at hl 0 rfl) ?_
  refine k_new hX hK hH ck4 df4 (sf5_5 sh0) q1_97 q1_98 q1_5 ⟨Nat.le_of_ble_eq_true rfl, Nat.le_of_ble_eq_true rfl⟩ dX5_init_46 (fun H hH => ?_)
  refine lv_dup hx hb dX5_init_49 rfl ?_
  refine k_call hH (k_rIN (rest := [.ref (b + 24), .ref (b + 0)]) hX hK hE hO hH (c_X4_init (sf5_5 sh0) _ _) qn1_99 q1_100 q1_5 q1_101 rfl hd_X4_init.2 ⟨Nat.le_of_ble_eq_true rfl, Nat.le_of_ble_eq_true rfl⟩ ⟨rfl, rfl⟩ hl.1 rfl (Nat.le_of_ble_eq_true rfl) dX5_init_50 ⟨Nat.le_of_ble_eq_true rfl, Nat.le_of_ble_eq_true rfl⟩) (fun H locs hH => ?_)
  refine k_putr hX hK hH ck5 (by omega) sh0 hnm rfl 5 24 ⟨fr5_5.1, fr5_5.2, rfl, fun _ => ⟨rfl, rfl⟩⟩ q1_177 dX5_init_53 (fun H locs hH => ?_)
  refine lv_aload_n hx hb dX5_init_56 rfl (lv_at hl 0 rfl) ?_
  refine k_new hX hK hH ck0 df0 (sf5_6 sh0) q1_138 q1_30 q1_3 ⟨Nat.le_of_ble_eq_true rfl, Nat.le_of_ble_eq_true rfl⟩ dX5_init_57 (fun H hH => ?_)
  refine lv_dup hx hb dX5_init_60 rfl ?_
  refine k_call hH (k_rI (rest := [.ref (b + 30), .ref (b + 0)]) hX hK hE hO hH (c_X0_init (sf5_6 sh0) _ _) q1_139 q1_32 q1_3 q1_33 rfl hd_X0_init.2 ⟨Nat.le_of_ble_eq_true rfl, Nat.le_of_ble_eq_true rfl⟩ ⟨rfl, rfl⟩ hl.1 rfl (Nat.le_of_ble_eq_true rfl) dX5_init_61 ⟨Nat.le_of_ble_eq_true rfl, Nat.le_of_ble_eq_true rfl⟩) (fun H locs hH => ?_)
  refine k_putr hX hK hH ck5 (by omega) sh0 hnm rfl 6 30 ⟨fr5_6.1, fr5_6.2, rfl, fun _ => ⟨rfl, rfl⟩⟩ q1_178 dX5_init_64 (fun H locs hH => ?_)
  refine lv_aload_n hx hb dX5_init_67 rfl (lv_at hl 0 rfl) ?_
  refine k_new hX hK hH ck0 df0 (sf5_7 sh0) q1_138 q1_30 q1_3 ⟨Nat.le_of_ble_eq_true rfl, Nat.le_of_ble_eq_true rfl⟩ dX5_init_68 (fun H hH => ?_)
  refine lv_dup hx hb dX5_init_71 rfl ?_
  refine k_call hH (k_rI (rest := [.ref (b + 33), .ref (b + 0)]) hX hK hE hO hH (c_X0_init (sf5_7 sh0) _ _) q1_139 q1_32 q1_3 q1_33 rfl hd_X0_init.2 ⟨Nat.le_of_ble_eq_true rfl, Nat.le_of_ble_eq_true rfl⟩ ⟨rfl, rfl⟩ hl.1 rfl (Nat.le_of_ble_eq_true rfl) dX5_init_72 ⟨Nat.le_of_ble_eq_true rfl, Nat.le_of_ble_eq_true rfl⟩) (fun H locs hH => ?_)
  refine k_putr hX hK hH ck5 (by omega) sh0 hnm rfl 7 33 ⟨fr5_7.1, fr5_7.2, rfl, fun _ => ⟨rfl, rfl⟩⟩ q1_179 dX5_init_75 (fun H locs hH => ?_)
  refine lv_aload_n hx hb dX5_init_78 rfl (lv_at hl 0 rfl) ?_
  refine k_new hX hK hH ck2 df2 (sf5_8 sh0) q1_140 q1_141 q1_6 ⟨Nat.le_of_ble_eq_true rfl, Nat.le_of_ble_eq_true rfl⟩ dX5_init_79 (fun H hH => ?_)
  refine lv_dup hx hb dX5_init_82 rfl ?_
  refine k_call hH (k_rIN (rest := [.ref (b + 36), .ref (b + 0)]) hX hK hE hO hH (c_X2_init (sf5_8 sh0) _ _) qn1_142 q1_143 q1_6 q1_144 rfl hd_X2_init.2 ⟨Nat.le_of_ble_eq_true rfl, Nat.le_of_ble_eq_true rfl⟩ ⟨rfl, rfl⟩ hl.1 rfl (Nat.le_of_ble_eq_true rfl) dX5_init_83 ⟨Nat.le_of_ble_eq_true rfl, Nat.le_of_ble_eq_true rfl⟩) (fun H locs hH => ?_)
  refine k_putr hX hK hH ck5 (by omega) sh0 hnm rfl 8 36 ⟨fr5_8.1, fr5_8.2, rfl, fun _ => ⟨rfl, rfl⟩⟩ q1_180 dX5_init_86 (fun H locs hH => ?_)
  refine lv_iconst (v := 0) hx hb dX5_init_89 (by decide) ?_
  refine lv_istore_n (lv' := [(1, .int (0 : Int32)), (0, .ref (b + 0))]) hx hb dX5_init_90 rfl hl (by decide) rfl (fun ls hl => ?_)
  refine lv_iload_n hx hb dX5_init_91 rfl (lv_at hl 0 rfl) ?_
  refine lv_bipush (v := 6) hx hb dX5_init_92 (by decide) ?_
  refine lv_icmp_ge (tgt := 116) hx hb dX5_init_94 (by decide) (fun hc => absurd hc (by decide)) (fun _ => ?_)
  refine lv_aload_n hx hb dX5_init_97 rfl (lv_at hl 1 rfl) ?_
  refine k_getr (c' := 23) hX hK hH ck5 (by omega) sh0 3 23 fr5_3 rfl q1_175 dX5_init_98 ?_
  refine lv_iload_n hx hb dX5_init_101 rfl (lv_at hl 0 rfl) ?_
  refine k_new hX hK hH ck3 df3 (rfl : wSh 45 = _) q1_23 q1_24 q1_2 ⟨Nat.le_of_ble_eq_true rfl, Nat.le_of_ble_eq_true rfl⟩ dX5_init_102 (fun H hH => ?_)
  refine lv_dup hx hb dX5_init_105 rfl ?_
  refine k_call hH (k_rIN (rest := [.ref (b + 45), .int (0 : Int32), .ref (b + 23)]) hX hK hE hO hH (c_X3_init (rfl : wSh 45 = _) _ _) qn1_25 q1_26 q1_2 q1_27 rfl hd_X3_init.2 ⟨Nat.le_of_ble_eq_true rfl, Nat.le_of_ble_eq_true rfl⟩ ⟨rfl, rfl⟩ hl.1 rfl (Nat.le_of_ble_eq_true rfl) dX5_init_106 ⟨Nat.le_of_ble_eq_true rfl, Nat.le_of_ble_eq_true rfl⟩) (fun H locs hH => ?_)
  refine k_aast hX hK hH (by omega) (sf5_3 sh0) (by omega) (rfl : wSh 45 = _) (by unfold vp_in; decide) dX5_init_109 (fun H locs hH => ?_)
  refine lv_iinc (v := (1 : Int32)) (lv' := [(1, .int (1 : Int32)), (0, .ref (b + 0))]) hx hb dX5_init_110 hl (k := 0) rfl (by decide) (by decide) rfl (fun ls hl => ?_)
  refine lv_goto (tgt := 91) hx hb dX5_init_113 (by decide) ?_
  refine lv_iload_n hx hb dX5_init_91 rfl (lv_at hl 0 rfl) ?_
  refine lv_bipush (v := 6) hx hb dX5_init_92 (by decide) ?_
  refine lv_icmp_ge (tgt := 116) hx hb dX5_init_94 (by decide) (fun hc => absurd hc (by decide)) (fun _ => ?_)
  refine lv_aload_n hx hb dX5_init_97 rfl (lv_at hl 1 rfl) ?_
  refine k_getr (c' := 23) hX hK hH ck5 (by omega) sh0 3 23 fr5_3 rfl q1_175 dX5_init_98 ?_
  refine lv_iload_n hx hb dX5_init_101 rfl (lv_at hl 0 rfl) ?_
  refine k_new hX hK hH ck3 df3 (rfl : wSh 56 = _) q1_23 q1_24 q1_2 ⟨Nat.le_of_ble_eq_true rfl, Nat.le_of_ble_eq_true rfl⟩ dX5_init_102 (fun H hH => ?_)
  refine lv_dup hx hb dX5_init_105 rfl ?_
  refine k_call hH (k_rIN (rest := [.ref (b + 56), .int (1 : Int32), .ref (b + 23)]) hX hK hE hO hH (c_X3_init (rfl : wSh 56 = _) _ _) qn1_25 q1_26 q1_2 q1_27 rfl hd_X3_init.2 ⟨Nat.le_of_ble_eq_true rfl, Nat.le_of_ble_eq_true rfl⟩ ⟨rfl, rfl⟩ hl.1 rfl (Nat.le_of_ble_eq_true rfl) dX5_init_106 ⟨Nat.le_of_ble_eq_true rfl, Nat.le_of_ble_eq_true rfl⟩) (fun H locs hH => ?_)
  refine k_aast hX hK hH (by omega) (sf5_3 sh0) (by omega) (rfl : wSh 56 = _) (by unfold vp_in; decide) dX5_init_109 (fun H locs hH => ?_)
  refine lv_iinc (v := (2 : Int32)) (lv' := [(1, .int (2 : Int32)), (0, .ref (b + 0))]) hx hb dX5_init_110 hl (k := 0) rfl (by decide) (by decide) rfl (fun ls hl => ?_)
  refine lv_goto (tgt := 91) hx hb dX5_init_113 (by decide) ?_
  refine lv_iload_n hx hb dX5_init_91 rfl (lv_at hl 0 rfl) ?_
  refine lv_bipush (v := 6) hx hb dX5_init_92 (by decide) ?_
  refine lv_icmp_ge (tgt := 116) hx hb dX5_init_94 (by decide) (fun hc => absurd hc (by decide)) (fun _ => ?_)
  refine lv_aload_n hx hb dX5_init_97 rfl (lv_at hl 1 rfl) ?_
  refine k_getr (c' := 23) hX hK hH ck5 (by omega) sh0 3 23 fr5_3 rfl q1_175 dX5_init_98 ?_
  refine lv_iload_n hx hb dX5_init_101 rfl (lv_at hl 0 rfl) ?_
  refine k_new hX hK hH ck3 df3 (rfl : wSh 67 = _) q1_23 q1_24 q1_2 ⟨Nat.le_of_ble_eq_true rfl, Nat.le_of_ble_eq_true rfl⟩ dX5_init_102 (fun H hH => ?_)
  refine lv_dup hx hb dX5_init_105 rfl ?_
  refine k_call hH (k_rIN (rest := [.ref (b + 67), .int (2 : Int32), .ref (b + 23)]) hX hK hE hO hH (c_X3_init (rfl : wSh 67 = _) _ _) qn1_25 q1_26 q1_2 q1_27 rfl hd_X3_init.2 ⟨Nat.le_of_ble_eq_true rfl, Nat.le_of_ble_eq_true rfl⟩ ⟨rfl, rfl⟩ hl.1 rfl (Nat.le_of_ble_eq_true rfl) dX5_init_106 ⟨Nat.le_of_ble_eq_true rfl, Nat.le_of_ble_eq_true rfl⟩) (fun H locs hH => ?_)
  refine k_aast hX hK hH (by omega) (sf5_3 sh0) (by omega) (rfl : wSh 67 = _) (by unfold vp_in; decide) dX5_init_109 (fun H locs hH => ?_)
  refine lv_iinc (v := (3 : Int32)) (lv' := [(1, .int (3 : Int32)), (0, .ref (b + 0))]) hx hb dX5_init_110 hl (k := 0) rfl (by decide) (by decide) rfl (fun ls hl => ?_)
  refine lv_goto (tgt := 91) hx hb dX5_init_113 (by decide) ?_
  refine lv_iload_n hx hb dX5_init_91 rfl (lv_at hl 0 rfl) ?_
  refine lv_bipush (v := 6) hx hb dX5_init_92 (by decide) ?_
  refine lv_icmp_ge (tgt := 116) hx hb dX5_init_94 (by decide) (fun hc => absurd hc (by decide)) (fun _ => ?_)
  refine lv_aload_n hx hb dX5_init_97 rfl (lv_at hl 1 rfl) ?_
  refine k_getr (c' := 23) hX hK hH ck5 (by omega) sh0 3 23 fr5_3 rfl q1_175 dX5_init_98 ?_
  refine lv_iload_n hx hb dX5_init_101 rfl (lv_at hl 0 rfl) ?_
  refine k_new hX hK hH ck3 df3 (rfl : wSh 78 = _) q1_23 q1_24 q1_2 ⟨Nat.le_of_ble_eq_true rfl, Nat.le_of_ble_eq_true rfl⟩ dX5_init_102 (fun H hH => ?_)
  refine lv_dup hx hb dX5_init_105 rfl ?_
  refine k_call hH (k_rIN (rest := [.ref (b + 78), .int (3 : Int32), .ref (b + 23)]) hX hK hE hO hH (c_X3_init (rfl : wSh 78 = _) _ _) qn1_25 q1_26 q1_2 q1_27 rfl hd_X3_init.2 ⟨Nat.le_of_ble_eq_true rfl, Nat.le_of_ble_eq_true rfl⟩ ⟨rfl, rfl⟩ hl.1 rfl (Nat.le_of_ble_eq_true rfl) dX5_init_106 ⟨Nat.le_of_ble_eq_true rfl, Nat.le_of_ble_eq_true rfl⟩) (fun H locs hH => ?_)
  refine k_aast hX hK hH (by omega) (sf5_3 sh0) (by omega) (rfl : wSh 78 = _) (by unfold vp_in; decide) dX5_init_109 (fun H locs hH => ?_)
  refine lv_iinc (v := (4 : Int32)) (lv' := [(1, .int (4 : Int32)), (0, .ref (b + 0))]) hx hb dX5_init_110 hl (k := 0) rfl (by decide) (by decide) rfl (fun ls hl => ?_)
  refine lv_goto (tgt := 91) hx hb dX5_init_113 (by decide) ?_
  refine lv_iload_n hx hb dX5_init_91 rfl (lv_at hl 0 rfl) ?_
  refine lv_bipush (v := 6) hx hb dX5_init_92 (by decide) ?_
  refine lv_icmp_ge (tgt := 116) hx hb dX5_init_94 (by decide) (fun hc => absurd hc (by decide)) (fun _ => ?_)
  refine lv_aload_n hx hb dX5_init_97 rfl (lv_at hl 1 rfl) ?_
  refine k_getr (c' := 23) hX hK hH ck5 (by omega) sh0 3 23 fr5_3 rfl q1_175 dX5_init_98 ?_
  refine lv_iload_n hx hb dX5_init_101 rfl (lv_at hl 0 rfl) ?_
  refine k_new hX hK hH ck3 df3 (rfl : wSh 89 = _) q1_23 q1_24 q1_2 ⟨Nat.le_of_ble_eq_true rfl, Nat.le_of_ble_eq_true rfl⟩ dX5_init_102 (fun H hH => ?_)
  refine lv_dup hx hb dX5_init_105 rfl ?_
  refine k_call hH (k_rIN (rest := [.ref (b + 89), .int (4 : Int32), .ref (b + 23)]) hX hK hE hO hH (c_X3_init (rfl : wSh 89 = _) _ _) qn1_25 q1_26 q1_2 q1_27 rfl hd_X3_init.2 ⟨Nat.le_of_ble_eq_true rfl, Nat.le_of_ble_eq_true rfl⟩ ⟨rfl, rfl⟩ hl.1 rfl (Nat.le_of_ble_eq_true rfl) dX5_init_106 ⟨Nat.le_of_ble_eq_true rfl, Nat.le_of_ble_eq_true rfl⟩) (fun H locs hH => ?_)
  refine k_aast hX hK hH (by omega) (sf5_3 sh0) (by omega) (rfl : wSh 89 = _) (by unfold vp_in; decide) dX5_init_109 (fun H locs hH => ?_)
  refine lv_iinc (v := (5 : Int32)) (lv' := [(1, .int (5 : Int32)), (0, .ref (b + 0))]) hx hb dX5_init_110 hl (k := 0) rfl (by decide) (by decide) rfl (fun ls hl => ?_)
  refine lv_goto (tgt := 91) hx hb dX5_init_113 (by decide) ?_
  refine lv_iload_n hx hb dX5_init_91 rfl (lv_at hl 0 rfl) ?_
  refine lv_bipush (v := 6) hx hb dX5_init_92 (by decide) ?_
  refine lv_icmp_ge (tgt := 116) hx hb dX5_init_94 (by decide) (fun hc => absurd hc (by decide)) (fun _ => ?_)
  refine lv_aload_n hx hb dX5_init_97 rfl (lv_at hl 1 rfl) ?_
  refine k_getr (c' := 23) hX hK hH ck5 (by omega) sh0 3 23 fr5_3 rfl q1_175 dX5_init_98 ?_
  refine lv_iload_n hx hb dX5_init_101 rfl (lv_at hl 0 rfl) ?_
  refine k_new hX hK hH ck3 df3 (rfl : wSh 100 = _) q1_23 q1_24 q1_2 ⟨Nat.le_of_ble_eq_true rfl, Nat.le_of_ble_eq_true rfl⟩ dX5_init_102 (fun H hH => ?_)
  refine lv_dup hx hb dX5_init_105 rfl ?_
  refine k_call hH (k_rIN (rest := [.ref (b + 100), .int (5 : Int32), .ref (b + 23)]) hX hK hE hO hH (c_X3_init (rfl : wSh 100 = _) _ _) qn1_25 q1_26 q1_2 q1_27 rfl hd_X3_init.2 ⟨Nat.le_of_ble_eq_true rfl, Nat.le_of_ble_eq_true rfl⟩ ⟨rfl, rfl⟩ hl.1 rfl (Nat.le_of_ble_eq_true rfl) dX5_init_106 ⟨Nat.le_of_ble_eq_true rfl, Nat.le_of_ble_eq_true rfl⟩) (fun H locs hH => ?_)
  refine k_aast hX hK hH (by omega) (sf5_3 sh0) (by omega) (rfl : wSh 100 = _) (by unfold vp_in; decide) dX5_init_109 (fun H locs hH => ?_)
  refine lv_iinc (v := (6 : Int32)) (lv' := [(1, .int (6 : Int32)), (0, .ref (b + 0))]) hx hb dX5_init_110 hl (k := 0) rfl (by decide) (by decide) rfl (fun ls hl => ?_)
  refine lv_goto (tgt := 91) hx hb dX5_init_113 (by decide) ?_
  refine lv_iload_n hx hb dX5_init_91 rfl (lv_at hl 0 rfl) ?_
  refine lv_bipush (v := 6) hx hb dX5_init_92 (by decide) ?_
  refine lv_icmp_ge (tgt := 116) hx hb dX5_init_94 (by decide) (fun _ => ?_) (fun hc => absurd (show (6 : Int32) ≤ (6 : Int32) by decide) hc)
  exact k_end hX hr hlk hH dX5_init_116
