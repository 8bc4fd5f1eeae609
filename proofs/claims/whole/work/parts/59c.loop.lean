/-! ===== the law's loop ===== -/
theorem law_len {L i : Nat} (hL : L ≤ 2048) (hi : i ≤ 4096) : (Int32.ofNat L - 4 < nI i) ↔ L < i + 4 := by
  rw [show Int32.ofNat L = nI L from rfl]
  by_cases h : L < 4
  · have hn : nI L - 4 < 0 := by
      have : L = 0 ∨ L = 1 ∨ L = 2 ∨ L = 3 := by omega
      rcases this with rfl | rfl | rfl | rfl <;> decide
    exact ⟨fun _ => by omega, fun _ => Int32.lt_of_lt_of_le hn (Int32.not_lt.1 (nI_lt0 (by omega)))⟩
  · rw [l_4, i_sub (by omega), i_lt (by omega) (by omega)]; omega
theorem law_loop {p : Program} {l : Launch} {e : Env} {s : State} {m : MethodId} {below : List Frame} {meth : Method} {c : Code} {D : va_G} {cs : wC4} {ad : Nat → Nat} {b a0 L : Nat} {xs : Nat → Int32}
    (C0 : wLx p m c s a0 meth D cs ad b L xs) (hst : l.stackTraces = false) (hL : L ≤ 2048) : ∀ (n j : Nat), L ≤ 4 * j + 4 * n → j ≤ 512 → ∀ (I : wI) (G : wG) (H : Heap) (locs : List Loc) (ls : Array Slot), inv I → wH D cs b G I s H locs →
      lv_has ls 9 [(4, .int (nI (4 * j))), (3, .ref (b + 124)), (2, .ref (b + 111)), (1, .ref (b + 0)), (0, .ref a0)] → W p l e room_1 s m #[Value.ref a0] below meth c H locs (125 + j) (2370 + 6 * j) (lw_Z below #[Value.ref a0] s) (F0 m 23 ls []) := by
  intro n
  induction n with
  | zero =>
    intro j hj hj5 I G H locs ls hi hH hl
    obtain ⟨hX, hr, hlk, hK, hE, hN, hS0, ha0, hbb⟩ := id C0
    have hx := hX.1
    have hb := hX.2.1
    have hbA : ¬ (fun q : Nat => b ≤ q) a0 := by show ¬ b ≤ a0; rw [hbb]; exact Nat.not_le.mpr ha0
    refine lv_iload hx hb dL_law_23 (lv_at hl 0 rfl) ?_
    refine lv_aload_n hx hb dL_law_25 rfl (lv_at hl 4 rfl) ?_
    refine va_slen hx hb hS0 ha0 hbA hH.2 dL_law_26 ?_
    refine lv_iconst (v := 4) hx hb dL_law_27 (by decide) ?_
    refine lv_isub hx hb dL_law_28 ?_
    refine lv_icmp_gt (tgt := 1218) hx hb dL_law_29 (by decide) (fun hc9 => ?_) (fun hc9 => absurd ((law_len hL (by omega)).mpr (by omega)) hc9)
    refine lv_iconst (v := 1) hx hb dL_law_1218 (by decide) ?_
    refine va_forget (fun q hq => by rw [← hbb]; exact hH.2.2.2 q hq) ?_
    refine W.widen (k := 601024) (n := 7293034) (by omega) (by omega) ?_
    exact lw_ret (d0 := s.drawn) (Drawn.sameBut.refl s.drawn lw_cs) hx hb hr hlk dL_law_1219
  | succ n ih =>
    intro j hj hj5 I G H locs ls hi hH hl
    obtain ⟨hX, hr, hlk, hK, hE, hN, hS0, ha0, hbb⟩ := id C0
    have hx := hX.1
    have hb := hX.2.1
    have hbA : ¬ (fun q : Nat => b ≤ q) a0 := by show ¬ b ≤ a0; rw [hbb]; exact Nat.not_le.mpr ha0
    refine lv_iload hx hb dL_law_23 (lv_at hl 0 rfl) ?_
    refine lv_aload_n hx hb dL_law_25 rfl (lv_at hl 4 rfl) ?_
    refine va_slen hx hb hS0 ha0 hbA hH.2 dL_law_26 ?_
    refine lv_iconst (v := 4) hx hb dL_law_27 (by decide) ?_
    refine lv_isub hx hb dL_law_28 ?_
    refine lv_icmp_gt (tgt := 1218) hx hb dL_law_29 (by decide) (fun hc9 => ?_) (fun hc9 => ?_)
    · refine lv_iconst (v := 1) hx hb dL_law_1218 (by decide) ?_
      refine va_forget (fun q hq => by rw [← hbb]; exact hH.2.2.2 q hq) ?_
      refine W.widen (k := 601024) (n := 7293034) (by omega) (by omega) ?_
      exact lw_ret (d0 := s.drawn) (Drawn.sameBut.refl s.drawn lw_cs) hx hb hr hlk dL_law_1219
    · have hi4 : 4 * j + 4 ≤ L := by
        apply Decidable.byContradiction
        intro q
        exact hc9 ((law_len hL (by omega)).mpr (by omega))
      refine lv_aload_n hx hb dL_law_32 rfl (lv_at hl 4 rfl) ?_
      refine lv_iload hx hb dL_law_33 (lv_at hl 0 rfl) ?_
      refine va_sld hx hb hS0 ha0 hbA hH.2 (i_in (by omega) (by omega)) dL_law_35 ?_
      refine lv_bipush (v := 31) hx hb dL_law_36 (by decide) ?_
      refine lv_iand hx hb dL_law_38 ?_
      have K : ∀ (I2 : wI) (G2 : wG) (H : Heap) (locs : List Loc) (ls : Array Slot), inv I2 → wH D cs b G2 I2 s H locs → lv_has ls 9 [(4, .int (nI (4 * j))), (3, .ref (b + 124)), (2, .ref (b + 111)), (1, .ref (b + 0)), (0, .ref a0)] →
          W p l e room_1 s m #[Value.ref a0] below meth c H locs (125 + j + 1) (2370 + 6 * j + 6) (lw_Z below #[Value.ref a0] s) (F0 m 1212 ls []) := by
        intro I2 G2 H locs ls hi hH hl
        refine lv_iinc (v := nI (4 * (j + 1))) (lv' := [(4, .int (nI (4 * (j + 1)))), (3, .ref (b + 124)), (2, .ref (b + 111)), (1, .ref (b + 0)), (0, .ref a0)]) hx hb dL_law_1212 hl (k := 0) rfl ?_ (by decide) rfl (fun ls hl => ?_)
        · show nI (4 * j) + nI 4 = nI (4 * (j + 1))
          rw [i_add]; rfl
        · refine lv_goto (tgt := 23) hx hb dL_law_1215 (by decide) ?_
          have := ih (j + 1) (by omega) (by omega) I2 G2 H locs ls hi hH hl
          rw [show 2370 + 6 * (j + 1) = 2370 + 6 * j + 6 by omega, ← Nat.add_assoc] at this
          exact this
      have hc1 : 125 + j + 1 ≤ 601024 := by omega
      have hs1 : 2370 + 6 * j + 6 ≤ 7293034 := by omega
      generalize xs (nI (4 * j)).toNatClampNeg &&& (31 : Int32) = x
      by_cases hsw : x.toInt < 0 ∨ 23 < x.toInt
      · refine lv_tableOut (tgt := 1212) hx hb dL_law_39 hsw (by decide) ?_
        refine W.widen (k := 125 + j + 1) (n := 2370 + 6 * j + 6) (by omega) (by omega) ?_
        exact K I G _ _ _ hi hH hl
      · have hx0 : x.toInt = 0 ∨ x.toInt = 1 ∨ x.toInt = 2 ∨ x.toInt = 3 ∨ x.toInt = 4 ∨ x.toInt = 5 ∨ x.toInt = 6 ∨ x.toInt = 7 ∨ x.toInt = 8 ∨ x.toInt = 9 ∨ x.toInt = 10 ∨ x.toInt = 11 ∨ x.toInt = 12 ∨ x.toInt = 13 ∨ x.toInt = 14 ∨ x.toInt = 15 ∨ x.toInt = 16 ∨ x.toInt = 17 ∨ x.toInt = 18 ∨ x.toInt = 19 ∨ x.toInt = 20 ∨ x.toInt = 21 ∨ x.toInt = 22 ∨ x.toInt = 23 := by omega
        rcases hx0 with h | h | h | h | h | h | h | h | h | h | h | h | h | h | h | h | h | h | h | h | h | h | h | h
        · exact lv_tableIn (tgt := 148) hx hb dL_law_39 (by omega) (by omega) (by rw [h]; rfl) (by decide) (k_0 C0 hst hL hi4 hc1 hs1 K I G _ _ _ hi hH hl)
        · exact lv_tableIn (tgt := 204) hx hb dL_law_39 (by omega) (by omega) (by rw [h]; rfl) (by decide) (k_1 C0 hst hL hi4 hc1 hs1 K I G _ _ _ hi hH hl)
        · exact lv_tableIn (tgt := 260) hx hb dL_law_39 (by omega) (by omega) (by rw [h]; rfl) (by decide) (k_2 C0 hst hL hi4 hc1 hs1 K I G _ _ _ hi hH hl)
        · exact lv_tableIn (tgt := 304) hx hb dL_law_39 (by omega) (by omega) (by rw [h]; rfl) (by decide) (k_3 C0 hst hL hi4 hc1 hs1 K I G _ _ _ hi hH hl)
        · exact lv_tableIn (tgt := 317) hx hb dL_law_39 (by omega) (by omega) (by rw [h]; rfl) (by decide) (k_4 C0 hst hL hi4 hc1 hs1 K I G _ _ _ hi hH hl)
        · exact lv_tableIn (tgt := 397) hx hb dL_law_39 (by omega) (by omega) (by rw [h]; rfl) (by decide) (k_5 C0 hst hL hi4 hc1 hs1 K I G _ _ _ hi hH hl)
        · exact lv_tableIn (tgt := 453) hx hb dL_law_39 (by omega) (by omega) (by rw [h]; rfl) (by decide) (k_6 C0 hst hL hi4 hc1 hs1 K I G _ _ _ hi hH hl)
        · exact lv_tableIn (tgt := 466) hx hb dL_law_39 (by omega) (by omega) (by rw [h]; rfl) (by decide) (k_7 C0 hst hL hi4 hc1 hs1 K I G _ _ _ hi hH hl)
        · exact lv_tableIn (tgt := 522) hx hb dL_law_39 (by omega) (by omega) (by rw [h]; rfl) (by decide) (k_8 C0 hst hL hi4 hc1 hs1 K I G _ _ _ hi hH hl)
        · exact lv_tableIn (tgt := 535) hx hb dL_law_39 (by omega) (by omega) (by rw [h]; rfl) (by decide) (k_9 C0 hst hL hi4 hc1 hs1 K I G _ _ _ hi hH hl)
        · exact lv_tableIn (tgt := 548) hx hb dL_law_39 (by omega) (by omega) (by rw [h]; rfl) (by decide) (k_10 C0 hst hL hi4 hc1 hs1 K I G _ _ _ hi hH hl)
        · exact lv_tableIn (tgt := 561) hx hb dL_law_39 (by omega) (by omega) (by rw [h]; rfl) (by decide) (k_11 C0 hst hL hi4 hc1 hs1 K I G _ _ _ hi hH hl)
        · exact lv_tableIn (tgt := 605) hx hb dL_law_39 (by omega) (by omega) (by rw [h]; rfl) (by decide) (k_12 C0 hst hL hi4 hc1 hs1 K I G _ _ _ hi hH hl)
        · exact lv_tableIn (tgt := 649) hx hb dL_law_39 (by omega) (by omega) (by rw [h]; rfl) (by decide) (k_13 C0 hst hL hi4 hc1 hs1 K I G _ _ _ hi hH hl)
        · exact lv_tableIn (tgt := 717) hx hb dL_law_39 (by omega) (by omega) (by rw [h]; rfl) (by decide) (k_14 C0 hst hL hi4 hc1 hs1 K I G _ _ _ hi hH hl)
        · exact lv_tableIn (tgt := 785) hx hb dL_law_39 (by omega) (by omega) (by rw [h]; rfl) (by decide) (k_15 C0 hst hL hi4 hc1 hs1 K I G _ _ _ hi hH hl)
        · exact lv_tableIn (tgt := 865) hx hb dL_law_39 (by omega) (by omega) (by rw [h]; rfl) (by decide) (k_16 C0 hst hL hi4 hc1 hs1 K I G _ _ _ hi hH hl)
        · exact lv_tableIn (tgt := 921) hx hb dL_law_39 (by omega) (by omega) (by rw [h]; rfl) (by decide) (k_17 C0 hst hL hi4 hc1 hs1 K I G _ _ _ hi hH hl)
        · exact lv_tableIn (tgt := 977) hx hb dL_law_39 (by omega) (by omega) (by rw [h]; rfl) (by decide) (k_18 C0 hst hL hi4 hc1 hs1 K I G _ _ _ hi hH hl)
        · exact lv_tableIn (tgt := 1033) hx hb dL_law_39 (by omega) (by omega) (by rw [h]; rfl) (by decide) (k_19 C0 hst hL hi4 hc1 hs1 K I G _ _ _ hi hH hl)
        · exact lv_tableIn (tgt := 1101) hx hb dL_law_39 (by omega) (by omega) (by rw [h]; rfl) (by decide) (k_20 C0 hst hL hi4 hc1 hs1 K I G _ _ _ hi hH hl)
        · exact lv_tableIn (tgt := 1114) hx hb dL_law_39 (by omega) (by omega) (by rw [h]; rfl) (by decide) (k_21 C0 hst hL hi4 hc1 hs1 K I G _ _ _ hi hH hl)
        · exact lv_tableIn (tgt := 1155) hx hb dL_law_39 (by omega) (by omega) (by rw [h]; rfl) (by decide) (k_22 C0 hst hL hi4 hc1 hs1 K I G _ _ _ hi hH hl)
        · exact lv_tableIn (tgt := 1198) hx hb dL_law_39 (by omega) (by omega) (by rw [h]; rfl) (by decide) (k_23 C0 hst hL hi4 hc1 hs1 K I G _ _ _ hi hH hl)
