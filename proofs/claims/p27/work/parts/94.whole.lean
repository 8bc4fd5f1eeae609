/-! ===== the start ===== -/
theorem st_arr {s : State} {args : Array Value} {ty : FieldType} (h : (Cond.arrayClass ty).before args s = true) (hty : ∀ C, ty ≠ .object C) : ∃ cA : ClassId, ArrOfT s cA ty ∧ va_RA s cA ty := by
  obtain ⟨cA, kA, comp, h1, h2, h3⟩ := Cond.arrayClass_spec h
  refine ⟨cA, fun n z => ⟨fun k h => (by cases h), kA, h2, comp, h3⟩, ?_⟩
  cases ty with
  | object C => exact absurd rfl (hty C)
  | _ => exact h1
theorem st_arrO {s : State} {C : String} (h : va_AO C s) : ∃ cA : ClassId, ArrOfT s cA (.object C) ∧ va_RA s cA (.object C) := by
  obtain ⟨comp, cA, kA, h1, h2, h3, h4, h5⟩ := Cond.arrayOver_spec (va_AO.use (A := #[]) h)
  exact ⟨cA, fun n z => ⟨fun k h => (by cases h), kA, h3, comp, h4⟩, kA, comp, h3, h4, h1, h5⟩
theorem st_str : ∀ i, i < 11 → ∃ q, wStr[i]? = some q ∧ Cond.stringRef q.1 q.2.1 q.2.2 ∈ tables_1 ∧ Cond.exactly (.string q.1 q.2.1) "java/lang/String" ∈ flatC (Cond.and given_1 narrow_1) := by
  intro i hi
  have : i = 0 ∨ i = 1 ∨ i = 2 ∨ i = 3 ∨ i = 4 ∨ i = 5 ∨ i = 6 ∨ i = 7 ∨ i = 8 ∨ i = 9 ∨ i = 10 := by omega
  rcases this with rfl | rfl | rfl | rfl | rfl | rfl | rfl | rfl | rfl | rfl | rfl <;> exact ⟨_, rfl, by decide +kernel, by decide +kernel⟩
set_option maxRecDepth 100000 in
set_option maxHeartbeats 4000000 in
theorem whole_start {p : Program} {e : Env} {s : State} {m : MethodId} {below : List Frame} {meth : Method} {c : Code} (l : Launch) (hflags : l.flags = flags0) {b L : Nat} {xs : Nat → Int32} (hL : L ≤ 260) (C0 : lw_At p s m meth c b L xs) : W p l e room_1 s m #[Value.ref b] below meth c s.heap [] 0 0 (lw_Z below #[Value.ref b] s) (entryFrame m ([Value.ref b] : List Value).toArray 9) := by
  obtain ⟨hx, hb, hr, hml, hown, hts, hSc, hbl, hlk, hgv⟩ := id C0
  have hst : l.stackTraces = false := by
    unfold Launch.stackTraces
    rw [hflags]; decide +kernel
  have htA : ∀ w ∈ lw_all, w.before #[Value.ref b] s = true := fun w h => hts w (lw_all_tbl h)
  have htT : ∀ w ∈ tables_1, w.before #[Value.ref b] s = true := fun w h => hts w (List.mem_append_right _ h)
  have hg := flat_of_before _ hgv
  -- the classes
  obtain ⟨c0, i0, k0⟩ := u_known (C := RX0) (T := TX0) (N := 2) (n := 2) htA ck0.2.1 (htA _ q1_30)
  obtain ⟨c1, i1, k1⟩ := u_known (C := RX1) (T := TX1) (N := 2) (n := 2) htA ck1.2.1 (htA _ q1_44)
  obtain ⟨c2, i2, k2⟩ := u_known (C := RX2) (T := TX2) (N := 7) (n := 7) htA ck2.2.1 (htA _ q1_141)
  obtain ⟨c3, i3, k3⟩ := u_known (C := RX3) (T := TX3) (N := 9) (n := 9) htA ck3.2.1 (htA _ q1_24)
  obtain ⟨c4, i4, k4⟩ := u_known (C := RX4) (T := TX4) (N := 11) (n := 11) htA ck4.2.1 (htA _ q1_98)
  obtain ⟨c5, i5, k5⟩ := u_known (C := RX5) (T := TX5) (N := 9) (n := 9) htA ck5.2.1 (htA _ q1_16)
  obtain ⟨dC, dI, hKc⟩ : ∃ (dC : Nat → ClassId) (dI : Nat → Nat → Nat), ∀ (k : Nat) (q : vw_C), vwCl[k]? = some q → u_Kn s q.1 q.2.1 q.2.2 (dC k) (dI k) := by
    refine ⟨fun k => match k with | 0 => c0 | 1 => c1 | 2 => c2 | 3 => c3 | 4 => c4 | _ => c5, fun k => match k with | 0 => i0 | 1 => i1 | 2 => i2 | 3 => i3 | 4 => i4 | _ => i5, ?_⟩
    intro k q hq
    match k, hq with
    | 0, hq => cases hq; exact k0
    | 1, hq => cases hq; exact k1
    | 2, hq => cases hq; exact k2
    | 3, hq => cases hq; exact k3
    | 4, hq => cases hq; exact k4
    | 5, hq => cases hq; exact k5
    | k + 6, hq => simp [vwCl] at hq
  -- rows of ints, signs, states
  have hO : va_AO RX3 s := va_AO.of (htT (Cond.arrayOver (.object "PairedTumblers$State")) (by decide +kernel))
  obtain ⟨a1, r1⟩ := st_arr (htA _ q1_42) (fun C h => by cases h)
  obtain ⟨a2, r2⟩ := st_arr (htA _ q1_137) (fun C h => by cases h)
  obtain ⟨a3, r3⟩ := st_arrO hO
  have hK : va_K (dC, dI) vwCl (wTys (a1, a2, a3)) s := by
    refine ⟨hKc, fun k q hq => ?_⟩
    match k, hq with
    | 0, hq => cases hq; exact r1
    | 1, hq => cases hq; exact r2
    | 2, hq => cases hq; exact r3
    | k + 3, hq => simp [wTys] at hq
  -- what else the tables say
  have hA : ∀ a : Nat, a < s.heap.size → ¬ (fun q : Nat => s.heap.size ≤ q) a := fun a h => Nat.not_le.mpr h
  have hstr : ∀ i : Nat, ∃ a : Nat, ∀ q : String × Nat × String, wStr[i]? = some q → vk_R q.1 q.2.1 q.2.2 a s := by
    intro i
    by_cases hi : i < 11
    · obtain ⟨q, e1, e2, e3⟩ := st_str i hi
      obtain ⟨a, c, cA, kA, g1, _⟩ := Cond.exactly_spec (args := #[Value.ref b]) (first := s) (o := none) (s := s) (idx := []) (t := .string q.1 q.2.1) (cls := "java/lang/String") (hg _ e3)
      refine ⟨a, fun q' hq' => ?_⟩
      rw [e1] at hq'
      cases hq'
      exact vk_R.of (htT _ e2) g1
    · refine ⟨0, fun q hq => ?_⟩
      have := (List.getElem?_eq_some_iff.mp hq).1
      exact absurd this hi
  obtain ⟨ad, had⟩ := Classical.axiomOfChoice hstr
  have hN : wNc s := ⟨va_Nc.of (hg _ (by decide +kernel)), va_Nc.of (hg _ (by decide +kernel)), va_Nc.of (hg _ (by decide +kernel))⟩
  have hE : wEn ad s.heap.size s s.heap := ⟨fun w hw => va_Nw.of (w_nwot hw) (htT w (List.mem_filter.mp hw).1), had,
    vx_Zqof (htT _ (by decide +kernel)) (htT _ (by decide +kernel)) (hg _ (by decide +kernel)) hA, vx_Zqof (htT _ (by decide +kernel)) (htT _ (by decide +kernel)) (hg _ (by decide +kernel)) hA, hN⟩
  have hX : CallFix p m c cL_law 9 s #[Value.ref b] lw_all RL := ⟨hx, hb, hml, hown, htA⟩
  have hx := hX.1
  have hb := hX.2.1
  have hH : wHk (dC, dI) (a1, a2, a3) s.heap.size 0 (fun _ _ => 0) (fun _ _ => none) s s.heap [] := ⟨fun k q h => by simp [wLk] at h, va_S.rf, rfl⟩
  clear hKc k0 k1 k2 k3 k4 k5 r1 r2 r3 hstr had hg htT
  generalize hB : s.heap.size = B at hE hH hbl
  have hl := lv_entry ([.ref b]) (n := 9) (Nat.le_of_ble_eq_true rfl)
  rw [lg_entry_eq]
  generalize (lg_sl ([.ref b]) ++ List.replicate (9 - (lg_sl ([.ref b])).length) Slot.unset).toArray = ls at hl ⊢
  have hl : lv_has ls 9 [(0, .ref b)] := hl
  refine k_new hX hK hH ck5 df5 sh0 q1_15 q1_16 q1_1 ⟨Nat.le_of_ble_eq_true rfl, Nat.le_of_ble_eq_true rfl⟩ dL_law_0 (fun H hH => ?_)
  refine lv_dup hx hb dL_law_3 rfl ?_
  refine k_call hH (k_rI (rest := [.ref (B + 0)]) hX hK hE hO hH (c_X5_init _ _) q1_17 q1_18 q1_1 q1_19 rfl hd_X5_init.2 ⟨Nat.le_of_ble_eq_true rfl, Nat.le_of_ble_eq_true rfl⟩ ⟨rfl, rfl⟩ hl.1 rfl (Nat.le_of_ble_eq_true rfl) dL_law_4 ⟨Nat.le_of_ble_eq_true rfl, Nat.le_of_ble_eq_true rfl⟩) (fun H locs hH => ?_)
  have hH : wHk (dC, dI) (a1, a2, a3) B 111 sI1 sR1 s H locs := hH
  refine lv_astore_n (lv' := [(1, .ref (B + 0)), (0, .ref b)]) hx hb dL_law_7 rfl hl (by decide) rfl (fun ls hl => ?_)
  refine lv_bipush (v := 12) hx hb dL_law_8 (by decide) ?_
  refine k_newa5 hX hK hH ⟨by decide, by decide, by decide⟩ (N := 12) rfl q1_42 ⟨Nat.le_of_ble_eq_true rfl, Nat.le_of_ble_eq_true rfl⟩ dL_law_10 (fun H hH => ?_)
  refine lv_astore_n (lv' := [(2, .ref (B + 111)), (1, .ref (B + 0)), (0, .ref b)]) hx hb dL_law_12 rfl hl (by decide) rfl (fun ls hl => ?_)
  refine lv_bipush (v := 15) hx hb dL_law_13 (by decide) ?_
  refine k_newa5 hX hK hH ⟨by decide, by decide, by decide⟩ (N := 15) rfl q1_42 ⟨Nat.le_of_ble_eq_true rfl, Nat.le_of_ble_eq_true rfl⟩ dL_law_15 (fun H hH => ?_)
  refine lv_astore_n (lv' := [(3, .ref (B + 112)), (2, .ref (B + 111)), (1, .ref (B + 0)), (0, .ref b)]) hx hb dL_law_17 rfl hl (by decide) rfl (fun ls hl => ?_)
  refine lv_iconst (v := 4) hx hb dL_law_18 (by decide) ?_
  refine k_newa5 hX hK hH ⟨by decide, by decide, by decide⟩ (N := 4) rfl q1_42 ⟨Nat.le_of_ble_eq_true rfl, Nat.le_of_ble_eq_true rfl⟩ dL_law_19 (fun H hH => ?_)
  refine lv_astore (lv' := [(4, .ref (B + 113)), (3, .ref (B + 112)), (2, .ref (B + 111)), (1, .ref (B + 0)), (0, .ref b)]) hx hb dL_law_21 hl (by decide) rfl (fun ls hl => ?_)
  refine lv_bipush (v := 12) hx hb dL_law_23 (by decide) ?_
  refine k_newa5 hX hK hH ⟨by decide, by decide, by decide⟩ (N := 12) rfl q1_42 ⟨Nat.le_of_ble_eq_true rfl, Nat.le_of_ble_eq_true rfl⟩ dL_law_25 (fun H hH => ?_)
  refine lv_astore (lv' := [(5, .ref (B + 114)), (4, .ref (B + 113)), (3, .ref (B + 112)), (2, .ref (B + 111)), (1, .ref (B + 0)), (0, .ref b)]) hx hb dL_law_27 hl (by decide) rfl (fun ls hl => ?_)
  have hH : wHk (dC, dI) (a1, a2, a3) B 115 sI2 sR2 s H locs := hH
  refine W.widen (k := 200) (n := 12 * 200) (Nat.le_of_ble_eq_true rfl) (Nat.le_of_ble_eq_true rfl) ?_
  have hl2 : lv_has ls 9 [(0, .ref b), (1, .ref ((sG B).1 0)), (2, .ref ((sG B).1 111)), (3, .ref ((sG B).1 112)), (4, .ref ((sG B).1 113)), (5, .ref ((sG B).1 114))] := lv_sub hl [5, 4, 3, 2, 1, 0] rfl
  exact s_L_law_29 (Q := ()) hst rfl hSc hbl hL hB.symm ⟨hX, hr, hlk, hK, hE⟩ 200 sI H locs ls vc_L_law ⟨wEnd hH.1, hH.2.1, sG_ok B⟩ hl2
