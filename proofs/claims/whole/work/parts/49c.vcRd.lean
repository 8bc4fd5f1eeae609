/-! ===== how much a word can grow ===== -/
theorem pot_cong {B B' : Nat → Nat} : ∀ (o x : Nat), (∀ j, j < o → B j = B' j) → pot B o x = pot B' o x
  | 0, _, _ => rfl
  | o + 1, x, h => by
    show pot B o (B o) + (x - B o) * 9 ^ (o + 1) = pot B' o (B' o) + (x - B' o) * 9 ^ (o + 1)
    rw [h o (by omega), pot_cong o _ (fun j hj => h j (by omega))]
theorem pot_add (B : Nat → Nat) (y : Nat) : ∀ (o x : Nat), pot B o (x + y) ≤ pot B o x + y * 9 ^ o
  | 0, x => by show x + y ≤ x + y * 9 ^ 0; omega
  | o + 1, x => by
    show pot B o (B o) + (x + y - B o) * 9 ^ (o + 1) ≤ pot B o (B o) + (x - B o) * 9 ^ (o + 1) + y * 9 ^ (o + 1)
    have h : (x + y - B o) * 9 ^ (o + 1) ≤ (x - B o + y) * 9 ^ (o + 1) := Nat.mul_le_mul_right _ (by omega)
    rw [Nat.add_mul] at h
    omega
theorem pow9 {o : Nat} (h : o ≤ 4) : 9 ^ o ≤ 6561 := Nat.pow_le_pow_right (n := 9) (by decide) h
/-- closing a bracket, at most nine times what was in it -/
theorem pot_close {B : Nat → Nat} {o len t : Nat} (ht : t ≤ 9) : pot B o (B o + (len - B o) * t) ≤ pot B (o + 1) len := by
  have h := pot_add B ((len - B o) * t) o (B o)
  have h2 : (len - B o) * t * 9 ^ o ≤ (len - B o) * 9 ^ (o + 1) := by
    rw [Nat.mul_assoc, Nat.pow_succ, Nat.mul_comm (9 ^ o) 9]
    exact Nat.mul_le_mul_left _ (Nat.mul_le_mul_right _ ht)
  show _ ≤ pot B o (B o) + (len - B o) * 9 ^ (o + 1)
  omega
theorem repL_mem {P : List Nat} : ∀ {t v}, v ∈ repL P t → v ∈ P
  | 0, v, h => absurd h List.not_mem_nil
  | t + 1, v, h => by
    have h : v ∈ P ++ repL P t := h
    rcases List.mem_append.1 h with h | h
    · exact h
    · exact repL_mem h
theorem opp_mem {P : List Nat} {v : Nat} (h : v ∈ opp P) : v < 10 := by
  unfold opp at h
  rw [List.mem_reverse] at h
  obtain ⟨u, _, e⟩ := List.mem_map.1 h
  rw [← e]; exact Nat.mod_lt _ (by decide)
theorem tMove_ok {s : TS} {n v : Nat} (h : tOk s n) (hv : v < 10) : tOk (tMove s v) (n + 1) := by
  obtain ⟨a1, a2, a3, a4⟩ := h
  have e : (tW (tMove s v)).length = (tW s).length + 1 := by show (tW s ++ [v]).length = _; rw [List.length_append]; rfl
  refine ⟨a1, fun u hu => ?_, fun i hi => ?_, ?_⟩
  · have hu : u ∈ tW s ++ [v] := hu
    rcases List.mem_append.1 hu with q | q
    · exact a2 u q
    · rw [List.mem_singleton] at q; omega
  · have := a3 i hi
    exact ⟨this.1, this.2.1, by rw [e]; exact Nat.le_succ_of_le this.2.2⟩
  · rw [e]
    have h1 := pot_add (tB s) 1 (tO s) (tW s).length
    have h2 := pow9 a1
    show pot (tB s) (tO s) ((tW s).length + 1) ≤ _
    omega
theorem tOpen_ok {s : TS} {n q : Nat} (h : tOk s n) (ho : tO s < 4) (hq : q ≤ 2) : tOk (tOpen s q) (n + 1) := by
  obtain ⟨a1, a2, a3, a4⟩ := h
  refine ⟨ho, a2, fun i hi => ?_, ?_⟩
  · have hi : i < tO s + 1 := hi
    show fu (tK s) (tO s) q i ≤ 2 ∧ fu (tB s) (tO s) (tW s).length i ≤ fu (tE s) (tO s) (tW s).length i ∧ fu (tE s) (tO s) (tW s).length i ≤ (tW s).length
    unfold fu
    by_cases c : i = tO s
    · simp only [if_pos c]; exact ⟨hq, Nat.le_refl _, Nat.le_refl _⟩
    · simp only [if_neg c]; exact a3 i (by omega)
  · show pot (fu (tB s) (tO s) (tW s).length) (tO s + 1) (tW s).length ≤ _
    show pot (fu (tB s) (tO s) (tW s).length) (tO s) (fu (tB s) (tO s) (tW s).length (tO s)) + ((tW s).length - fu (tB s) (tO s) (tW s).length (tO s)) * 9 ^ (tO s + 1) ≤ _
    have e : fu (tB s) (tO s) (tW s).length (tO s) = (tW s).length := by unfold fu; rw [if_pos rfl]
    rw [e, Nat.sub_self, Nat.zero_mul, pot_cong (B' := tB s) (tO s) _ (fun j hj => by unfold fu; rw [if_neg (by omega)])]
    omega
theorem tFig_ok {s : TS} {n c : Nat} (h : tOk s n) (hc : 50 ≤ c ∧ c ≤ 57 ∧ tO s ≠ 0) : tOk (tFig s c) (n + 1) := by
  obtain ⟨a1, a2, a3, a4⟩ := h
  obtain ⟨o, eo⟩ : ∃ o, tO s = o + 1 := ⟨tO s - 1, by omega⟩
  have b3 := a3 o (by omega)
  have e : (tW (tFig s c)).length = tB s o + ((tW s).length - tB s o) * (c - 48) := by
    show (tW s ++ repL ((tW s).drop (tB s (tO s - 1))) (c - 49)).length = _
    rw [show tO s - 1 = o by omega, show c - 49 = c - 48 - 1 by omega, rep_len (by omega) (by omega)]
  have hge : (tW s).length ≤ (tW (tFig s c)).length := by
    show _ ≤ (tW s ++ repL _ _).length
    rw [List.length_append]; omega
  refine ⟨by show tO s - 1 ≤ 4; omega, fun u hu => ?_, fun i hi => ?_, ?_⟩
  · have hu : u ∈ tW s ++ repL ((tW s).drop (tB s (tO s - 1))) (c - 49) := hu
    rcases List.mem_append.1 hu with q | q
    · exact a2 u q
    · exact a2 u (List.mem_of_mem_drop (repL_mem q))
  · have hi : i < tO s - 1 := hi
    have := a3 i (by omega)
    exact ⟨this.1, this.2.1, Nat.le_trans this.2.2 hge⟩
  · rw [e]
    show pot (tB s) (tO s - 1) _ ≤ _
    rw [show tO s - 1 = o by omega]
    have := pot_close (B := tB s) (o := o) (len := (tW s).length) (show c - 48 ≤ 9 by omega)
    rw [← eo] at this
    omega
theorem tPair_ok {s : TS} {n : Nat} (h : tOk s n) (ho : tO s ≠ 0) : tOk (tPair s) (n + 1) := by
  obtain ⟨a1, a2, a3, a4⟩ := h
  obtain ⟨o, eo⟩ : ∃ o, tO s = o + 1 := ⟨tO s - 1, by omega⟩
  have b3 := a3 o (by omega)
  have e : (tW (tPair s)).length = tB s o + ((tW s).length - tB s o) * 2 := by
    show (oppT (tW s) (tB s (tO s - 1)) (tE s (tO s - 1))).length = _
    rw [show tO s - 1 = o by omega, oppT_len b3.2.1 b3.2.2]; omega
  refine ⟨by show tO s - 1 ≤ 4; omega, fun u hu => ?_, fun i hi => ?_, ?_⟩
  · have hu : u ∈ tW s ++ opp (((tW s).take (tE s (tO s - 1))).drop (tB s (tO s - 1))) ++ opp ((tW s).drop (tE s (tO s - 1))) := hu
    rcases List.mem_append.1 hu with q | q
    · rcases List.mem_append.1 q with q | q
      · exact a2 u q
      · exact opp_mem q
    · exact opp_mem q
  · have hi : i < tO s - 1 := hi
    have := a3 i (by omega)
    have hge : (tW s).length ≤ (tW (tPair s)).length := by rw [e]; have := b3.2; omega
    exact ⟨this.1, this.2.1, Nat.le_trans this.2.2 hge⟩
  · rw [e]
    show pot (tB s) (tO s - 1) _ ≤ _
    rw [show tO s - 1 = o by omega]
    have := pot_close (B := tB s) (o := o) (len := (tW s).length) (show 2 ≤ 9 by omega)
    rw [← eo] at this
    omega
theorem tStep_ok {s s' : TS} {n c : Nat} (h : tOk s n) (e : tStep s c = some s') : tOk s' (n + 1) := by
  have wk : pot (tB s) (tO s) (tW s).length ≤ 6561 * (n + 1) := Nat.le_trans h.2.2.2 (by omega)
  unfold tStep at e
  split at e
  · split at e
    · rename_i hc; cases e; exact tFig_ok h hc
    · cases e
  split at e
  · cases e; exact tMove_ok h (by omega)
  split at e
  · cases e; exact tMove_ok h (by omega)
  split at e
  · split at e
    · rename_i ho; cases e; exact tOpen_ok h ho (by omega)
    · cases e
  split at e
  · split at e
    · rename_i ho; cases e; exact tOpen_ok h ho (by omega)
    · cases e
  split at e
  · unfold tIn at e
    split at e
    · cases e
    split at e
    · cases e; exact ⟨h.1, h.2.1, h.2.2.1, wk⟩
    split at e
    · rename_i ho _ _
      cases e
      refine ⟨h.1, h.2.1, fun i hi => ?_, wk⟩
      have hi : i < tO s := hi
      have := h.2.2.1 i hi
      show fu (tK s) (tO s - 1) 2 i ≤ 2 ∧ tB s i ≤ fu (tE s) (tO s - 1) (tW s).length i ∧ fu (tE s) (tO s - 1) (tW s).length i ≤ (tW s).length
      unfold fu
      by_cases ci : i = tO s - 1
      · simp only [if_pos ci]; exact ⟨Nat.le_refl _, by omega, Nat.le_refl _⟩
      · simp only [if_neg ci]; exact this
    split at e
    · rename_i ho _ _ _; cases e; exact tPair_ok h ho
    · cases e
  · cases e
/-! ===== reading ===== -/
theorem t0_ok : tOk t0 0 := ⟨by decide, fun v h => absurd h List.not_mem_nil, fun i h => absurd h (Nat.not_lt_zero _), Nat.le_refl _⟩
theorem tGo_s (x : Nat → Nat) (m i : Nat) (s : TS) : tGo x (m + 1) i s = (match tStep s (x i) with | none => (i, s) | some s' => tGo x m (i + 1) s') := rfl
theorem tGo_le (x : Nat → Nat) : ∀ (m i : Nat) (s : TS), i ≤ (tGo x m i s).1 ∧ (tGo x m i s).1 ≤ i + m
  | 0, i, s => ⟨Nat.le_refl _, Nat.le_refl _⟩
  | m + 1, i, s => by
    unfold tGo
    split
    · exact ⟨Nat.le_refl _, by show i ≤ i + (m + 1); omega⟩
    · have := tGo_le x m (i + 1) (by assumption)
      omega
theorem tGo_ok (x : Nat → Nat) : ∀ (m i : Nat) (s : TS), tOk s i → tOk (tGo x m i s).2 (tGo x m i s).1
  | 0, i, s, h => h
  | m + 1, i, s, h => by
    unfold tGo
    split
    · exact h
    · rename_i s' e
      exact tGo_ok x m (i + 1) s' (tStep_ok h e)
theorem tRes_ok (A : Nat → Nat → Int32) : tOk (tRes A).2 (tRes A).1 := tGo_ok _ _ 0 t0 t0_ok
theorem vl_X4_read {I : wI} (h0 : okC I) {L : Nat} (eL : I 24 1 = nI L) (hL : L ≤ 60) : ∀ (m i : Nat) (s : TS) (I' : wI), i + m = L → tOk s i → tRel I' s → tfr I I' → tGo (xA (absC I)) m i s = tRes (absC I) → v_X4_read_22 24 (post_X4_read 24 I) (m + 1) (nI i) I' := by
  have hA2 : nt (absC I 2 2) = L := by rw [absC_22, eL, i_nt (by omega)]
  have fin : ∀ (I' : wI), tRel I' (tRes (absC I)).2 → tfr I I' → v_X4_read_48 24 (post_X4_read 24 I) (nI (aErr (absC I))) I' := by
    intro I' hr hf
    have hle := tGo_le (xA (absC I)) (nt (absC I 2 2)) 0 t0
    rw [hA2] at hle
    have hE : aErr (absC I) ≤ L := by
      have := hle.2
      show (tGo (xA (absC I)) (nt (absC I 2 2)) 0 t0).1 ≤ L
      rw [hA2]; omega
    have ho := tRes_ok (absC I)
    have set_ : ∀ (t : Int32), (t = 0 ∨ t = 1) → (aWhole (absC I) ∧ t = 1 ∨ ¬ aWhole (absC I) ∧ t = 0) → v_X4_read_83 24 (post_X4_read 24 I) (nI (aErr (absC I))) t I' := by
      intro t ht hw
      refine ⟨ht, fun I1 q1 => ?_⟩
      have f24 : ∀ j, j ≠ 4 → I1 24 j = I' 24 j := fun j a => by rw [q1, wU_off (Or.inr a)]
      have fc : ∀ c, c ≠ 24 → I1 c = I' c := fun c a => by rw [q1, wU_ne a]
      refine ⟨rfl, ⟨⟨by rw [f24 3 (by decide)]; exact hr.1.1, fun i a b => by rw [fc 26 (by decide)]; exact hr.1.2 i a b⟩, by rw [f24 8 (by decide)]; exact hr.2.1, by rw [f24 9 (by decide)]; exact hr.2.2.1, by rw [f24 10 (by decide)]; exact hr.2.2.2.1, fun i hi => by rw [fc 27 (by decide), fc 28 (by decide), fc 29 (by decide)]; exact hr.2.2.2.2 i hi⟩, tfr_trans hf ⟨fun c hc => fc c (by omega), f24 1 (by decide)⟩, ?_⟩
      rw [q1, wU_at]; exact hw
    have no : ¬ aWhole (absC I) → v_X4_read_82 24 (post_X4_read 24 I) (nI (aErr (absC I))) I' := fun hn => set_ 0 (Or.inl rfl) (Or.inr ⟨hn, rfl⟩)
    unfold v_X4_read_48
    rw [hf.2, eL, i_eq (by omega) (by omega), hr.2.1, l_0, i_eq (by have := ho.1; omega) (by decide), hr.2.2.1, hr.2.2.2.1, ← l_0, b1_0, b1_0]
    refine ⟨fun z => no (fun q => z (by rw [← hA2]; exact q.1)), fun z => ⟨fun z2 => no (fun q => z2 q.2.1), fun z2 => ⟨fun z3 => no (fun q => by rw [q.2.2.1] at z3; exact absurd z3 (by decide)), fun z3 => ⟨fun z4 => no (fun q => z4 q.2.2.2), fun z4 => set_ 1 (Or.inr rfl) (Or.inl ⟨⟨by rw [hA2]; exact z, z2, ?_, z4⟩, rfl⟩)⟩⟩⟩⟩
    cases h : tH (tRes (absC I)).2
    · exact absurd h z3
    · rfl
  intro m
  induction m with
  | zero =>
    intro i s I' e ho hr hf hg
    obtain rfl : i = L := by omega
    have e1 : (tRes (absC I)).2 = s := by rw [← hg]; rfl
    have e2 : aErr (absC I) = i := by show (tRes (absC I)).1 = i; rw [← hg]; rfl
    refine ⟨fun _ => ?_, fun h => absurd (by rw [hf.2, eL]; exact Int32.le_refl _) h⟩
    have := fin I' (by rw [e1]; exact hr) hf
    rw [e2] at this; exact this
  | succ m ih =>
    intro i s I' e ho hr hf hg
    obtain ⟨L', hL', eL', hch⟩ := h0.2.2.2.2.2
    have eLL : L' = L := nI_inj (by omega) (by omega) (eL'.symm.trans eL)
    obtain ⟨c, hc, hc2, ec⟩ := hch i (by omega)
    have e25 : I' 25 i = nI c := by rw [hf.1 25 (by decide)]; exact ec
    have ex : xA (absC I) i = c := by
      show nt (if i < nt (I 24 1) then I 25 i else 0) = c
      rw [eL, i_nt (by omega), if_pos (by omega), ec, i_nt (by omega)]
    refine ⟨fun h => absurd h (by rw [hf.2, eL, i_le (by omega) (by omega)]; omega), fun _ => ⟨⟨i, by omega, rfl, c, hc, hc2, e25⟩, fun r1 q1 => ?_⟩⟩
    unfold post_X4_signAt at q1
    rw [i_nt (by omega), show (24 + 1 : Nat) = 25 from rfl, e25] at q1
    subst q1
    refine ⟨⟨rfl, ⟨c, hc, hc2, rfl⟩, s, i, by omega, hr, ho⟩, fun r2 I3 h3 => ?_⟩
    have h3 := h3 s i (by omega) hr ho
    rw [i_nt (by omega)] at h3
    have hg' : (match tStep s c with | none => (i, s) | some s' => tGo (xA (absC I)) m (i + 1) s') = tRes (absC I) := by
      rw [← hg, tGo_s, ex]
    cases hs : tStep s c with
    | none =>
      rw [hs] at h3 hg'
      obtain ⟨g1, g2, g3⟩ := h3
      subst g1
      have e1 : (tRes (absC I)).2 = s := by rw [← hg']
      have e2 : aErr (absC I) = i := by show (tRes (absC I)).1 = i; rw [← hg']
      refine ⟨fun _ => ?_, fun h => absurd rfl h⟩
      have := fin I3 (by rw [e1]; exact g2) (tfr_trans hf g3)
      rw [e2] at this; exact this
    | some s' =>
      rw [hs] at h3 hg'
      obtain ⟨g1, g2, g3⟩ := h3
      subst g1
      refine ⟨fun h => absurd h (by decide), fun _ => ?_⟩
      rw [i_s]
      exact ih (i + 1) s' I3 (by omega) (tStep_ok ho hs) g2 (tfr_trans hf g3) hg'
theorem vc_X4_read (k : Nat) (I : wI) (hp : pre_X4_read k I) : v_X4_read k I (post_X4_read k I) := by
  obtain ⟨rfl, h0⟩ := hp
  intro I1 q1 I2 q2 I3 q3 I4 q4
  obtain ⟨L, hL, eL, _⟩ := h0.2.2.2.2.2
  have fc : ∀ c, c ≠ 24 → I4 c = I c := fun c a => by rw [q4, wU_ne a, q3, wU_ne a, q2, wU_ne a, q1, wU_ne a]
  have hf : tfr I I4 := ⟨fun c hc => fc c (by omega), by rw [q4, wU_off (Or.inr (by decide)), q3, wU_off (Or.inr (by decide)), q2, wU_off (Or.inr (by decide)), q1, wU_off (Or.inr (by decide))]⟩
  refine ⟨L + 1, vl_X4_read h0 eL hL L 0 t0 I4 (by omega) t0_ok ⟨⟨?_, fun i hi => absurd hi (Nat.not_lt_zero _)⟩, ?_, ?_, ?_, fun i hi => absurd hi (Nat.not_lt_zero _)⟩ hf ?_⟩
  · rw [q4, wU_off (Or.inr (by decide)), q3, wU_off (Or.inr (by decide)), q2, wU_off (Or.inr (by decide)), q1, wU_at]; rfl
  · rw [q4, wU_off (Or.inr (by decide)), q3, wU_off (Or.inr (by decide)), q2, wU_at]; rfl
  · rw [q4, wU_off (Or.inr (by decide)), q3, wU_at]; rfl
  · rw [q4, wU_at]; rfl
  · show _ = tGo _ (nt (absC I 2 2)) 0 t0
    rw [absC_22, eL, i_nt (by omega)]
theorem tfr_X {I I' : wI} (h : tfr I I') : frX I I' := ⟨fun c hc => h.1 c (by omega), h.2⟩
theorem vc_X5_firstError (I : wI) (hp : pre_X5_firstError I) : v_X5_firstError I (post_X5_firstError I) :=
  ⟨⟨rfl, hp⟩, fun _ _ h => ⟨h.1, tfr_X h.2.2.1⟩⟩
