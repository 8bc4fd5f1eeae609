/-! ===== the law's small methods ===== -/
theorem low_and (x : Int32) : ∃ k, k < 2147483648 ∧ x &&& 2147483647 = nI k := by
  refine ⟨(x &&& 2147483647).toBitVec.toNat, ?_, ?_⟩
  · show (x.toBitVec &&& (2147483647#32)).toNat < _
    rw [BitVec.toNat_and]
    exact Nat.lt_of_le_of_lt Nat.and_le_right (by decide)
  · apply Int32.toBitVec_inj.1
    show _ = BitVec.ofNat 32 _
    rw [BitVec.ofNat_toNat, BitVec.setWidth_eq]
theorem lowN_lt (x : Int32) {n : Nat} (h : 0 < n) : lowN x n < n := Nat.mod_lt _ h
theorem vc_L_low (x0 x1 : Int32) (I : wI) (hp : pre_L_low x0 x1 I) : v_L_low x0 x1 I (post_L_low x0 x1 I) := by
  obtain ⟨n, h0, hn, rfl⟩ := hp
  refine ⟨by rw [l_0, i_eq (by omega) (by decide)]; omega, ?_⟩
  show _ = _
  rw [i_nt (by omega)]
  unfold lowN
  obtain ⟨k, hk, e⟩ := low_and x0
  rw [e, i_nt hk, i_rem hk h0 (by omega)]
theorem vl_L_step {M b : Nat} (hM : M < 64) {x1 : Int32} (hb : b = 1 ∨ b = 5) {I : wI} {Q : Int32 → Prop} : ∀ (f q : Nat), q < 6 → tb M (stF M b f q) = 1 → Q (nI (stF M b f q)) → v_L_step_7 (nI M) x1 (nI b) I Q (f + 1) (nI q)
  | f, q, hq, h1, h2 => by
    show g_L_step_7 ..
    unfold g_L_step_7
    have et : ((nI M >>> (nI q &&& 31)) &&& 1 = 0) = ¬ tb M q = 1 := by
      have e1 : nI M >>> (nI q &&& 31) &&& 1 = nI (tb M q) := by
        rw [l_31, i_and31 (by omega), i_shr (by omega) (by omega), l_1, i_and1 (Nat.lt_of_le_of_lt (Nat.div_le_self _ _) (by omega))]; rfl
      have := tb01 M q
      rw [e1, l_0, i_eq (by omega) (by decide)]
      exact propext (by omega)
    rw [et, Decidable.not_not]
    refine ⟨fun c => ?_, fun c => ?_⟩
    · cases f with
      | zero => exact h2
      | succ f => unfold stF at h2; rw [if_pos c] at h2; exact h2
    · cases f with
      | zero => exact absurd h1 c
      | succ f =>
        unfold stF at h1 h2
        rw [if_neg c] at h1 h2
        rw [i_add, l_6, i_rem (by omega) (by decide) (by decide)]
        exact vl_L_step hM hb f _ (Nat.mod_lt _ (by decide)) h1 h2
theorem vc_L_step (x0 x1 x2 : Int32) (I : wI) (hp : pre_L_step x0 x1 x2 I) : v_L_step x0 x1 x2 I (post_L_step x0 x1 x2 I) := by
  obtain ⟨⟨M, hM, rfl, h2⟩, ⟨p, hp, rfl⟩, rfl | rfl⟩ := hp
  · obtain ⟨s1, s2⟩ := stF_ok1 M hM h2 p hp
    refine ⟨6, ?_⟩
    rw [i_add, l_6, i_rem (by omega) (by decide) (by decide)]
    refine vl_L_step hM (Or.inl rfl) 5 _ (Nat.mod_lt _ (by decide)) s2 ?_
    show _ = _
    rw [i_nt (by omega), i_nt (by omega), i_nt (by omega), if_pos rfl, s1]
  · obtain ⟨s1, s2⟩ := stF_ok5 M hM h2 p hp
    refine ⟨6, ?_⟩
    rw [i_add, l_6, i_rem (by omega) (by decide) (by decide)]
    refine vl_L_step hM (Or.inr rfl) 5 _ (Nat.mod_lt _ (by decide)) s2 ?_
    show _ = _
    rw [i_nt (by omega), i_nt (by omega), i_nt (by omega), if_neg (by decide), s1]
theorem vl_L_first {I : wI} {k : Nat} : ∀ (m i : Nat) (I' : wI), i + m = 6 → (∀ j, j < i → I' k j = nI j ∧ I' k (6 + j) = nI 0) → frK k I I' → v_L_first_2 k (post_L_first k I) (m + 1) (nI i) I'
  | m, i, I', e, h, hf => by
    show g_L_first_2 ..
    unfold g_L_first_2
    rw [l_6, i_le (by omega) (by omega)]
    refine ⟨fun c => ?_, fun c => ⟨i_in (by omega) (by decide), fun I1 e1 => ?_⟩⟩
    · obtain rfl : i = 6 := by omega
      exact ⟨relD_id (fun j hj => (h j hj).1) (fun j hj => (h j hj).2), hf⟩
    · rw [i_add, i_cl (show 6 + i < 2147483648 by omega)]
      rw [i_cl (by omega)] at e1
      refine ⟨i_in (by omega) (by decide), fun I2 e2 => ?_⟩
      obtain ⟨m, rfl⟩ : ∃ j, m = j + 1 := ⟨m - 1, by omega⟩
      rw [i_s]
      refine vl_L_first m (i + 1) I2 (by omega) (fun j hj => ?_) (fun c hc => by rw [e2, e1, wU_ne hc, wU_ne hc]; exact hf c hc)
      rw [e2, e1]
      by_cases ej : j = i
      · subst ej
        exact ⟨by rw [wU_off (Or.inr (by omega)), wU_at], by rw [wU_at]; rfl⟩
      · obtain ⟨h1, h2⟩ := h j (by omega)
        exact ⟨by rw [wU_off (Or.inr (by omega)), wU_off (Or.inr ej)]; exact h1, by rw [wU_off (Or.inr (by omega)), wU_off (Or.inr (by omega))]; exact h2⟩
theorem vc_L_first (k0 : Nat) (I : wI) (hp : pre_L_first k0 I) : v_L_first k0 I (post_L_first k0 I) :=
  ⟨7, vl_L_first 6 0 I rfl (fun j hj => absurd hj (Nat.not_lt_zero _)) (fun _ _ => rfl)⟩
theorem vl_L_copy {I : wI} {k k1 : Nat} (hk : k ≠ k1) : ∀ (m i : Nat) (I' : wI), i + m = 12 → (∀ j, j < i → I' k1 j = I k j) → frK k1 I I' → v_L_copy_2 k k1 (post_L_copy k k1 I) (m + 1) (nI i) I'
  | m, i, I', e, h, hf => by
    show g_L_copy_2 ..
    unfold g_L_copy_2
    rw [l_12, i_le (by omega) (by omega)]
    refine ⟨fun c => ?_, fun c => ⟨i_in (by omega) (by decide), i_in (by omega) (by decide), fun I1 e1 => ?_⟩⟩
    · obtain rfl : i = 12 := by omega
      exact ⟨h, hf⟩
    · rw [i_cl (by omega)] at e1
      obtain ⟨m, rfl⟩ : ∃ j, m = j + 1 := ⟨m - 1, by omega⟩
      rw [i_s]
      refine vl_L_copy hk m (i + 1) I1 (by omega) (fun j hj => ?_) (fun c hc => by rw [e1, wU_ne hc]; exact hf c hc)
      rw [e1]
      by_cases ej : j = i
      · subst ej
        rw [wU_at, hf k hk]
      · rw [wU_off (Or.inr ej)]; exact h j (by omega)
theorem vc_L_copy (k0 k1 : Nat) (I : wI) (hp : pre_L_copy k0 k1 I) : v_L_copy k0 k1 I (post_L_copy k0 k1 I) :=
  ⟨13, vl_L_copy hp 12 0 I rfl (fun j hj => absurd hj (Nat.not_lt_zero _)) (fun _ _ => rfl)⟩
theorem vl_L_ones {x0 : Int32} {I : wI} {Q : Int32 → Prop} {T : Nat} (hQ : Q (nI T)) : ∀ (f m c : Nat), m < 64 → m ≤ f → c + pc6 m = T → v_L_ones_4 x0 I Q (f + 1) (nI c) (nI m)
  | f, m, c, hm, hf, e => by
    show g_L_ones_4 ..
    unfold g_L_ones_4
    rw [l_0, i_le (by omega) (by omega)]
    refine ⟨fun z => ?_, fun z => ?_⟩
    · obtain rfl : m = 0 := by omega
      have : pc6 0 = 0 := by decide
      rw [this] at e
      rw [show c = T by omega]; exact hQ
    · obtain ⟨h1, h2⟩ := ones_s m hm (by omega)
      obtain ⟨f, rfl⟩ : ∃ g, f = g + 1 := ⟨f - 1, by omega⟩
      rw [i_s, l_1, i_sub (by omega), nI_and]
      exact vl_L_ones hQ f _ (c + 1) (by omega) (by omega) (by omega)
theorem vc_L_ones (x0 : Int32) (I : wI) (hp : pre_L_ones x0 I) : v_L_ones x0 I (post_L_ones x0 I) := by
  obtain ⟨m, hm, rfl⟩ := hp
  refine ⟨65, vl_L_ones (T := pc6 m) ?_ 64 m 0 hm (by omega) (Nat.zero_add _)⟩
  show _ = _
  rw [i_nt (by omega)]
/-- the mask of what is moved, disc by disc: its bits -/
theorem or_bits {m k : Nat} (hm : m < 64) (hk : k < 6) : m ||| 2 ^ k < 64 := or_lt m hm k hk
def mvB (r : Nat → Int32) : Nat → Nat
  | 0 => 0
  | i + 1 => if r i = nI i ∧ r (6 + i) = nI 0 then mvB r i else mvB r i ||| 2 ^ (psF r i)
theorem mvB_lt {r : Nat → Int32} {x : DN} (h : relD r x) : ∀ i, i ≤ 6 → mvB r i < 64
  | 0, _ => show 0 < 64 by decide
  | i + 1, hi => by
    have ih := mvB_lt h i (by omega)
    unfold mvB
    split
    · exact ih
    · exact or_bits ih (relD_ps h (by omega)).1
theorem mvB_tb {r : Nat → Int32} {x : DN} (h : relD r x) {p : Nat} (hp : p < 6) : ∀ i, i ≤ 6 → tb (mvB r i) p = if x.1 p < i ∧ (x.1 p ≠ p ∨ x.2 p ≠ 0) then 1 else 0
  | 0, _ => by
    rw [if_neg (fun q => absurd q.1 (Nat.not_lt_zero _))]
    show tb 0 p = 0
    unfold tb; rw [Nat.zero_div]
  | i + 1, hi => by
    have ih := mvB_tb h hp i (by omega)
    obtain ⟨a1, a2, a3, a4⟩ := relD_ps h (show i < 6 by omega)
    have h5 := (h.2 _ a1).2.1
    have hsp := (relD_sp h hp).2.1
    have key : (r i = nI i ∧ r (6 + i) = nI 0) ↔ (psF r i = i ∧ x.2 (psF r i) = 0) := by
      rw [a3, a4]
      constructor
      · intro ⟨q1, q2⟩; exact ⟨nI_inj (by omega) (by omega) q1, nI_inj (by omega) (by omega) q2⟩
      · intro ⟨q1, q2⟩; rw [q1] at q2 ⊢; rw [q2]; exact ⟨rfl, rfl⟩
    unfold mvB
    by_cases c : r i = nI i ∧ r (6 + i) = nI 0
    · rw [if_pos c, ih]
      obtain ⟨k1, k2⟩ := key.1 c
      by_cases e : x.1 p = i
      · have ep : psF r i = p := by rw [← e]; exact hsp
        rw [ep] at k1 k2
        rw [if_neg (by omega), if_neg]
        intro ⟨_, q⟩
        rcases q with q | q
        · exact q (e.trans k1.symm)
        · exact q k2
      · by_cases d : x.1 p < i
        · by_cases d2 : x.1 p ≠ p ∨ x.2 p ≠ 0
          · rw [if_pos ⟨d, d2⟩, if_pos ⟨by omega, d2⟩]
          · rw [if_neg (fun q => d2 q.2), if_neg (fun q => d2 q.2)]
        · rw [if_neg (fun q => d q.1), if_neg (fun q => by omega)]
    · rw [if_neg c, tb_or _ (mvB_lt h i (by omega)) _ a1 p hp, ih]
      by_cases e : p = psF r i
      · have e2 : x.1 p = i := by rw [e]; exact a2
        rw [if_pos e, if_pos]
        refine ⟨by omega, ?_⟩
        apply Decidable.byContradiction
        intro q
        refine c (key.2 ⟨?_, ?_⟩)
        · rw [← e, ← e2]
          apply Decidable.byContradiction; intro z; exact q (Or.inl (fun w => z w.symm))
        · rw [← e]
          apply Decidable.byContradiction; intro z; exact q (Or.inr z)
      · rw [if_neg e]
        have e2 : x.1 p ≠ i := fun w => e (by rw [← w]; exact hsp.symm)
        by_cases d : x.1 p < i
        · by_cases d2 : x.1 p ≠ p ∨ x.2 p ≠ 0
          · rw [if_pos ⟨d, d2⟩, if_pos ⟨by omega, d2⟩]
          · rw [if_neg (fun q => d2 q.2), if_neg (fun q => d2 q.2)]
        · rw [if_neg (fun q => d q.1), if_neg (fun q => by omega)]
theorem tb_bits (q : Nat → Bool) : ∀ n p, p < n → tb (bits q n) p = if q p then 1 else 0
  | 0, p, h => absurd h (Nat.not_lt_zero _)
  | n + 1, p, h => by
    have e : bits q (n + 1) = bits q n + (if q n then 2 ^ n else 0) := rfl
    have hl := bits_lt q n
    have h0 : 0 < 2 ^ n := Nat.pow_pos (by decide)
    by_cases c : p = n
    · subst c
      rw [e]
      unfold tb
      split
      · rw [Nat.add_div_right _ h0, Nat.div_eq_of_lt hl]
      · rw [Nat.add_zero, Nat.div_eq_of_lt hl]
    · rw [← tb_bits q n p (by omega), e]
      unfold tb
      split
      · obtain ⟨d, rfl⟩ : ∃ d, n = p + (d + 1) := ⟨n - p - 1, by omega⟩
        have hp0 : 0 < 2 ^ p := Nat.pow_pos (by decide)
        rw [Nat.pow_add, Nat.add_mul_div_left _ _ hp0, Nat.pow_succ, Nat.add_mul_mod_self_right]
      · rfl
theorem tb_ext : ∀ a, a < 64 → ∀ b, b < 64 → (∀ p, p < 6 → tb a p = tb b p) → a = b := by decide +kernel
theorem mvB_rc {r : Nat → Int32} {x : DN} (h : relD r x) : mvB r 6 = rcF x.1 x.2 := by
  refine tb_ext _ (mvB_lt h 6 (Nat.le_refl _)) _ (rcF_lt _ _) (fun p hp => ?_)
  rw [mvB_tb h hp 6 (Nat.le_refl _)]
  unfold rcF
  rw [tb_bits _ 6 p hp]
  unfold rcB
  have h1 := (h.2 p hp).1
  by_cases d : x.1 p ≠ p ∨ x.2 p ≠ 0
  · rw [if_pos ⟨h1, d⟩, if_pos (decide_eq_true d)]
  · rw [if_neg (fun q => d q.2), if_neg (by rw [decide_eq_false d]; decide)]
theorem vl_L_moved {I : wI} {k : Nat} {x : DN} (h : relD (I k) x) {Q : Int32 → Prop} (hQ : Q (nI (mvB (I k) 6))) : ∀ (m i : Nat), i + m = 6 → v_L_moved_4 k I Q (m + 1) (nI (mvB (I k) i)) (nI i)
  | m, i, e => by
    show g_L_moved_4 ..
    unfold g_L_moved_4
    rw [l_6, i_le (by omega) (by omega)]
    refine ⟨fun c => by rw [show i = 6 by omega]; exact hQ, fun c => ⟨i_in (by omega) (by decide), ?_⟩⟩
    obtain ⟨m, rfl⟩ : ∃ j, m = j + 1 := ⟨m - 1, by omega⟩
    obtain ⟨a1, a2, a3, a4⟩ := relD_ps h (show i < 6 by omega)
    have hl := mvB_lt h i (by omega)
    rw [i_cl (show i < 2147483648 by omega), i_add, i_cl (show 6 + i < 2147483648 by omega)]
    have step : ∀ t, mvB (I k) (i + 1) = mvB (I k) i ||| t → v_L_moved_36 k I Q (v_L_moved_4 k I Q (m + 1)) (nI i) (nI t) (nI (mvB (I k) i)) := by
      intro t ht
      unfold v_L_moved_36
      rw [nI_or, i_s, ← ht]
      exact vl_L_moved h hQ m (i + 1) (by omega)
    have go : ¬ (I k i = nI i ∧ I k (6 + i) = nI 0) → v_L_moved_27 k I Q (v_L_moved_4 k I Q (m + 1)) (nI i) (nI (mvB (I k) i)) := by
      intro hn
      refine ⟨i_in (by omega) (by decide), ?_⟩
      rw [i_cl (show i < 2147483648 by omega), a3, l_31, i_and31 (by omega), l_1, i_shl1 (by omega)]
      refine step _ ?_
      show (if _ then _ else _) = _
      rw [if_neg hn]
    refine ⟨fun c1 => go (fun q => c1 q.1), fun c1 => ⟨i_in (by omega) (by decide), fun c2 => ?_, fun c2 => go (fun q => c2 q.2)⟩⟩
    refine step 0 ?_
    show (if _ then _ else _) = _
    rw [if_pos ⟨c1, c2⟩, Nat.or_zero]
theorem vc_L_moved (k0 : Nat) (I : wI) (hp : pre_L_moved k0 I) : v_L_moved k0 I (post_L_moved k0 I) := by
  obtain ⟨x, h⟩ := hp
  refine ⟨7, vl_L_moved h ?_ 6 0 rfl⟩
  intro y hy
  rw [mvB_rc hy]
theorem vl_L_right {I : wI} {k : Nat} {Q : Int32 → Prop} {T : Nat} (h1 : I 113 2 = 1) (hT : T = sm (fun i => if I k i = I 114 i ∧ I k (6 + i) = I 114 (6 + i) then 1 else 0) 6) (hQ : Q (nI T)) : ∀ (m i : Nat), i + m = 6 → v_L_right_5 k I Q (m + 1) (nI (sm (fun i => if I k i = I 114 i ∧ I k (6 + i) = I 114 (6 + i) then 1 else 0) i)) (nI i)
  | m, i, e => by
    show g_L_right_5 ..
    unfold g_L_right_5
    rw [l_6, i_le (by omega) (by omega)]
    refine ⟨fun c => by rw [show i = 6 by omega, ← hT]; exact hQ, fun c => ⟨by rw [l_2]; exact i_in (by decide) (by decide), fun c1 => absurd h1 c1, fun _ => ⟨i_in (by omega) (by decide), i_in (by omega) (by decide), ?_⟩⟩⟩
    obtain ⟨m, rfl⟩ : ∃ j, m = j + 1 := ⟨m - 1, by omega⟩
    rw [i_cl (show i < 2147483648 by omega), i_add, i_cl (show 6 + i < 2147483648 by omega)]
    have step : ∀ t, sm (fun i => if I k i = I 114 i ∧ I k (6 + i) = I 114 (6 + i) then 1 else 0) (i + 1) = sm (fun i => if I k i = I 114 i ∧ I k (6 + i) = I 114 (6 + i) then 1 else 0) i + t → v_L_right_53 k I Q (v_L_right_5 k I Q (m + 1)) (nI i) (nI t) (nI (sm (fun i => if I k i = I 114 i ∧ I k (6 + i) = I 114 (6 + i) then 1 else 0) i)) := by
      intro t ht
      unfold v_L_right_53
      rw [i_add, i_s, ← ht]
      exact vl_L_right h1 hT hQ m (i + 1) (by omega)
    have no : ¬ (I k i = I 114 i ∧ I k (6 + i) = I 114 (6 + i)) → v_L_right_52 k I Q (v_L_right_5 k I Q (m + 1)) (nI i) (nI (sm (fun i => if I k i = I 114 i ∧ I k (6 + i) = I 114 (6 + i) then 1 else 0) i)) := by
      intro hn
      refine step 0 ?_
      rw [sm_succ, if_neg hn]
    refine ⟨fun q => no (fun z => q z.1), fun q => ⟨i_in (by omega) (by decide), i_in (by omega) (by decide), fun q2 => no (fun z => q2 z.2), fun q2 => ?_⟩⟩
    refine step 1 ?_
    rw [sm_succ, if_pos ⟨q, q2⟩]
theorem vl_L_right0 {I : wI} {k : Nat} {Q : Int32 → Prop} (h1 : ¬ I 113 2 = 1) (hQ : Q (nI 0)) : ∀ (m i : Nat), i + m = 6 → v_L_right_5 k I Q (m + 1) (nI 0) (nI i)
  | m, i, e => by
    show g_L_right_5 ..
    unfold g_L_right_5
    rw [l_6, i_le (by omega) (by omega)]
    refine ⟨fun c => hQ, fun c => ⟨by rw [l_2]; exact i_in (by decide) (by decide), fun _ => ?_, fun c1 => absurd c1 h1⟩⟩
    obtain ⟨m, rfl⟩ : ∃ j, m = j + 1 := ⟨m - 1, by omega⟩
    unfold v_L_right_52 v_L_right_53
    rw [l_0, i_add, i_s]
    exact vl_L_right0 h1 hQ m (i + 1) (by omega)
theorem vc_L_right (k0 : Nat) (I : wI) (hp : pre_L_right k0 I) : v_L_right k0 I (post_L_right k0 I) := by
  by_cases h1 : I 113 2 = 1
  · refine ⟨7, vl_L_right h1 rfl ?_ 6 0 rfl⟩
    intro x y hx hy
    rw [if_pos h1, agN_disc hx (hy h1)]
  · refine ⟨7, vl_L_right0 h1 ?_ 6 0 rfl⟩
    intro x y hx hy
    rw [if_neg h1]
