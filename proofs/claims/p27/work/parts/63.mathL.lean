/-! ===== the law's rows: mathematics ===== -/
theorem sm_add (f g : Nat → Nat) : ∀ n, sm (fun k => f k + g k) n = sm f n + sm g n
  | 0 => rfl
  | n + 1 => by rw [sm_succ, sm_succ, sm_succ, sm_add f g n]; omega
theorem sm_swap (g : Nat → Nat → Nat) (m : Nat) : ∀ n, sm (fun i => sm (fun p => g i p) m) n = sm (fun p => sm (fun i => g i p) n) m
  | 0 => by
    have : ∀ m, sm (fun _ => (0 : Nat)) m = 0 := by
      intro m; induction m with
      | zero => rfl
      | succ m ih => rw [sm_succ, ih]
    exact (this m).symm
  | n + 1 => by
    rw [sm_succ, sm_swap g m n]
    have : (fun p => sm (fun i => g i p) (n + 1)) = fun p => sm (fun i => g i p) n + g n p := rfl
    rw [this, sm_add]
theorem sm_pick0 (f : Nat → Nat) (k : Nat) : ∀ n, n ≤ k → sm (fun p => if p = k then f p else 0) n = 0
  | 0, _ => rfl
  | n + 1, h => by rw [sm_succ, sm_pick0 f k n (by omega), if_neg (by omega)]
theorem sm_pick (f : Nat → Nat) (k : Nat) : ∀ n, k < n → sm (fun p => if p = k then f p else 0) n = f k
  | 0, h => absurd h (Nat.not_lt_zero _)
  | n + 1, h => by
    rw [sm_succ]
    by_cases e : k = n
    · subst e
      rw [sm_pick0 f k k (Nat.le_refl _), if_pos rfl, Nat.zero_add]
    · rw [sm_pick f k n (by omega), if_neg (fun q => e q.symm)]; rfl
/-- a sum in another order -/
theorem sm_perm {n : Nat} {f s : Nat → Nat} (h1 : ∀ i, i < n → f i < n ∧ s (f i) = i) (h2 : ∀ p, p < n → s p < n ∧ f (s p) = p) (g : Nat → Nat) : sm (fun i => g (f i)) n = sm g n := by
  have e1 : sm (fun i => g (f i)) n = sm (fun i => sm (fun p => if p = f i then g p else 0) n) n := sm_cong (fun i hi => (sm_pick g (f i) n (h1 i hi).1).symm)
  have e2 : sm g n = sm (fun p => sm (fun i => if i = s p then g p else 0) n) n := sm_cong (fun p hp => (sm_pick (fun _ => g p) (s p) n (h2 p hp).1).symm)
  rw [e1, e2, sm_swap]
  refine sm_cong (fun p hp => sm_cong (fun i hi => ?_))
  by_cases c : p = f i
  · rw [if_pos c, if_pos (by rw [c]; exact (h1 i hi).2.symm)]
  · rw [if_neg c, if_neg (fun q => c (by rw [q]; exact (h2 p hp).2.symm))]
theorem aM_aK (I : wI) {c : Nat} (h : c < 5) : aM (aK I) c = nt (I 112 c) := by
  unfold aM aK; rw [if_pos (by omega), show 18 + c - 18 = c by omega]
theorem aS_aK (I : wI) {c : Nat} (h : c < 5) : aS (aK I) c = nt (I 112 (5 + c)) := by
  unfold aS aK; rw [if_pos (by omega), show 23 + c - 18 = 5 + c by omega]
theorem aK_fr {I I' : wI} (h : I' 112 = I 112) : aK I' = aK I := by unfold aK; rw [h]
theorem okLk_fr {I I' : wI} (h : I' 112 = I 112) (h0 : okLk I) : okLk I' := by unfold okLk; rw [h]; exact h0
/-- where a disc's row and the positions' row meet -/
def psF (r : Nat → Int32) (i : Nat) : Nat := nt (r i)
theorem relD_ps {r : Nat → Int32} {x : DN} (h : relD r x) {i : Nat} (hi : i < 6) : psF r i < 6 ∧ x.1 (psF r i) = i ∧ r i = nI (psF r i) ∧ r (6 + i) = nI (x.2 (psF r i)) := by
  obtain ⟨p, hp, e1, e2, e3⟩ := h.1 i hi
  have e : psF r i = p := by unfold psF; rw [e1, i_nt (by omega)]
  rw [e]; exact ⟨hp, e3, e1, e2⟩
theorem relD_sp {r : Nat → Int32} {x : DN} (h : relD r x) {p : Nat} (hp : p < 6) : x.1 p < 6 ∧ psF r (x.1 p) = p ∧ x.2 p < 5 := by
  obtain ⟨h1, h2, h3⟩ := h.2 p hp
  exact ⟨h1, by unfold psF; rw [h3, i_nt (by omega)], h2⟩
theorem relD_sum {r : Nat → Int32} {x : DN} (h : relD r x) (g : Nat → Nat) : sm (fun i => g (psF r i)) 6 = sm g 6 :=
  sm_perm (s := x.1) (fun i hi => ⟨(relD_ps h hi).1, (relD_ps h hi).2.1⟩) (fun p hp => ⟨(relD_sp h hp).1, (relD_sp h hp).2.1⟩) g
theorem relD_cong {r r' : Nat → Int32} {x : DN} (e : ∀ j, j < 12 → r' j = r j) (h : relD r x) : relD r' x := by
  refine ⟨fun i hi => ?_, fun p hp => ?_⟩
  · obtain ⟨p, hp, e1, e2, e3⟩ := h.1 i hi
    exact ⟨p, hp, by rw [e i (by omega)]; exact e1, by rw [e (6 + i) (by omega)]; exact e2, e3⟩
  · obtain ⟨h1, h2, h3⟩ := h.2 p hp
    exact ⟨h1, h2, by rw [e _ (by omega)]; exact h3⟩
theorem relD_cx {r : Nat → Int32} {x y : DN} (e : ∀ p, p < 6 → y.1 p = x.1 p ∧ y.2 p = x.2 p) (h : relD r x) : relD r y := by
  refine ⟨fun i hi => ?_, fun p hp => ?_⟩
  · obtain ⟨p, hp, e1, e2, e3⟩ := h.1 i hi
    exact ⟨p, hp, e1, by rw [(e p hp).2]; exact e2, by rw [(e p hp).1]; exact e3⟩
  · obtain ⟨h1, h2, h3⟩ := h.2 p hp
    rw [(e p hp).1, (e p hp).2]; exact ⟨h1, h2, h3⟩
/-- one row of discs, one row of positions -/
theorem relD_fun {r : Nat → Int32} {x y : DN} (hx : relD r x) (hy : relD r y) {p : Nat} (hp : p < 6) : x.1 p = y.1 p ∧ x.2 p = y.2 p := by
  obtain ⟨a1, a2, a3⟩ := hx.2 p hp
  obtain ⟨b1, b2, b3⟩ := hy.2 p hp
  obtain ⟨c1, c2, c3, c4⟩ := relD_ps hy a1
  have e : psF r (x.1 p) = p := (relD_sp hx hp).2.1
  rw [e] at c2 c4
  obtain ⟨d1, d2, d3, d4⟩ := relD_ps hx a1
  rw [e] at d4
  refine ⟨c2.symm, ?_⟩
  rw [d4] at c4
  exact nI_inj (by omega) (by omega) c4
theorem relD_pm {r : Nat → Int32} {x : DN} (h : relD r x) : pmF x.1 ∧ (∀ p, p < 6 → x.1 p < 6) ∧ ∀ p, p < 6 → x.2 p < 5 :=
  ⟨fun i hi => ⟨psF r i, (relD_ps h hi).1, (relD_ps h hi).2.1⟩, fun p hp => (h.2 p hp).1, fun p hp => (h.2 p hp).2.1⟩
/-- a disc behind a turn -/
def newD (M bk : Nat) (r : Nat → Int32) (i : Nat) : Int32 := if tb M (nt (r i)) = 1 then nI (src M (1 - bk) (nt (r i))) else r i
def newN (M s bk : Nat) (r : Nat → Int32) (i : Nat) : Int32 := if tb M (nt (r i)) = 1 then nI ((nt (r (6 + i)) + (if bk = 0 then s else 5 - s)) % 5) else r (6 + i)
theorem src_i2 {M bk p : Nat} (hM : M < 64) (hb : bk = 0 ∨ bk = 1) (hp : p < 6) : src M bk (src M (1 - bk) p) = p ∧ src M (1 - bk) (src M bk p) = p := by
  obtain ⟨h1, h2⟩ := src_inv0 M hM p hp
  rcases hb with rfl | rfl
  · exact ⟨h1, h2⟩
  · exact ⟨h2, h1⟩
theorem src_t {M b p : Nat} (hM : M < 64) (hb : b = 0 ∨ b = 1) (hp : p < 6) (h : tb M p = 1) : tb M (src M b p) = 1 := by
  obtain ⟨h1, h2⟩ := src_tb M hM p hp h
  rcases hb with rfl | rfl
  · exact h1
  · exact h2
theorem src_n {M b p : Nat} (h : ¬ tb M p = 1) : src M b p = p := by unfold src; rw [if_neg h]
theorem relD_mv {r r' : Nat → Int32} {M s bk : Nat} {x : DN} (hM : M < 64) (hb : bk = 0 ∨ bk = 1) (h : relD r x) (e1 : ∀ i, i < 6 → r' i = newD M bk r i) (e2 : ∀ i, i < 6 → r' (6 + i) = newN M s bk r i) : relD r' (mvD M bk x.1, mvN M s bk x.2) := by
  have hb1 : 1 - bk = 0 ∨ 1 - bk = 1 := by omega
  refine ⟨fun i hi => ?_, fun p hp => ?_⟩
  · obtain ⟨p, hp, g1, g2, g3⟩ := h.1 i hi
    have hv := (h.2 p hp).2.1
    have q1 := src_lt hM hb1 hp
    have q2 := (src_i2 hM hb hp).1
    refine ⟨src M (1 - bk) p, q1, ?_, ?_, ?_⟩
    · rw [e1 i hi]
      unfold newD
      rw [g1, i_nt (by omega)]
      by_cases c : tb M p = 1
      · rw [if_pos c]
      · rw [if_neg c, src_n c]
    · show r' (6 + i) = nI (mvN M s bk x.2 (src M (1 - bk) p))
      rw [e2 i hi]
      unfold newN mvN
      rw [g1, g2, i_nt (by omega), i_nt (by omega), if_pos q1]
      by_cases c : tb M p = 1
      · rw [if_pos c, if_pos (src_t hM hb1 hp c), q2]
      · rw [if_neg c, src_n c, if_neg c]
    · show mvD M bk x.1 (src M (1 - bk) p) = i
      unfold mvD
      rw [if_pos q1, q2]; exact g3
  · have q1 := src_lt hM hb hp
    obtain ⟨k1, k2, k3⟩ := h.2 _ q1
    have ed : mvD M bk x.1 p = x.1 (src M bk p) := by unfold mvD; rw [if_pos hp]
    refine ⟨by show mvD M bk x.1 p < 6; rw [ed]; exact k1, mvN_lt (fun q hq => (h.2 q hq).2.1) hp, ?_⟩
    show r' (mvD M bk x.1 p) = nI p
    rw [ed, e1 _ k1]
    unfold newD
    rw [k3, i_nt (by omega)]
    by_cases c : tb M p = 1
    · rw [if_pos (src_t hM hb hp c), (src_i2 hM hb hp).2]
    · rw [src_n c, if_neg c]
theorem relD_id {r : Nat → Int32} (h1 : ∀ i, i < 6 → r i = nI i) (h2 : ∀ i, i < 6 → r (6 + i) = nI 0) : relD r (idF, zF) :=
  ⟨fun i hi => ⟨i, hi, h1 i hi, h2 i hi, by show idF i = i; unfold idF; rw [if_pos hi]⟩, fun p hp => by
    have e : idF p = p := by unfold idF; rw [if_pos hp]
    refine ⟨by show idF p < 6; rw [e]; exact hp, by show (0 : Nat) < 5; decide, ?_⟩
    show r (idF p) = nI p
    rw [e]; exact h1 p hp⟩
/-- how many discs are alike, disc by disc -/
theorem agN_disc {r q : Nat → Int32} {x y : DN} (hx : relD r x) (hy : relD q y) : sm (fun i => if r i = q i ∧ r (6 + i) = q (6 + i) then 1 else 0) 6 = agN x y := by
  unfold agN
  rw [← relD_sum hx (fun p => if x.1 p = y.1 p ∧ x.2 p = y.2 p then 1 else 0)]
  refine sm_cong (fun i hi => ?_)
  obtain ⟨a1, a2, a3, a4⟩ := relD_ps hx hi
  obtain ⟨b1, b2, b3, b4⟩ := relD_ps hy hi
  have h5 := (hx.2 _ a1).2.1
  have h6 := (hy.2 _ b1).2.1
  by_cases c : psF r i = psF q i
  · have e : (r i = q i ∧ r (6 + i) = q (6 + i)) ↔ (x.1 (psF r i) = y.1 (psF r i) ∧ x.2 (psF r i) = y.2 (psF r i)) := by
      rw [a3, b3, a4, b4, c]
      rw [← c, a2, c, b2]
      rw [c] at h5
      constructor
      · intro ⟨_, h⟩
        exact ⟨rfl, nI_inj (by omega) (by omega) h⟩
      · intro ⟨_, h⟩
        exact ⟨rfl, by rw [h]⟩
    by_cases d : r i = q i ∧ r (6 + i) = q (6 + i)
    · rw [if_pos d, if_pos (e.1 d)]
    · rw [if_neg d, if_neg (fun q => d (e.2 q))]
  · rw [if_neg, if_neg]
    · intro ⟨h, _⟩
      rw [a2] at h
      have := (relD_sp hy a1).2.1
      rw [← h] at this
      exact c this.symm
    · intro ⟨h, _⟩
      rw [a3, b3] at h
      exact c (nI_inj (by omega) (by omega) h)
/-! ===== steps to the next position of a key ===== -/
def stF (M b : Nat) : Nat → Nat → Nat
  | 0, q => q
  | f + 1, q => if tb M q = 1 then q else stF M b f ((q + b) % 6)
theorem stF_ok1 : ∀ M, M < 64 → 2 ≤ pc6 M → ∀ p, p < 6 → stF M 1 5 ((p + 1) % 6) = nxp M p ∧ tb M (stF M 1 5 ((p + 1) % 6)) = 1 := by decide +kernel
theorem stF_ok5 : ∀ M, M < 64 → 2 ≤ pc6 M → ∀ p, p < 6 → stF M 5 5 ((p + 5) % 6) = prv M p ∧ tb M (stF M 5 5 ((p + 5) % 6)) = 1 := by decide +kernel
theorem src_nx {M p : Nat} (h : tb M p = 1) : src M 1 p = nxp M p := by unfold src; rw [if_pos h, if_neg (by decide)]
theorem src_pv {M p : Nat} (h : tb M p = 1) : src M 0 p = prv M p := by unfold src; rw [if_pos h, if_pos rfl]
theorem ones_s : ∀ m, m < 64 → ¬ m = 0 → pc6 m = pc6 (m &&& (m - 1)) + 1 ∧ m &&& (m - 1) < m := by decide +kernel
