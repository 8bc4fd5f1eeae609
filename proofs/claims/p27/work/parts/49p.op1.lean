/-! ===== the first one of some ===== -/
theorem fb_spec (p : Nat → Bool) : ∀ m i, (∃ r, i ≤ r ∧ r < i + m ∧ p r = true ∧ (∀ j, i ≤ j → j < r → p j = false) ∧ fb p m i = r) ∨ ((∀ j, i ≤ j → j < i + m → p j = false) ∧ fb p m i = i + m)
  | 0, i => Or.inr ⟨fun j h1 h2 => by omega, rfl⟩
  | m + 1, i => by
    unfold fb
    cases e : p i
    · rw [if_neg Bool.false_ne_true]
      rcases fb_spec p m (i + 1) with ⟨r, h1, h2, h3, h4, h5⟩ | ⟨h1, h2⟩
      · refine Or.inl ⟨r, by omega, by omega, h3, fun j a b => ?_, h5⟩
        by_cases c : j = i
        · rw [c]; exact e
        · exact h4 j (by omega) b
      · refine Or.inr ⟨fun j a b => ?_, by rw [h2]; omega⟩
        by_cases c : j = i
        · rw [c]; exact e
        · exact h1 j (by omega) (by omega)
    · rw [if_pos rfl]
      exact Or.inl ⟨i, Nat.le_refl _, by omega, e, fun j a b => by omega, rfl⟩
theorem fb_eq {p : Nat → Bool} {m i r : Nat} (h1 : i ≤ r) (h2 : r < i + m) (h3 : p r = true) (h4 : ∀ j, i ≤ j → j < r → p j = false) : fb p m i = r := by
  rcases fb_spec p m i with ⟨s, a1, a2, a3, a4, a5⟩ | ⟨a1, _⟩
  · rw [a5]
    by_cases c : s < r
    · rw [h4 s a1 c] at a3; exact absurd a3 (by decide)
    · by_cases c2 : r < s
      · rw [a4 r h1 c2] at h3; exact absurd h3 (by decide)
      · omega
  · rw [a1 r h1 h2] at h3; exact absurd h3 (by decide)
theorem fb_no {p : Nat → Bool} {m i : Nat} (h : ∀ j, i ≤ j → j < i + m → p j = false) : fb p m i = i + m := by
  rcases fb_spec p m i with ⟨s, a1, a2, a3, a4, a5⟩ | ⟨_, h2⟩
  · rw [h s a1 a2] at a3; exact absurd a3 (by decide)
  · exact h2
theorem fb_lt {p : Nat → Bool} {m : Nat} : fb p m 0 < m ↔ ∃ v, v < m ∧ p v = true := by
  rcases fb_spec p m 0 with ⟨s, a1, a2, a3, a4, a5⟩ | ⟨h1, h2⟩
  · exact ⟨fun _ => ⟨s, by omega, a3⟩, fun _ => by omega⟩
  · refine ⟨fun h => by omega, fun ⟨v, hv, e⟩ => ?_⟩
    rw [h1 v (by omega) (by omega)] at e; exact absurd e (by decide)
theorem canB_s {n : Nat} {a : Nat → Int32} : canB (n + 1) a = true ↔ ∃ v, v < 10 ∧ al a v = true ∧ canB n (aTr a v) = true := by
  show decide (fb (fun v => al a v && canB n (aTr a v)) 10 0 < 10) = true ↔ _
  rw [decide_eq_true_iff, fb_lt]
  exact ⟨fun ⟨v, h, e⟩ => ⟨v, h, (Bool.and_eq_true _ _).mp e⟩, fun ⟨v, h, e⟩ => ⟨v, h, (Bool.and_eq_true _ _).mpr e⟩⟩
def canP (a : Nat → Int32) : Nat → DN → Prop
  | 0, x => x = secP a
  | n + 1, x => ∃ v, v < 10 ∧ al a v = true ∧ canP a n (mP a v x)
theorem stU_Tr (a : Nat → Int32) (v c : Nat) : ∀ n, stU (aTr a v) c n = stU a c n
  | 0 => rfl
  | n + 1 => by
    show (stU (aTr a v) c n || (decide (tb (aM (aTr a v) c) n = 1) && decide (aTr a v (12 + n) = 1))) = (stU a c n || (decide (tb (aM a c) n = 1) && decide (a (12 + n) = 1)))
    rw [stU_Tr a v c n, aM_Tr, aTr_o (by omega)]
theorem al_Tr (a : Nat → Int32) (v u : Nat) : al (aTr a v) u = al a u := by unfold al aStk; rw [stU_Tr]
theorem mP_Tr (a : Nat → Int32) (v u : Nat) (x : DN) : mP (aTr a v) u x = mP a u x := by unfold mP; rw [aM_Tr, aS_Tr]
theorem secP_Tr (a : Nat → Int32) (v : Nat) : secP (aTr a v) = secP a := by
  unfold secP
  have e1 : (fun p => if p < 6 then nt (aTr a v (37 + p)) else 0) = fun p => if p < 6 then nt (a (37 + p)) else 0 := by funext p; rw [aTr_o (by omega)]
  have e2 : (fun p => if p < 6 then nt (aTr a v (43 + p)) else 0) = fun p => if p < 6 then nt (a (43 + p)) else 0 := by funext p; rw [aTr_o (by omega)]
  rw [e1, e2]
theorem canP_Tr (a : Nat → Int32) (v : Nat) : ∀ n x, canP (aTr a v) n x ↔ canP a n x
  | 0, x => by show x = secP (aTr a v) ↔ x = secP a; rw [secP_Tr]
  | n + 1, x => by
    show (∃ u, u < 10 ∧ al (aTr a v) u = true ∧ canP (aTr a v) n (mP (aTr a v) u x)) ↔ ∃ u, u < 10 ∧ al a u = true ∧ canP a n (mP a u x)
    constructor
    · intro ⟨u, h1, h2, h3⟩; rw [al_Tr] at h2; rw [mP_Tr, canP_Tr] at h3; exact ⟨u, h1, h2, h3⟩
    · intro ⟨u, h1, h2, h3⟩; exact ⟨u, h1, by rw [al_Tr]; exact h2, by rw [mP_Tr, canP_Tr]; exact h3⟩
theorem sm6 {f : Nat → Nat} (h : ∀ p, p < 6 → f p ≤ 1) : sm f 6 = 6 ↔ ∀ p, p < 6 → f p = 1 := by
  have e : sm f 6 = 0 + f 0 + f 1 + f 2 + f 3 + f 4 + f 5 := rfl
  rw [e]
  have h0 := h 0 (by omega); have h1 := h 1 (by omega); have h2 := h 2 (by omega); have h3 := h 3 (by omega); have h4 := h 4 (by omega); have h5 := h 5 (by omega)
  constructor
  · intro h p hp
    have : p = 0 ∨ p = 1 ∨ p = 2 ∨ p = 3 ∨ p = 4 ∨ p = 5 := by omega
    rcases this with rfl | rfl | rfl | rfl | rfl | rfl <;> omega
  · intro h
    rw [h 0 (by omega), h 1 (by omega), h 2 (by omega), h 3 (by omega), h 4 (by omega), h 5 (by omega)]
theorem opn_P {a : Nat → Int32} (hR : okR a) (h1 : a 36 = 1) : aRt a = 6 ↔ posP a = secP a := by
  unfold aRt aAs
  rw [h1, if_neg (by decide), sm6 (fun p _ => by split <;> omega)]
  have hs := hR.2.2.2.2.2.2 h1
  constructor
  · intro h
    have key : ∀ p, p < 6 → a p = a (37 + p) ∧ a (6 + p) = a (43 + p) := by
      intro p hp
      have := h p hp
      by_cases c : a p = a (37 + p) ∧ a (6 + p) = a (43 + p)
      · exact c
      · rw [if_neg c] at this; omega
    unfold posP secP
    refine Prod.ext ?_ ?_
    · funext p
      show (if p < 6 then nt (a p) else 0) = if p < 6 then nt (a (37 + p)) else 0
      split
      · rename_i hp; rw [(key p hp).1]
      · rfl
    · funext p
      show (if p < 6 then nt (a (6 + p)) else 0) = if p < 6 then nt (a (43 + p)) else 0
      split
      · rename_i hp; rw [(key p hp).2]
      · rfl
  · intro h p hp
    have e1 := congrFun (congrArg Prod.fst h) p
    have e2 := congrFun (congrArg Prod.snd h) p
    have e1 : aD a p = if p < 6 then nt (a (37 + p)) else 0 := e1
    have e2 : aN a p = if p < 6 then nt (a (43 + p)) else 0 := e2
    rw [if_pos hp] at e1 e2
    obtain ⟨⟨k1, _⟩, k2, _⟩ := hR.1 p hp
    obtain ⟨⟨k3, _⟩, k4, _⟩ := hs p hp
    refine if_pos ⟨by rw [k1, k3, e1], ?_⟩
    show a (6 + p) = a (43 + p)
    rw [k2, k4, e2]
theorem posP_Tr {a : Nat → Int32} {v : Nat} (hR : okR a) (hv : v < 10) : posP (aTr a v) = mP a v (posP a) := by
  show (aD (aTr a v), aN (aTr a v)) = (mvD _ _ (aD a), mvN _ _ _ (aN a))
  rw [aD_aTr hR hv, aN_aTr hR]
theorem canB_P : ∀ (n : Nat) (a : Nat → Int32), okR a → a 36 = 1 → (canB n a = true ↔ canP a n (posP a))
  | 0, a, hR, h1 => by
    show decide (aRt a = 6) = true ↔ posP a = secP a
    rw [decide_eq_true_iff, opn_P hR h1]
  | n + 1, a, hR, h1 => by
    rw [canB_s]
    show (∃ v, v < 10 ∧ al a v = true ∧ canB n (aTr a v) = true) ↔ ∃ v, v < 10 ∧ al a v = true ∧ canP a n (mP a v (posP a))
    constructor
    · intro ⟨v, hv, ha, h⟩
      rw [canB_P n (aTr a v) (okR_aTr hR hv) (by rw [aTr_o (by omega)]; exact h1), canP_Tr, posP_Tr hR hv] at h
      exact ⟨v, hv, ha, h⟩
    · intro ⟨v, hv, ha, h⟩
      refine ⟨v, hv, ha, ?_⟩
      rw [canB_P n (aTr a v) (okR_aTr hR hv) (by rw [aTr_o (by omega)]; exact h1), canP_Tr, posP_Tr hR hv]
      exact h
/-! ===== fingerprints, and turns that are taken back ===== -/
def okW (x : DN) : Prop := (∀ p, p < 6 → x.1 p < 6) ∧ (∀ p, p < 6 → x.2 p < 5) ∧ nrm x.1 ∧ nrm x.2
theorem fpU_inj {d n d2 n2 : Nat → Nat} : ∀ i, (∀ p, p < i → d p < 6 ∧ n p < 5 ∧ d2 p < 6 ∧ n2 p < 5) → fpU d n i = fpU d2 n2 i → ∀ p, p < i → d p = d2 p ∧ n p = n2 p
  | 0, _, _, p, hp => absurd hp (Nat.not_lt_zero _)
  | i + 1, h, e, p, hp => by
    have e : fpU d n i * 30 + d i * 5 + n i = fpU d2 n2 i * 30 + d2 i * 5 + n2 i := e
    obtain ⟨a1, a2, a3, a4⟩ := h i (by omega)
    by_cases c : p = i
    · subst c; omega
    · exact fpU_inj i (fun q hq => h q (by omega)) (by omega) p (by omega)
theorem fpU_lt {d n : Nat → Nat} : ∀ i, (∀ p, p < i → d p < 6 ∧ n p < 5) → fpU d n i < 30 ^ i
  | 0, _ => by show 0 < 1; decide
  | i + 1, h => by
    have := fpU_lt i (fun q hq => h q (by omega))
    have a := h i (by omega)
    show fpU d n i * 30 + d i * 5 + n i < 30 ^ i * 30
    omega
theorem fpP_lt {x : DN} (h : okW x) : fpP x < 2000000000 := Nat.lt_of_lt_of_le (fpU_lt 6 (fun p hp => ⟨h.1 p hp, h.2.1 p hp⟩)) (Nat.le_of_ble_eq_true rfl)
theorem DN_ext {x y : DN} (hx : okW x) (hy : okW y) (h : ∀ p, p < 6 → x.1 p = y.1 p ∧ x.2 p = y.2 p) : x = y := by
  refine Prod.ext ?_ ?_
  · funext p
    by_cases c : p < 6
    · exact (h p c).1
    · rw [hx.2.2.1 p (by omega), hy.2.2.1 p (by omega)]
  · funext p
    by_cases c : p < 6
    · exact (h p c).2
    · rw [hx.2.2.2 p (by omega), hy.2.2.2 p (by omega)]
theorem fpP_inj {x y : DN} (hx : okW x) (hy : okW y) (h : fpP x = fpP y) : x = y :=
  DN_ext hx hy (fpU_inj 6 (fun p hp => ⟨hx.1 p hp, hx.2.1 p hp, hy.1 p hp, hy.2.1 p hp⟩) h)
theorem okW_mP {a : Nat → Int32} {v : Nat} {x : DN} (hR : okR a) (hv : v < 10) (h : okW x) : okW (mP a v x) :=
  ⟨fun p hp => mvD_lt (okR_M hR (m5 v)) (bk_or hv) h.1 hp, fun p hp => mvN_lt h.2.1 hp, nrm_mvD _ _ _, nrm_mvN _ _ _ _⟩
theorem src_tb : ∀ M, M < 64 → ∀ p, p < 6 → tb M p = 1 → tb M (src M 0 p) = 1 ∧ tb M (src M 1 p) = 1 := by decide +kernel
theorem mP_inv {a : Nat → Int32} {v : Nat} {x : DN} (hR : okR a) (hv : v < 10) (h : okW x) : mP a (oppV v) (mP a v x) = x := by
  have hM := okR_M hR (m5 v)
  have hS := okR_S hR (m5 v)
  have e5 : oppV v % 5 = v % 5 := by unfold oppV; omega
  have hov : oppV v < 10 := by unfold oppV; omega
  refine DN_ext (okW_mP hR hov (okW_mP hR hv h)) h (fun p hp => ?_)
  have hi := src_inv0 _ hM p hp
  have hl := src_lt0 _ hM p hp
  have ht := src_tb _ hM p hp
  show mvD (aM a (oppV v % 5)) (oppV v / 5) (mvD (aM a (v % 5)) (v / 5) x.1) p = x.1 p ∧ mvN (aM a (oppV v % 5)) (aS a (oppV v % 5)) (oppV v / 5) (mvN (aM a (v % 5)) (aS a (v % 5)) (v / 5) x.2) p = x.2 p
  rw [e5]
  generalize aM a (v % 5) = M at hM hi hl ht ⊢
  generalize aS a (v % 5) = s at hS ⊢
  have hx := h.2.1 p hp
  rcases bk_or hv with hb | hb
  · have hb2 : oppV v / 5 = 1 := by unfold oppV; omega
    rw [hb, hb2]
    unfold mvD mvN
    simp only [if_pos hp, if_pos hl.2, hi.1, true_and]
    by_cases c : tb M p = 1
    · simp only [if_pos c, if_pos (ht c).2, if_true, show ¬ (1 = 0) from by decide, if_false]
      omega
    · rw [if_neg c, if_neg c]
  · have hb2 : oppV v / 5 = 0 := by unfold oppV; omega
    rw [hb, hb2]
    unfold mvD mvN
    simp only [if_pos hp, if_pos hl.1, hi.2, true_and]
    by_cases c : tb M p = 1
    · simp only [if_pos c, if_pos (ht c).1, if_true, show ¬ (1 = 0) from by decide, if_false]
      omega
    · rw [if_neg c, if_neg c]
theorem opp2 {v : Nat} (hv : v < 10) : oppV (oppV v) = v := by unfold oppV; omega
theorem opp_lt (v : Nat) : oppV v < 10 := Nat.mod_lt _ (by decide)
theorem al_opp (a : Nat → Int32) (v : Nat) : al a (oppV v) = al a v := by unfold al; rw [show oppV v % 5 = v % 5 by unfold oppV; omega]
theorem mP_iff {a : Nat → Int32} {v : Nat} {x y : DN} (hR : okR a) (hv : v < 10) (hx : okW x) (hy : okW y) : y = mP a v x ↔ mP a (oppV v) y = x := by
  constructor
  · intro e; rw [e]; exact mP_inv hR hv hx
  · intro e
    have := mP_inv hR (opp_lt v) hy
    rw [opp2 hv, e] at this
    exact this.symm
/-! ===== the list of near states ===== -/
def hasF (l : List (Nat × Nat)) (f : Nat) : Prop := ∃ e, e ∈ l ∧ e.1 = f
theorem lk_none : ∀ {l : List (Nat × Nat)} {f : Nat}, ¬ hasF l f → lkR l f = -1
  | [], _, _ => rfl
  | e :: l, f, h => by
    unfold lkR
    rw [if_neg (fun q => h ⟨e, List.mem_cons_self, q⟩)]
    exact lk_none (fun ⟨e', he, q⟩ => h ⟨e', List.mem_cons_of_mem _ he, q⟩)
theorem lk_const {t : Nat} : ∀ {l : List (Nat × Nat)} {f : Nat}, (∀ e, e ∈ l → e.2 = t) → hasF l f → lkR l f = nI t
  | [], _, _, ⟨_, h, _⟩ => absurd h List.not_mem_nil
  | e :: l, f, hc, ⟨e', h, q⟩ => by
    unfold lkR
    by_cases c : e.1 = f
    · rw [if_pos c, hc e List.mem_cons_self]
    · rw [if_neg c]
      rcases List.mem_cons.1 h with rfl | h
      · exact absurd q c
      · exact lk_const (fun e he => hc e (List.mem_cons_of_mem _ he)) ⟨e', h, q⟩
theorem lk_l : ∀ {l l2 : List (Nat × Nat)} {f : Nat}, hasF l f → lkR (l ++ l2) f = lkR l f
  | [], _, _, ⟨_, h, _⟩ => absurd h List.not_mem_nil
  | e :: l, l2, f, ⟨e', h, q⟩ => by
    show (if e.1 = f then nI e.2 else lkR (l ++ l2) f) = if e.1 = f then nI e.2 else lkR l f
    by_cases c : e.1 = f
    · rw [if_pos c, if_pos c]
    · rw [if_neg c, if_neg c]
      rcases List.mem_cons.1 h with rfl | h
      · exact absurd q c
      · exact lk_l ⟨e', h, q⟩
theorem lk_r : ∀ {l l2 : List (Nat × Nat)} {f : Nat}, ¬ hasF l f → lkR (l ++ l2) f = lkR l2 f
  | [], _, _, _ => rfl
  | e :: l, l2, f, h => by
    show (if e.1 = f then nI e.2 else lkR (l ++ l2) f) = _
    rw [if_neg (fun q => h ⟨e, List.mem_cons_self, q⟩)]
    exact lk_r (fun ⟨e', he, q⟩ => h ⟨e', List.mem_cons_of_mem _ he, q⟩)
theorem mem_ite {e x : Nat × Nat} {b : Bool} : (e ∈ if b = true then [x] else []) ↔ b = true ∧ e = x := by
  cases b
  · simp
  · simp
theorem mem_L1 {a : Nat → Int32} {e : Nat × Nat} : ∀ n, e ∈ L1 a n ↔ ∃ v, v < n ∧ al a v = true ∧ e = (fpP (mP a v (secP a)), 1)
  | 0 => ⟨fun h => absurd h List.not_mem_nil, fun ⟨v, h, _⟩ => absurd h (Nat.not_lt_zero _)⟩
  | n + 1 => by
    show e ∈ L1 a n ++ _ ↔ _
    rw [List.mem_append, mem_L1 n, mem_ite]
    constructor
    · rintro (⟨v, h1, h2, h3⟩ | ⟨h1, h2⟩)
      · exact ⟨v, by omega, h2, h3⟩
      · exact ⟨n, by omega, h1, h2⟩
    · rintro ⟨v, h1, h2, h3⟩
      by_cases c : v = n
      · subst c; exact Or.inr ⟨h2, h3⟩
      · exact Or.inl ⟨v, by omega, h2, h3⟩
theorem mem_L2 {a : Nat → Int32} {x : DN} {e : Nat × Nat} : ∀ n, e ∈ L2 a x n ↔ ∃ v, v < n ∧ al a v = true ∧ e = (fpP (mP a v x), 2)
  | 0 => ⟨fun h => absurd h List.not_mem_nil, fun ⟨v, h, _⟩ => absurd h (Nat.not_lt_zero _)⟩
  | n + 1 => by
    show e ∈ L2 a x n ++ _ ↔ _
    rw [List.mem_append, mem_L2 n, mem_ite]
    constructor
    · rintro (⟨v, h1, h2, h3⟩ | ⟨h1, h2⟩)
      · exact ⟨v, by omega, h2, h3⟩
      · exact ⟨n, by omega, h1, h2⟩
    · rintro ⟨v, h1, h2, h3⟩
      by_cases c : v = n
      · subst c; exact Or.inr ⟨h2, h3⟩
      · exact Or.inl ⟨v, by omega, h2, h3⟩
theorem mem_L3 {a : Nat → Int32} {e : Nat × Nat} : ∀ n, e ∈ L3 a n ↔ ∃ v, v < n ∧ al a v = true ∧ e ∈ L2 a (mP a v (secP a)) 10
  | 0 => ⟨fun h => absurd h List.not_mem_nil, fun ⟨v, h, _⟩ => absurd h (Nat.not_lt_zero _)⟩
  | n + 1 => by
    show e ∈ L3 a n ++ _ ↔ _
    rw [List.mem_append, mem_L3 n]
    have hi : (e ∈ if al a n = true then L2 a (mP a n (secP a)) 10 else []) ↔ al a n = true ∧ e ∈ L2 a (mP a n (secP a)) 10 := by
      cases al a n
      · simp
      · simp
    rw [hi]
    constructor
    · rintro (⟨v, h1, h2, h3⟩ | ⟨h1, h2⟩)
      · exact ⟨v, by omega, h2, h3⟩
      · exact ⟨n, by omega, h1, h2⟩
    · rintro ⟨v, h1, h2, h3⟩
      by_cases c : v = n
      · subst c; exact Or.inr ⟨h2, h3⟩
      · exact Or.inl ⟨v, by omega, h2, h3⟩
theorem has_L1 {a : Nat → Int32} {y : DN} (hR : okR a) (hs : okW (secP a)) (hy : okW y) : hasF (L1 a 10) (fpP y) ↔ canP a 1 y := by
  constructor
  · rintro ⟨e, he, q⟩
    obtain ⟨v, hv, ha, rfl⟩ := (mem_L1 10).1 he
    have e1 := fpP_inj (okW_mP hR hv hs) hy q
    exact ⟨oppV v, opp_lt v, by rw [al_opp]; exact ha, (mP_iff hR hv hs hy).1 e1.symm⟩
  · rintro ⟨v, hv, ha, h⟩
    have h : mP a v y = secP a := h
    have e1 : y = mP a (oppV v) (secP a) := (mP_iff hR (opp_lt v) hs hy).2 (by rw [opp2 hv]; exact h)
    exact ⟨_, (mem_L1 10).2 ⟨oppV v, opp_lt v, by rw [al_opp]; exact ha, rfl⟩, by rw [← e1]⟩
theorem has_L3 {a : Nat → Int32} {y : DN} (hR : okR a) (hs : okW (secP a)) (hy : okW y) : hasF (L3 a 10) (fpP y) ↔ canP a 2 y := by
  constructor
  · rintro ⟨e, he, q⟩
    obtain ⟨v, hv, ha, h2⟩ := (mem_L3 10).1 he
    obtain ⟨u, hu, hb, rfl⟩ := (mem_L2 10).1 h2
    have hvs := okW_mP hR hv hs
    have e1 := fpP_inj (okW_mP hR hu hvs) hy q
    have e2 := (mP_iff hR hu hvs hy).1 e1.symm
    have huy := okW_mP hR (opp_lt u) hy
    have e3 := (mP_iff hR hv hs huy).1 e2
    exact ⟨oppV u, opp_lt u, by rw [al_opp]; exact hb, oppV v, opp_lt v, by rw [al_opp]; exact ha, e3⟩
  · rintro ⟨u, hu, hb, v, hv, ha, h⟩
    have h : mP a v (mP a u y) = secP a := h
    have huy := okW_mP hR hu hy
    have e2 : mP a u y = mP a (oppV v) (secP a) := (mP_iff hR (opp_lt v) hs huy).2 (by rw [opp2 hv]; exact h)
    have e1 : y = mP a (oppV u) (mP a (oppV v) (secP a)) := (mP_iff hR (opp_lt u) (okW_mP hR (opp_lt v) hs) hy).2 (by rw [opp2 hu]; exact e2)
    exact ⟨_, (mem_L3 10).2 ⟨oppV v, opp_lt v, by rw [al_opp]; exact ha, (mem_L2 10).2 ⟨oppV u, opp_lt u, by rw [al_opp]; exact hb, rfl⟩⟩, by rw [← e1]⟩
theorem has_0 {a : Nat → Int32} {y : DN} (hs : okW (secP a)) (hy : okW y) : hasF [(fpP (secP a), 0)] (fpP y) ↔ canP a 0 y := by
  constructor
  · rintro ⟨e, he, q⟩
    rw [List.mem_singleton] at he
    subst he
    exact (fpP_inj hs hy q).symm
  · intro h
    have h : y = secP a := h
    exact ⟨_, List.mem_singleton.2 rfl, by rw [h]⟩
/-- what the list tells -/
theorem lk_near {a : Nat → Int32} {y : DN} (hR : okR a) (hs : okW (secP a)) (hy : okW y) :
    (∃ t, t ≤ 2 ∧ canP a t y ∧ (∀ u, u < t → ¬ canP a u y) ∧ lkR (nearL a) (fpP y) = nI t) ∨ ((∀ u, u ≤ 2 → ¬ canP a u y) ∧ lkR (nearL a) (fpP y) = -1) := by
  unfold nearL
  rw [List.append_assoc]
  by_cases c0 : canP a 0 y
  · left
    have h := (has_0 hs hy).2 c0
    exact ⟨0, by omega, c0, fun u hu => absurd hu (Nat.not_lt_zero _), by rw [lk_l h, lk_const (t := 0) (fun e he => by rw [List.mem_singleton] at he; rw [he]) h]⟩
  · rw [lk_r (fun q => c0 ((has_0 hs hy).1 q))]
    by_cases c1 : canP a 1 y
    · left
      have h := (has_L1 hR hs hy).2 c1
      have hc : ∀ e, e ∈ L1 a 10 → e.2 = 1 := by
        intro e he
        obtain ⟨v, _, _, q⟩ := (mem_L1 10).1 he
        rw [q]
      refine ⟨1, by omega, c1, fun u hu => ?_, by rw [lk_l h, lk_const (t := 1) hc h]⟩
      obtain rfl : u = 0 := by omega
      exact c0
    · rw [lk_r (fun q => c1 ((has_L1 hR hs hy).1 q))]
      by_cases c2 : canP a 2 y
      · left
        have h := (has_L3 hR hs hy).2 c2
        have hc : ∀ e, e ∈ L3 a 10 → e.2 = 2 := by
          intro e he
          obtain ⟨v, _, _, q⟩ := (mem_L3 10).1 he
          obtain ⟨w, _, _, q⟩ := (mem_L2 10).1 q
          rw [q]
        refine ⟨2, by omega, c2, fun u hu => ?_, by rw [lk_const (t := 2) hc h]⟩
        have : u = 0 ∨ u = 1 := by omega
        rcases this with rfl | rfl
        · exact c0
        · exact c1
      · right
        refine ⟨fun u hu => ?_, lk_none (fun q => c2 ((has_L3 hR hs hy).1 q))⟩
        have : u = 0 ∨ u = 1 ∨ u = 2 := by omega
        rcases this with rfl | rfl | rfl
        · exact c0
        · exact c1
        · exact c2
theorem nI_m1 {t : Nat} (h : t < 2147483648) : nI t ≠ -1 := fun e => nI_lt0 h (by rw [e]; decide)
theorem mt_iff {a : Nat → Int32} {y : DN} (hR : okR a) (hs : okW (secP a)) (hy : okW y) (hn : ∀ u, u ≤ 2 → ¬ canP a u y) : mt a (nearL a) y = true ↔ canP a 3 y := by
  unfold mt
  rw [decide_eq_true_iff, fb_lt]
  constructor
  · rintro ⟨u, hu, h⟩
    obtain ⟨h1, h2⟩ := (Bool.and_eq_true _ _).mp h
    have h2 := of_decide_eq_true h2
    rcases lk_near hR hs (okW_mP hR hu hy) with ⟨t, ht, hc, _, _⟩ | ⟨_, h3⟩
    · by_cases c : t = 2
      · subst c; exact ⟨u, hu, h1, hc⟩
      · exact absurd (show canP a (t + 1) y from ⟨u, hu, h1, hc⟩) (hn (t + 1) (by omega))
    · exact absurd h3 h2
  · rintro ⟨u, hu, h1, hc⟩
    refine ⟨u, hu, (Bool.and_eq_true _ _).mpr ⟨h1, decide_eq_true ?_⟩⟩
    rcases lk_near hR hs (okW_mP hR hu hy) with ⟨t, ht, _, _, h3⟩ | ⟨h3, _⟩
    · rw [h3]; exact nI_m1 (by omega)
    · exact absurd hc (h3 2 (by omega))
/-- the best first turn, of those below v -/
def tfI (a : Nat → Int32) (v : Nat) (s : Int32 × Int32) : Prop :=
  (s.1 = -1 ∧ s.2 = -1 ∧ ∀ u, u < v → al a u = true → ∀ n, n ≤ 3 → ¬ canP a n (mP a u (posP a))) ∨
  ∃ n u, n ≤ 3 ∧ u < v ∧ al a u = true ∧ canP a n (mP a u (posP a)) ∧ s.1 = nI (n + 1) ∧ s.2 = nI u ∧ (∀ w, w < v → al a w = true → ∀ m, m < n → ¬ canP a m (mP a w (posP a))) ∧ (∀ w, w < u → al a w = true → ¬ canP a n (mP a w (posP a)))
theorem tf_step {a : Nat → Int32} {v : Nat} {s : Int32 × Int32} (hR : okR a) (hs : okW (secP a)) (hx : okW (posP a)) (hv : v < 10) (ha : al a v = true) (h : tfI a v s) : tfI a (v + 1) (tfS a (nearL a) v s) := by
  have hy := okW_mP hR hv hx
  unfold tfS
  have below : ∀ {P : Nat → Prop}, (∀ w, w < v → P w) → P v → ∀ w, w < v + 1 → P w := by
    intro P h1 h2 w hw
    by_cases c : w = v
    · rw [c]; exact h2
    · exact h1 w (by omega)
  rcases lk_near hR hs hy with ⟨t, ht, hc, hl, e⟩ | ⟨hn, e⟩
  · have hm := nI_m1 (t := t) (by omega)
    have eT : tfR a (nearL a) v s.1 = nI t := by unfold tfR; rw [e, if_neg (fun q => hm q.1)]
    rw [eT]
    have e1 : nI t + 1 = nI (t + 1) := i_s t
    rw [e1]
    rcases h with ⟨f1, f2, f3⟩ | ⟨n, u, n3, uv, ua, uc, f1, f2, f3, f4⟩
    · rw [if_pos ⟨hm, Or.inl f1⟩]
      right
      exact ⟨t, v, by omega, by omega, ha, hc, rfl, rfl, below (fun w hw wa m hm => f3 w hw wa m (by omega)) (fun _ m hm => hl m hm), fun w hw wa => f3 w hw wa t (by omega)⟩
    · rw [f1]
      have hlt : (nI (t + 1) < nI (n + 1)) = (t + 1 < n + 1) := i_lt (by omega) (by omega)
      by_cases c : t + 1 < n + 1
      · rw [if_pos ⟨hm, Or.inr (hlt.mpr c)⟩]
        right
        exact ⟨t, v, by omega, by omega, ha, hc, rfl, rfl, below (fun w hw wa m hm => f3 w hw wa m (by omega)) (fun _ m hm => hl m hm), fun w hw wa => f3 w hw wa t (by omega)⟩
      · rw [if_neg (fun q => by
          rcases q.2 with q | q
          · exact nI_m1 (by omega) q
          · exact c (hlt.mp q))]
        right
        exact ⟨n, u, n3, by omega, ua, uc, f1, f2, below f3 (fun _ m hm => hl m (by omega)), f4⟩
  · rcases h with ⟨f1, f2, f3⟩ | ⟨n, u, n3, uv, ua, uc, f1, f2, f3, f4⟩
    · by_cases c : mt a (nearL a) (mP a v (posP a)) = true
      · have eT : tfR a (nearL a) v s.1 = 3 := by unfold tfR; rw [e, if_pos ⟨rfl, f1, c⟩]
        rw [eT, if_pos ⟨by decide, Or.inl f1⟩]
        have hc := (mt_iff hR hs hy hn).1 c
        right
        exact ⟨3, v, by omega, by omega, ha, hc, rfl, rfl, below (fun w hw wa m hm => f3 w hw wa m (by omega)) (fun _ m hm => hn m (by omega)), fun w hw wa => f3 w hw wa 3 (by omega)⟩
      · have eT : tfR a (nearL a) v s.1 = -1 := by unfold tfR; rw [e, if_neg (fun q => c q.2.2)]
        rw [eT, if_neg (fun q => q.1 rfl)]
        left
        refine ⟨f1, f2, below f3 (fun _ m hm => ?_)⟩
        by_cases c3 : m = 3
        · subst c3; exact fun q => c ((mt_iff hR hs hy hn).2 q)
        · exact hn m (by omega)
    · have eT : tfR a (nearL a) v s.1 = -1 := by unfold tfR; rw [e, if_neg (fun q => by rw [f1] at q; exact nI_m1 (by omega) q.2.1)]
      rw [eT, if_neg (fun q => q.1 rfl)]
      right
      exact ⟨n, u, n3, by omega, ua, uc, f1, f2, below f3 (fun _ m hm => hn m (by omega)), f4⟩
theorem tf_skip {a : Nat → Int32} {v : Nat} {s : Int32 × Int32} (ha : al a v = false) (h : tfI a v s) : tfI a (v + 1) s := by
  have sk : ∀ w, w < v + 1 → al a w = true → w < v := by
    intro w hw wa
    by_cases c : w = v
    · rw [c, ha] at wa; exact absurd wa (by decide)
    · omega
  rcases h with ⟨f1, f2, f3⟩ | ⟨n, u, n3, uv, ua, uc, f1, f2, f3, f4⟩
  · exact Or.inl ⟨f1, f2, fun w hw wa => f3 w (sk w hw wa) wa⟩
  · exact Or.inr ⟨n, u, n3, by omega, ua, uc, f1, f2, fun w hw wa => f3 w (sk w hw wa) wa, f4⟩
theorem tf_all {a : Nat → Int32} (hR : okR a) (hs : okW (secP a)) (hx : okW (posP a)) : ∀ v, v ≤ 10 → tfI a v (tfL a (nearL a) v)
  | 0, _ => Or.inl ⟨rfl, rfl, fun u hu => absurd hu (Nat.not_lt_zero _)⟩
  | v + 1, h => by
    have ih := tf_all hR hs hx v (by omega)
    show tfI a (v + 1) (if al a v = true then tfS a (nearL a) v (tfL a (nearL a) v) else tfL a (nearL a) v)
    cases c : al a v
    · rw [if_neg Bool.false_ne_true]; exact tf_skip c ih
    · rw [if_pos rfl]; exact tf_step hR hs hx (by omega) c ih
theorem tf_op {a : Nat → Int32} (hR : okR a) (h1 : a 36 = 1) (hn0 : canB 0 a = false) (hs : okW (secP a)) (hx : okW (posP a)) : tfL a (nearL a) 10 = (aOp a 0, aOp a 1) := by
  have hc : ∀ n, canB (n + 1) a = true ↔ ∃ v, v < 10 ∧ al a v = true ∧ canP a n (mP a v (posP a)) := fun n => by rw [canB_P (n + 1) a hR h1]; exact Iff.rfl
  have hcT : ∀ n v, v < 10 → (canB n (aTr a v) = true ↔ canP a n (mP a v (posP a))) := fun n v hv => by
    rw [canB_P n (aTr a v) (okR_aTr hR hv) (by rw [aTr_o (by omega)]; exact h1), canP_Tr, posP_Tr hR hv]
  have f_of : ∀ {b : Bool}, ¬ b = true → b = false := by intro b h; cases b; rfl; exact absurd rfl h
  have e36 : ¬ a 36 = 0 := by rw [h1]; decide
  unfold aOp
  rw [if_neg e36, if_neg e36, hn0, if_neg Bool.false_ne_true, if_neg Bool.false_ne_true]
  rcases tf_all hR hs hx 10 (Nat.le_refl _) with ⟨f1, f2, f3⟩ | ⟨n, u, n3, uv, ua, uc, f1, f2, f3, f4⟩
  · have e5 : aOpN a = 5 := by
      unfold aOpN
      rw [fb_no]
      intro j a1 a2
      refine f_of (fun q => ?_)
      obtain ⟨k, rfl⟩ : ∃ k, j = k + 1 := ⟨j - 1, by omega⟩
      obtain ⟨v, hv, ha, hcc⟩ := (hc k).1 q
      exact f3 v hv ha k (by omega) hcc
    rw [e5, if_neg (by decide), if_neg (by decide)]
    exact Prod.ext f1 f2
  · have e5 : aOpN a = n + 1 := by
      unfold aOpN
      refine fb_eq (by omega) (by omega) ((hc n).2 ⟨u, uv, ua, uc⟩) (fun j a1 a2 => f_of (fun q => ?_))
      obtain ⟨k, rfl⟩ : ∃ k, j = k + 1 := ⟨j - 1, by omega⟩
      obtain ⟨v, hv, ha, hcc⟩ := (hc k).1 q
      exact f3 v hv ha k (by omega) hcc
    rw [e5, if_pos (show n + 1 < 5 by omega), if_pos rfl, if_pos (show n + 1 < 5 by omega), if_neg (by decide), Nat.add_sub_cancel]
    refine Prod.ext f1 ?_
    rw [f2]
    congr 1
    refine (fb_eq (Nat.zero_le _) (by omega) ((Bool.and_eq_true _ _).mpr ⟨ua, (hcT n u uv).2 uc⟩) (fun j _ hj => f_of (fun q => ?_))).symm
    obtain ⟨q1, q2⟩ := (Bool.and_eq_true _ _).mp q
    exact f4 j hj q1 ((hcT n j (by omega)).1 q2)
