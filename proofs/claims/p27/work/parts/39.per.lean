/-! ===== rounds ===== -/
theorem pigeon : ∀ (n : Nat) (f : Nat → Nat), (∀ i, i ≤ n → f i < n) → ∃ i j, i < j ∧ j ≤ n ∧ f i = f j
  | 0, f, h => absurd (h 0 (Nat.le_refl _)) (Nat.not_lt_zero _)
  | n + 1, f, h => by
    by_cases ha : f (n + 1) = n
    · by_cases hb : ∃ i, i ≤ n ∧ f i = n
      · obtain ⟨i, hi, e⟩ := hb
        exact ⟨i, n + 1, by omega, Nat.le_refl _, by rw [e, ha]⟩
      · obtain ⟨i, j, h1, h2, h3⟩ := pigeon n f (fun i hi => by
          have := h i (by omega)
          have hne : f i ≠ n := fun e => hb ⟨i, hi, e⟩
          omega)
        exact ⟨i, j, h1, by omega, h3⟩
    · have hb : f (n + 1) < n := by have := h (n + 1) (Nat.le_refl _); omega
      obtain ⟨i, j, h1, h2, h3⟩ := pigeon n (fun i => if f i = n then f (n + 1) else f i) (fun i hi => by
        have := h i (by omega)
        show (if f i = n then f (n + 1) else f i) < n
        split
        · exact hb
        · omega)
      by_cases ci : f i = n <;> by_cases cj : f j = n
      · exact ⟨i, j, h1, by omega, by rw [ci, cj]⟩
      · rw [if_pos ci, if_neg cj] at h3
        exact ⟨j, n + 1, by omega, Nat.le_refl _, h3.symm⟩
      · rw [if_neg ci, if_pos cj] at h3
        exact ⟨i, n + 1, by omega, Nat.le_refl _, h3⟩
      · rw [if_neg ci, if_neg cj] at h3
        exact ⟨i, j, h1, by omega, h3⟩
theorem plU_sp {d : Nat → Nat} {w : Nat} : ∀ i, (∃ q, q < i ∧ d q = w) → plU d w i < i ∧ d (plU d w i) = w
  | 0, h => by obtain ⟨q, hq, _⟩ := h; exact absurd hq (Nat.not_lt_zero _)
  | i + 1, h => by
    unfold plU
    split
    · rename_i e; exact ⟨by omega, e⟩
    · rename_i e
      have := plU_sp (d := d) (w := w) i (by
        obtain ⟨q, hq, e'⟩ := h
        refine ⟨q, ?_, e'⟩
        by_cases c : q = i
        · subst c; exact absurd e' e
        · omega)
      exact ⟨by omega, this.2⟩
theorem pl_lt {d : Nat → Nat} (hp : pmF d) {w : Nat} (hw : w < 6) : plF d w < 6 := (plU_sp 6 (hp w hw)).1
theorem pl_d {d : Nat → Nat} (hp : pmF d) {w : Nat} (hw : w < 6) : d (plF d w) = w := (plU_sp 6 (hp w hw)).2
theorem orb_s (d : Nat → Nat) (p t : Nat) : orbM d p (t + 1) = plF d (orbM d p t) := rfl
theorem orb_lt {d : Nat → Nat} (hp : pmF d) {p : Nat} (h : p < 6) : ∀ t, orbM d p t < 6
  | 0 => h
  | t + 1 => pl_lt hp (orb_lt hp h t)
theorem orb_add (d : Nat → Nat) (p b : Nat) : ∀ a, orbM d p (a + b) = orbM d (orbM d p b) a
  | 0 => by rw [Nat.zero_add]; rfl
  | a + 1 => by rw [show a + 1 + b = a + b + 1 by omega, orb_s, orb_add d p b a, ← orb_s]
/-- the disc that comes t positions on -/
def itD (d : Nat → Nat) : Nat → Nat → Nat
  | 0, p => p
  | t + 1, p => d (itD d t p)
theorem itD_s' (d : Nat → Nat) : ∀ t p, itD d (t + 1) p = itD d t (d p)
  | 0, _ => rfl
  | t + 1, p => by
    show d (itD d (t + 1) p) = d (itD d t (d p))
    rw [itD_s' d t p]
theorem itD_orb {d : Nat → Nat} (hp : pmF d) : ∀ (t p : Nat), p < 6 → itD d t (orbM d p t) = p
  | 0, _, _ => rfl
  | t + 1, p, h => by
    rw [itD_s', orb_s, pl_d hp (orb_lt hp h t), itD_orb hp t p h]
theorem itD_lt {d : Nat → Nat} (hd : ∀ p, p < 6 → d p < 6) : ∀ (t p : Nat), p < 6 → itD d t p < 6
  | 0, _, h => h
  | t + 1, p, h => hd _ (itD_lt hd t p h)
theorem orb_ret {d : Nat → Nat} (hp : pmF d) {p : Nat} (h : p < 6) : ∃ t, 1 ≤ t ∧ t ≤ 6 ∧ orbM d p t = p := by
  obtain ⟨i, j, h1, h2, h3⟩ := pigeon 6 (orbM d p) (fun i _ => orb_lt hp h i)
  refine ⟨j - i, by omega, by omega, ?_⟩
  have e1 := itD_orb hp i p h
  have e2 := itD_orb hp i (orbM d p (j - i)) (orb_lt hp h _)
  rw [← orb_add, show i + (j - i) = j by omega, ← h3, e1] at e2
  exact e2.symm
theorem cL_sp {d : Nat → Nat} (hp : pmF d) {p : Nat} (h : p < 6) : 1 ≤ cL d p ∧ cL d p ≤ 6 ∧ orbM d p (cL d p) = p ∧ ∀ t, 1 ≤ t → t < cL d p → orbM d p t ≠ p := by
  obtain ⟨t0, g1, g2, g3⟩ := orb_ret hp h
  have step : ∀ c, 1 ≤ c → c ≤ 6 → orbM d p c = p → (∀ t, 1 ≤ t → t < c → orbM d p t ≠ p) → 1 ≤ c ∧ c ≤ 6 ∧ orbM d p c = p ∧ ∀ t, 1 ≤ t → t < c → orbM d p t ≠ p := fun c a b e f => ⟨a, b, e, f⟩
  unfold cL
  by_cases c1 : orbM d p 1 = p
  · rw [if_pos c1]; exact step 1 (by omega) (by omega) c1 (fun t a b => by omega)
  rw [if_neg c1]
  by_cases c2 : orbM d p 2 = p
  · rw [if_pos c2]; refine step 2 (by omega) (by omega) c2 (fun t a b => ?_)
    obtain rfl : t = 1 := by omega
    exact c1
  rw [if_neg c2]
  by_cases c3 : orbM d p 3 = p
  · rw [if_pos c3]; refine step 3 (by omega) (by omega) c3 (fun t a b => ?_)
    have : t = 1 ∨ t = 2 := by omega
    rcases this with rfl | rfl <;> assumption
  rw [if_neg c3]
  by_cases c4 : orbM d p 4 = p
  · rw [if_pos c4]; refine step 4 (by omega) (by omega) c4 (fun t a b => ?_)
    have : t = 1 ∨ t = 2 ∨ t = 3 := by omega
    rcases this with rfl | rfl | rfl <;> assumption
  rw [if_neg c4]
  by_cases c5 : orbM d p 5 = p
  · rw [if_pos c5]; refine step 5 (by omega) (by omega) c5 (fun t a b => ?_)
    have : t = 1 ∨ t = 2 ∨ t = 3 ∨ t = 4 := by omega
    rcases this with rfl | rfl | rfl | rfl <;> assumption
  rw [if_neg c5]
  have c6 : orbM d p 6 = p := by
    have : t0 = 1 ∨ t0 = 2 ∨ t0 = 3 ∨ t0 = 4 ∨ t0 = 5 ∨ t0 = 6 := by omega
    rcases this with rfl | rfl | rfl | rfl | rfl | rfl
    · exact absurd g3 c1
    · exact absurd g3 c2
    · exact absurd g3 c3
    · exact absurd g3 c4
    · exact absurd g3 c5
    · exact g3
  refine step 6 (by omega) (by omega) c6 (fun t a b => ?_)
  have : t = 1 ∨ t = 2 ∨ t = 3 ∨ t = 4 ∨ t = 5 := by omega
  rcases this with rfl | rfl | rfl | rfl | rfl <;> assumption
theorem orb_mul {d : Nat → Nat} (hp : pmF d) {p : Nat} (h : p < 6) : ∀ k, orbM d p (cL d p * k) = p
  | 0 => rfl
  | k + 1 => by rw [Nat.mul_succ, orb_add, (cL_sp hp h).2.2.1, orb_mul hp h k]
theorem orb_iff {d : Nat → Nat} (hp : pmF d) {p : Nat} (h : p < 6) (t : Nat) : orbM d p t = p ↔ cL d p ∣ t := by
  obtain ⟨c1, c2, c3, c4⟩ := cL_sp hp h
  constructor
  · intro e
    have hr : t % cL d p < cL d p := Nat.mod_lt _ (by omega)
    have e2 : orbM d p (t % cL d p + cL d p * (t / cL d p)) = orbM d p (t % cL d p) := by rw [orb_add, orb_mul hp h]
    rw [Nat.mod_add_div, e] at e2
    by_cases z : t % cL d p = 0
    · exact Nat.dvd_of_mod_eq_zero z
    · exact absurd e2.symm (c4 _ (by omega) hr)
  · rintro ⟨k, rfl⟩
    exact orb_mul hp h k
theorem pl_of {d : Nat → Nat} (hp : pmF d) {i w : Nat} (hi : i < 6) (e : d i = w) : i = plF d w := by
  obtain ⟨t, h1, h2, h3⟩ := orb_ret hp hi
  obtain ⟨u, rfl⟩ : ∃ u, t = u + 1 := ⟨t - 1, by omega⟩
  rw [orb_s] at h3
  have := pl_d hp (orb_lt hp hi u)
  rw [h3, e] at this
  rw [this]; exact h3.symm
/-- the notches on the way -/
def sN (d n : Nat → Nat) (p t : Nat) : Nat := sm (fun i => n (orbM d p (i + 1))) t
theorem sN_add (d n : Nat → Nat) (p b : Nat) : ∀ a, sN d n p (b + a) = sN d n p b + sN d n (orbM d p b) a
  | 0 => rfl
  | a + 1 => by
    show sN d n p (b + a) + n (orbM d p (b + a + 1)) = sN d n p b + (sN d n (orbM d p b) a + n (orbM d (orbM d p b) (a + 1)))
    rw [sN_add d n p b a, show b + a + 1 = a + 1 + b by omega, orb_add]
    omega
theorem sN_mul {d : Nat → Nat} (n : Nat → Nat) (hp : pmF d) {p : Nat} (h : p < 6) : ∀ k, sN d n p (cL d p * k) = k * cS d n p
  | 0 => by rw [Nat.zero_mul]; rfl
  | k + 1 => by
    rw [Nat.mul_succ, sN_add, orb_mul hp h, sN_mul n hp h k, Nat.succ_mul]; rfl
theorem mod5 (k c : Nat) : (k * c) % 5 = 0 ↔ c % 5 = 0 ∨ k % 5 = 0 := by
  rw [Nat.mul_mod]
  have h1 : k % 5 < 5 := Nat.mod_lt _ (by decide)
  have h2 : c % 5 < 5 := Nat.mod_lt _ (by decide)
  generalize k % 5 = x at *
  generalize c % 5 = y at *
  have : ∀ x, x < 5 → ∀ y, y < 5 → ((x * y) % 5 = 0 ↔ y = 0 ∨ x = 0) := by decide
  exact this x h1 y h2
theorem its_iff {d : Nat → Nat} (n : Nat → Nat) (hp : pmF d) {p : Nat} (h : p < 6) (t : Nat) : itsF d n p ∣ t ↔ orbM d p t = p ∧ sN d n p t % 5 = 0 := by
  have hc := (cL_sp hp h).1
  unfold itsF
  rw [orb_iff hp h]
  constructor
  · intro hd
    have h1 : cL d p ∣ t := by
      split at hd
      · exact hd
      · exact Nat.dvd_trans (Nat.dvd_mul_left _ _) hd
    refine ⟨h1, ?_⟩
    obtain ⟨k, rfl⟩ := h1
    rw [sN_mul n hp h, mod5]
    split at hd
    · rename_i c; exact Or.inl c
    · rename_i c
      right
      rw [Nat.mul_comm 5] at hd
      have := Nat.dvd_of_mul_dvd_mul_left hc hd
      exact Nat.mod_eq_zero_of_dvd this
  · rintro ⟨⟨k, rfl⟩, h2⟩
    rw [sN_mul n hp h, mod5] at h2
    split
    · exact Nat.dvd_mul_right _ _
    · rename_i c
      rcases h2 with h2 | h2
      · exact absurd h2 c
      · rw [Nat.mul_comm 5]
        exact Nat.mul_dvd_mul_left _ (Nat.dvd_of_mod_eq_zero h2)
theorem perU_iff (d n : Nat → Nat) (t : Nat) : ∀ k, perU d n k ∣ t ↔ ∀ p, p < k → itsF d n p ∣ t
  | 0 => ⟨fun _ p hp => absurd hp (Nat.not_lt_zero _), fun _ => Nat.one_dvd _⟩
  | k + 1 => by
    unfold perU
    rw [Nat.lcm_dvd_iff, perU_iff d n t k]
    constructor
    · rintro ⟨h1, h2⟩ p hp
      by_cases e : p = k
      · subst e; exact h2
      · exact h1 p (by omega)
    · intro h
      exact ⟨fun p hp => h p (by omega), h k (by omega)⟩
theorem its_300 {d : Nat → Nat} (n : Nat → Nat) (hp : pmF d) {p : Nat} (h : p < 6) : itsF d n p ∣ 300 := by
  obtain ⟨c1, c2, _, _⟩ := cL_sp hp h
  have : cL d p = 1 ∨ cL d p = 2 ∨ cL d p = 3 ∨ cL d p = 4 ∨ cL d p = 5 ∨ cL d p = 6 := by omega
  unfold itsF
  split <;> rcases this with e | e | e | e | e | e <;> rw [e] <;> decide
theorem its_pos {d : Nat → Nat} (n : Nat → Nat) (hp : pmF d) {p : Nat} (h : p < 6) : 0 < itsF d n p := Nat.pos_of_dvd_of_pos (its_300 n hp h) (by decide)
theorem perF_300 {d : Nat → Nat} (n : Nat → Nat) (hp : pmF d) : perF d n ∣ 300 := (perU_iff d n 300 6).2 (fun _ h => its_300 n hp h)
theorem perF_le {d : Nat → Nat} (n : Nat → Nat) (hp : pmF d) : perF d n ≤ 300 := Nat.le_of_dvd (by decide) (perF_300 n hp)
theorem perF_pos {d : Nat → Nat} (n : Nat → Nat) (hp : pmF d) : 0 < perF d n := Nat.pos_of_dvd_of_pos (perF_300 n hp) (by decide)
/-! doing a word t times -/
def itN (d n : Nat → Nat) : Nat → Nat → Nat
  | 0, _ => 0
  | t + 1, p => itN d n t p + n (itD d t p)
theorem sm_rev (f : Nat → Nat) : ∀ t, sm (fun i => f (t - i)) t = sm (fun i => f (i + 1)) t := by
  have h2 : ∀ (g : Nat → Nat) (t : Nat), sm g (t + 1) = g 0 + sm (fun i => g (i + 1)) t := by
    intro g t
    induction t with
    | zero => simp [sm]
    | succ t ih => rw [sm_succ, ih, sm_succ]; omega
  intro t
  induction t with
  | zero => rfl
  | succ t ih =>
    rw [h2, sm_succ]
    have : sm (fun i => f (t + 1 - (i + 1))) t = sm (fun i => f (t - i)) t := sm_cong (fun k _ => by rw [Nat.add_sub_add_right])
    rw [this, ih]
    simp only [Nat.sub_zero]
    omega
theorem itN_sm (d n : Nat → Nat) (p : Nat) : ∀ t, itN d n t p = sm (fun i => n (itD d i p)) t
  | 0 => rfl
  | t + 1 => by rw [sm_succ, ← itN_sm d n p t]; rfl
theorem it_id {d : Nat → Nat} (n : Nat → Nat) (hp : pmF d) (hd : ∀ p, p < 6 → d p < 6) (t : Nat) : (∀ p, p < 6 → itD d t p = p ∧ itN d n t p % 5 = 0) ↔ perF d n ∣ t := by
  unfold perF
  rw [perU_iff]
  have key : ∀ p, p < 6 → orbM d p t = p → itN d n t p = sN d n p t := by
    intro p h e
    rw [itN_sm]
    unfold sN
    rw [← sm_rev (fun i => n (orbM d p i)) t]
    refine sm_cong (fun i hi => ?_)
    have := itD_orb hp i (orbM d p (t - i)) (orb_lt hp h _)
    rw [← orb_add, show i + (t - i) = t by omega, e] at this
    rw [this]
  constructor
  · intro h p hp6
    have e : orbM d p t = p := by
      have h1 := itD_orb hp t p hp6
      rw [(h _ (orb_lt hp hp6 t)).1] at h1
      exact h1
    rw [its_iff n hp hp6]
    exact ⟨e, by rw [← key p hp6 e]; exact (h p hp6).2⟩
  · intro h p hp6
    have := (its_iff n hp hp6 t).1 (h p hp6)
    refine ⟨?_, by rw [key p hp6 this.1]; exact this.2⟩
    have h1 := itD_orb hp t p hp6
    rw [this.1] at h1
    exact h1
