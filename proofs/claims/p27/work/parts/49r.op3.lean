theorem oB_congr : ∀ (m r r2 : Nat) (a : Nat → Int32), (∀ k, k < m → r / 10 ^ k % 10 = r2 / 10 ^ k % 10) → oB m r a = oB m r2 a
  | 0, _, _, _, _ => rfl
  | m + 1, r, r2, a, h => by
    show (al a (r / 10 ^ m % 10) && oB m r (aTr a (r / 10 ^ m % 10))) = (al a (r2 / 10 ^ m % 10) && oB m r2 (aTr a (r2 / 10 ^ m % 10)))
    rw [h m (by omega), oB_congr m r r2 _ (fun k hk => h k (by omega))]
theorem dig_low {v m r k : Nat} (hk : k < m) : (v * 10 ^ m + r) / 10 ^ k % 10 = r / 10 ^ k % 10 := by
  obtain ⟨d, rfl⟩ : ∃ d, m = k + (d + 1) := ⟨m - k - 1, by omega⟩
  have hp : 0 < 10 ^ k := Nat.pow_pos (by decide)
  rw [Nat.pow_add, show v * (10 ^ k * 10 ^ (d + 1)) + r = r + 10 ^ k * (v * 10 ^ (d + 1)) by rw [Nat.mul_left_comm, Nat.add_comm], Nat.add_mul_div_left _ _ hp, Nat.pow_succ, ← Nat.mul_assoc, Nat.add_mul_mod_self_right]
theorem dig_top {v m r : Nat} (hr : r < 10 ^ m) : (v * 10 ^ m + r) / 10 ^ m = v := by
  have hp : 0 < 10 ^ m := Nat.pow_pos (by decide)
  rw [Nat.add_comm, Nat.add_mul_div_right _ _ hp, Nat.div_eq_of_lt hr, Nat.zero_add]
theorem oB_can : ∀ (m r : Nat) (a : Nat → Int32), oB m r a = true → canB m a = true
  | 0, _, _, h => h
  | m + 1, r, a, h => by
    obtain ⟨h1, h2⟩ := (Bool.and_eq_true _ _).mp (show (al a (r / 10 ^ m % 10) && oB m r (aTr a (r / 10 ^ m % 10))) = true from h)
    exact canB_s.2 ⟨_, Nat.mod_lt _ (by decide), h1, oB_can m r _ h2⟩
theorem oB_row {m v r : Nat} {a : Nat → Int32} (hv : v < 10) (hr : r < 10 ^ m) : oB (m + 1) (v * 10 ^ m + r) a = (al a v && oB m r (aTr a v)) := by
  show (al a ((v * 10 ^ m + r) / 10 ^ m % 10) && oB m (v * 10 ^ m + r) (aTr a ((v * 10 ^ m + r) / 10 ^ m % 10))) = _
  rw [dig_top hr, Nat.mod_eq_of_lt hv, oB_congr m _ r _ (fun k hk => dig_low hk)]
theorem can_oB : ∀ (m : Nat) (a : Nat → Int32), canB m a = true → ∃ r, r < 10 ^ m ∧ oB m r a = true
  | 0, _, h => ⟨0, by decide, h⟩
  | m + 1, a, h => by
    obtain ⟨v, hv, h1, h2⟩ := canB_s.1 h
    obtain ⟨r, hr, h3⟩ := can_oB m _ h2
    refine ⟨v * 10 ^ m + r, ?_, by rw [oB_row hv hr, h1, h3]; rfl⟩
    have : v * 10 ^ m ≤ 9 * 10 ^ m := Nat.mul_le_mul_right _ (by omega)
    rw [Nat.pow_succ]; omega
theorem p10 {n : Nat} (h : n ≤ 4) : 10 ^ n ≤ 10000 := Nat.pow_le_pow_right (n := 10) (by decide) h
theorem p10_0 (n : Nat) : 0 < 10 ^ n := Nat.pow_pos (by decide)
/-- the least row that opens -/
theorem oB_least {m r : Nat} {a : Nat → Int32} (hr : r < 10 ^ (m + 1)) (h : oB (m + 1) r a = true) (hl : ∀ q, q < r → oB (m + 1) q a = false) : fb (fun v => al a v && canB m (aTr a v)) 10 0 = r / 10 ^ m := by
  have hv : r / 10 ^ m < 10 := by
    rw [Nat.div_lt_iff_lt_mul (p10_0 m)]
    rw [Nat.pow_succ] at hr; omega
  have h' : (al a (r / 10 ^ m % 10) && oB m r (aTr a (r / 10 ^ m % 10))) = true := h
  rw [Nat.mod_eq_of_lt hv] at h'
  obtain ⟨h1, h2⟩ := (Bool.and_eq_true _ _).mp h'
  refine fb_eq (Nat.zero_le _) (by omega) ((Bool.and_eq_true _ _).mpr ⟨h1, oB_can m r _ h2⟩) (fun j _ hj => ?_)
  cases c : (al a j && canB m (aTr a j))
  · rfl
  · obtain ⟨c1, c2⟩ := (Bool.and_eq_true _ _).mp c
    obtain ⟨q, hq, c3⟩ := can_oB m _ c2
    have e := oB_row (a := a) (show j < 10 by omega) hq
    rw [c1, c3] at e
    have hlt : j * 10 ^ m + q < r := by
      have h5 : (j + 1) * 10 ^ m ≤ r / 10 ^ m * 10 ^ m := Nat.mul_le_mul_right _ hj
      have h6 := Nat.div_mul_le_self r (10 ^ m)
      rw [Nat.succ_mul] at h5
      omega
    rw [hl _ hlt] at e
    exact absurd e (by decide)
