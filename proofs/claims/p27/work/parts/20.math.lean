/-! ===== numbers ===== -/
def nt (x : Int32) : Nat := x.toNatClampNeg
theorem i_le {a b : Nat} (ha : a < 2147483648) (hb : b < 2147483648) : (nI a ≤ nI b) = (a ≤ b) := propext (nI_leI ha hb)
theorem i_lt {a b : Nat} (ha : a < 2147483648) (hb : b < 2147483648) : (nI a < nI b) = (a < b) := propext (nI_ltI ha hb)
theorem i_eq {a b : Nat} (ha : a < 2147483648) (hb : b < 2147483648) : (nI a = nI b) = (a = b) := propext (nI_eq ha hb)
theorem i_cl {a : Nat} (ha : a < 2147483648) : (nI a).toNatClampNeg = a := nI_clamp ha
theorem i_nt {a : Nat} (ha : a < 2147483648) : nt (nI a) = a := nI_clamp ha
theorem i_add (a b : Nat) : nI a + nI b = nI (a + b) := nI_add a b
theorem i_sub {a b : Nat} (h : b ≤ a) : nI a - nI b = nI (a - b) := pk_sub h
theorem i_mul (a b : Nat) : nI a * nI b = nI (a * b) := pk_mul a b
theorem i_div {a d : Nat} (ha : a < 2147483648) (h0 : 0 < d) (hd : d < 2147483648) : nI a / nI d = nI (a / d) := pk_div ha h0 hd
theorem i_rem {a d : Nat} (ha : a < 2147483648) (h0 : 0 < d) (hd : d < 2147483648) : nI a - nI a / nI d * nI d = nI (a % d) := pk_rem ha h0 hd
theorem i_and31 {a : Nat} (h : a < 32) : nI a &&& nI 31 = nI a := by
  have := pk_andN (n := a) (by omega) (m := nI 31) 5 (by decide)
  rw [this, Nat.mod_eq_of_lt (by omega)]
theorem i_and1 {a : Nat} (h : a < 2147483648) : nI a &&& nI 1 = nI (a % 2) := pk_andN (by omega) (m := nI 1) 1 (by decide)
theorem i_smod : ∀ k, k < 32 → ((nI k).toBitVec.smod 32).toNat = k := by decide +kernel
theorem i_shl {a k : Nat} (hk : k < 32) (h : a * 2 ^ k < 4294967296) : nI a <<< nI k = nI (a * 2 ^ k) := pk_shlN (nI k) k (i_smod k hk) h
theorem i_shr {a k : Nat} (hk : k < 32) (h : a < 2147483648) : nI a >>> nI k = nI (a / 2 ^ k) := pk_shrN h (nI k) k (i_smod k hk)
theorem i_shl1 {k : Nat} (hk : k < 31) : nI 1 <<< nI k = nI (2 ^ k) := by
  have h2 : 2 ^ k < 2 ^ 31 := Nat.pow_lt_pow_right (by omega) hk
  rw [i_shl (by omega) (by omega), Nat.one_mul]
theorem i_in {a n : Nat} (h : a < n) (hn : n < 2147483648) : vp_in (nI a) n := vp_in_nI h hn
theorem i_inP {a n : Nat} (h : a < n) (hn : n < 2147483648) : vp_in (nI a) n = True := eq_true (vp_in_nI h hn)
theorem nt_lt {x : Int32} : nt x < 2147483648 := by
  unfold nt
  have h1 : x.toNatClampNeg = x.toInt.toNat := rfl
  have h2 := Int32.toInt_lt x
  omega
/-- an int that isn't negative is its number -/
theorem nI_nt {x : Int32} (h : 0 ≤ x) : nI (nt x) = x := by
  obtain ⟨j, hj, rfl⟩ := nI_of (x := x) (by
    intro h2
    simp only [Int32.lt_iff_toInt_lt, Int32.le_iff_toInt_le] at h h2
    have : (0 : Int32).toInt = 0 := rfl
    omega)
  rw [i_nt hj]
theorem nI_inj {a b : Nat} (ha : a < 2147483648) (hb : b < 2147483648) (h : nI a = nI b) : a = b := (nI_eq ha hb).mp h
theorem l_0 : (0 : Int32) = nI 0 := rfl
theorem l_1 : (1 : Int32) = nI 1 := rfl
theorem l_2 : (2 : Int32) = nI 2 := rfl
theorem l_3 : (3 : Int32) = nI 3 := rfl
theorem l_4 : (4 : Int32) = nI 4 := rfl
theorem l_5 : (5 : Int32) = nI 5 := rfl
theorem l_6 : (6 : Int32) = nI 6 := rfl
theorem l_7 : (7 : Int32) = nI 7 := rfl
theorem l_8 : (8 : Int32) = nI 8 := rfl
theorem l_9 : (9 : Int32) = nI 9 := rfl
theorem l_10 : (10 : Int32) = nI 10 := rfl
theorem l_12 : (12 : Int32) = nI 12 := rfl
theorem l_18 : (18 : Int32) = nI 18 := rfl
theorem l_23 : (23 : Int32) = nI 23 := rfl
theorem l_25 : (25 : Int32) = nI 25 := rfl
theorem l_28 : (28 : Int32) = nI 28 := rfl
theorem l_30 : (30 : Int32) = nI 30 := rfl
theorem l_31 : (31 : Int32) = nI 31 := rfl
theorem l_33 : (33 : Int32) = nI 33 := rfl
theorem l_34 : (34 : Int32) = nI 34 := rfl
theorem l_35 : (35 : Int32) = nI 35 := rfl
theorem l_36 : (36 : Int32) = nI 36 := rfl
theorem l_37 : (37 : Int32) = nI 37 := rfl
theorem l_40 : (40 : Int32) = nI 40 := rfl
theorem l_41 : (41 : Int32) = nI 41 := rfl
theorem l_43 : (43 : Int32) = nI 43 := rfl
theorem l_44 : (44 : Int32) = nI 44 := rfl
theorem l_48 : (48 : Int32) = nI 48 := rfl
theorem l_49 : (49 : Int32) = nI 49 := rfl
theorem l_50 : (50 : Int32) = nI 50 := rfl
theorem l_57 : (57 : Int32) = nI 57 := rfl
theorem l_60 : (60 : Int32) = nI 60 := rfl
theorem l_63 : (63 : Int32) = nI 63 := rfl
theorem l_64 : (64 : Int32) = nI 64 := rfl
theorem l_65 : (65 : Int32) = nI 65 := rfl
theorem l_69 : (69 : Int32) = nI 69 := rfl
theorem l_91 : (91 : Int32) = nI 91 := rfl
theorem l_93 : (93 : Int32) = nI 93 := rfl
theorem l_97 : (97 : Int32) = nI 97 := rfl
theorem l_101 : (101 : Int32) = nI 101 := rfl
theorem l_111 : (111 : Int32) = nI 111 := rfl
theorem l_125 : (125 : Int32) = nI 125 := rfl
theorem l_126 : (126 : Int32) = nI 126 := rfl
theorem l_245 : (245 : Int32) = nI 245 := rfl
theorem l_294 : (294 : Int32) = nI 294 := rfl
theorem l_500 : (500 : Int32) = nI 500 := rfl
theorem l_501 : (501 : Int32) = nI 501 := rfl
theorem l_9999 : (9999 : Int32) = nI 9999 := rfl
theorem l_1000000 : (1000000 : Int32) = nI 1000000 := rfl
theorem p2_lt {k : Nat} (h : k < 31) : 2 ^ k < 2147483648 := Nat.pow_lt_pow_right (by omega) h
theorem p2_6 {k : Nat} (h : k < 6) : 2 ^ k ≤ 32 := Nat.pow_le_pow_right (by omega) (by omega : k ≤ 5)
theorem nI_or {a b : Nat} : nI a ||| nI b = nI (a ||| b) := by
  apply Int32.toBitVec_inj.1
  show BitVec.ofNat 32 a ||| BitVec.ofNat 32 b = BitVec.ofNat 32 (a ||| b)
  apply BitVec.eq_of_getLsbD_eq
  intro i hi
  simp [hi]
theorem nI_and {a b : Nat} : nI a &&& nI b = nI (a &&& b) := by
  apply Int32.toBitVec_inj.1
  show BitVec.ofNat 32 a &&& BitVec.ofNat 32 b = BitVec.ofNat 32 (a &&& b)
  apply BitVec.eq_of_getLsbD_eq
  intro i hi
  simp [hi]
theorem nI_xor {a b : Nat} : nI a ^^^ nI b = nI (a ^^^ b) := by
  apply Int32.toBitVec_inj.1
  show BitVec.ofNat 32 a ^^^ BitVec.ofNat 32 b = BitVec.ofNat 32 (a ^^^ b)
  apply BitVec.eq_of_getLsbD_eq
  intro i hi
  simp [hi]
/-- a new bit ahead of all others -/
theorem or_new {m k : Nat} (h : m < 2 ^ k) : m ||| 2 ^ k = m + 2 ^ k := by
  have := Nat.two_pow_add_eq_or_of_lt h 1
  rw [Nat.mul_one] at this
  rw [Nat.or_comm, ← this, Nat.add_comm]
/-! ===== sums below a bound ===== -/
def sm (f : Nat → Nat) : Nat → Nat
  | 0 => 0
  | n + 1 => sm f n + f n
theorem sm_succ (f : Nat → Nat) (n : Nat) : sm f (n + 1) = sm f n + f n := rfl
theorem sm_cong {f g : Nat → Nat} : ∀ {n : Nat}, (∀ k, k < n → f k = g k) → sm f n = sm g n
  | 0, _ => rfl
  | n + 1, h => by rw [sm_succ, sm_succ, sm_cong (fun k hk => h k (by omega)), h n (by omega)]
theorem sm_le {f : Nat → Nat} {c : Nat} : ∀ {n : Nat}, (∀ k, k < n → f k ≤ c) → sm f n ≤ n * c
  | 0, _ => by simp [sm]
  | n + 1, h => by
    have h1 := sm_le (n := n) (fun k hk => h k (by omega))
    have h2 := h n (by omega)
    rw [sm_succ, Nat.succ_mul]
    omega
theorem sm_mono (f : Nat → Nat) (m : Nat) : ∀ n, sm f m ≤ sm f (m + n)
  | 0 => Nat.le_refl _
  | n + 1 => Nat.le_trans (sm_mono f m n) (by rw [← Nat.add_assoc, sm_succ]; omega)
/-- a mask, bit by bit -/
def bits (p : Nat → Bool) : Nat → Nat := sm (fun k => if p k then 2 ^ k else 0)
theorem bits_lt (p : Nat → Bool) : ∀ n, bits p n < 2 ^ n
  | 0 => by simp [bits, sm]
  | n + 1 => by
    have h := bits_lt p n
    have e : bits p (n + 1) = bits p n + (if p n then 2 ^ n else 0) := rfl
    have h2 : 2 ^ (n + 1) = 2 ^ n + 2 ^ n := by rw [Nat.pow_succ]; omega
    rw [e, h2]
    split <;> omega
/-- the bit p of a mask, 0 or 1 -/
def tb (m p : Nat) : Nat := m / 2 ^ p % 2
def pc6 (m : Nat) : Nat := sm (fun p => tb m p) 6
theorem pc6_bits : ∀ m, m < 64 → pc6 m ≤ 6 := by decide +kernel
theorem bits_succ (p : Nat → Bool) (n : Nat) : bits p (n + 1) = if p n then bits p n ||| 2 ^ n else bits p n := by
  rw [or_new (bits_lt p n)]
  show bits p n + (if _ then _ else _) = _
  split <;> simp
theorem u2_lt {I' : wI} {a b i : Nat} {x y : Int32} {P : Nat → Int32 → Int32 → Prop} (hab : a ≠ b) (h : ∀ p, p < i → P p (I' a p) (I' b p)) (hx : P i x y) :
    ∀ p, p < i + 1 → P p (wU (wU I' a i x) b i y a p) (wU (wU I' a i x) b i y b p) := by
  intro p hp
  by_cases e : p = i
  · subst e; rw [wU_off (Or.inl hab), wU_at, wU_at]; exact hx
  · rw [wU_off (Or.inl hab), wU_off (Or.inr e), wU_off (Or.inr e), wU_off (Or.inr e)]; exact h p (by omega)
theorem u2_ge {I' : wI} {a b i : Nat} {x y : Int32} {P : Nat → Int32 → Int32 → Prop} (hab : a ≠ b) (h : ∀ p, i ≤ p → P p (I' a p) (I' b p)) :
    ∀ p, i + 1 ≤ p → P p (wU (wU I' a i x) b i y a p) (wU (wU I' a i x) b i y b p) := by
  intro p hp
  have e : p ≠ i := by omega
  rw [wU_off (Or.inl hab), wU_off (Or.inr e), wU_off (Or.inr e), wU_off (Or.inr e)]
  exact h p (by omega)
theorem u2_fr {I I' : wI} {a b i : Nat} {x y : Int32} (h : ∀ c, c ≠ a → c ≠ b → I' c = I c) : ∀ c, c ≠ a → c ≠ b → wU (wU I' a i x) b i y c = I c := by
  intro c h1 h2
  rw [wU_ne h2, wU_ne h1]
  exact h c h1 h2
/-- an int is negative, or a number -/
theorem i_cases (x : Int32) : x < 0 ∨ ∃ j, j < 2147483648 ∧ x = nI j := by
  by_cases h : x < 0
  · exact Or.inl h
  · exact Or.inr (nI_of h)
theorem nI_lt0 {j : Nat} (h : j < 2147483648) : ¬ nI j < 0 := by
  rw [l_0, i_lt h (by decide)]; omega
theorem i_s (i : Nat) : nI i + 1 = nI (i + 1) := nI_add i 1
