/-! ===== class and model, call by call ===== -/
def inv (I : wI) : Prop := okC I ∧ okM I ∧ absC I = absM I
theorem hiM {I I1 : wI} (h : frC I I1) (h0 : okM I) : absM I1 = absM I ∧ okM I1 := by
  have hJ : (fun c => if c < 111 then I c else I1 c) = I := by
    funext c
    by_cases hc : c < 111
    · exact if_pos hc
    · exact (if_neg hc).trans (h c (by omega))
  have e1 : absM I1 = absM (fun c => if c < 111 then I c else I1 c) := rfl
  have e2 : okM I1 = okM (fun c => if c < 111 then I c else I1 c) := rfl
  exact ⟨by rw [e1, hJ], by rw [e2, hJ]; exact h0⟩
theorem loC {I1 I2 : wI} (h : ∀ c, c < 111 → I2 c = I1 c) (h0 : okC I1) : absC I2 = absC I1 ∧ okC I2 := absC_eq h0 (fun c hc => h c (by omega)) (by rw [h 24 (by omega)])
theorem fin_ok {I1 I2 : wI} {A A2 : Nat → Nat → Int32} (h1 : okC I1) (e1 : absC I1 = A) (q : okQ I1 I2 A2) (e : A = A2) : inv I2 := by
  obtain ⟨a, b⟩ := loC (fun c hc => q.2.2 c (Or.inl hc)) h1
  exact ⟨b, q.2.1, by rw [a, e1, e, q.1]⟩
theorem fin_th {I1 I2 : wI} {A : Nat → Nat → Int32} (h1 : okC I1) (e1 : absC I1 = A) (hM : okM I1) (eM : absM I1 = A) (q : frS I1 I2) : inv I2 := by
  obtain ⟨a, b⟩ := loC (fun c hc => q.1 c (Or.inl hc)) h1
  exact ⟨b, okM_S q hM, by rw [a, e1, absM_S q, eM]⟩
theorem cd2 {E E1 E2 : String} {A : Prop} {r : Int32} (ne : E1 ≠ E2) (hx : (¬ A ∧ E = E1) ∨ (A ∧ E = E2)) (hE : (E = E1 ∧ r = 1) ∨ (E = E2 ∧ r = 2)) : (¬ A → r = 1) ∧ (A → r = 2) := by
  rcases hx with ⟨a, e⟩ | ⟨a, e⟩ <;> rcases hE with ⟨e2, h⟩ | ⟨e2, h⟩
  · exact ⟨fun _ => h, fun q => absurd q a⟩
  · exact absurd (e.symm.trans e2) ne
  · exact absurd (e2.symm.trans e) ne
  · exact ⟨fun q => absurd a q, fun _ => h⟩
theorem up0 {G : wG} {x : Int64} : vp_updL G 0 x 0 = x := by simp [vp_updL]
theorem ne_IO_IS : wIO ≠ wIS := by decide
theorem ne_IO_IA : wIO ≠ wIA := by decide
theorem ne_IA_IS : wIA ≠ wIS := by decide
theorem ne10 : (1 : Int32) ≠ 0 := by decide
theorem ne20 : (2 : Int32) ≠ 0 := by decide

theorem st_turn {I I1 I2 : wI} {G G' : wG} (x1 : Int32) {r rM : Int32} (hi : inv I) (h1 : lpost_L_turn x1 I G r (I1, G')) (h2 : post_X6_turn x1 I1 rM I2) : inv I2 ∧ I2 111 0 = r ∧ (r = 0 → G' 0 = rM.toInt64) := by
  obtain ⟨hC, hM, hA⟩ := hi
  rcases h1 with ⟨hok, hr, v, hp, hG⟩ | ⟨hno, hG, E, hx, hE⟩
  · obtain ⟨e1, p1, p2, p3⟩ := hp
    obtain ⟨m1, m2⟩ := hiM p3 hM
    have eA : absM I1 = absC I := by rw [m1, hA]
    have eR : rowM I1 = rowC 1 I := congrFun eA 0
    unfold post_X6_turn at h2
    simp only [eR, eA] at h2
    rcases h2 with ⟨_, t0, er, q⟩ | ⟨n, _⟩ | ⟨_, n, _⟩
    · exact ⟨fin_ok p2 p1 q rfl, by rw [t0, hr], fun _ => by rw [show G' = _ from hG, up0, er, e1]⟩
    · exact absurd hok (fun q => n (by first | exact q.1 | exact q))
    · exact absurd hok (fun q => n (by first | exact q.2 | exact q))
  · obtain ⟨fX, hx⟩ := hx
    obtain ⟨p1, p2⟩ := absC_frX hC fX
    have p3 := frX_C fX
    obtain ⟨m1, m2⟩ := hiM p3 hM
    have eA : absM I1 = absC I := by rw [m1, hA]
    have eR : rowM I1 = rowC 1 I := congrFun eA 0
    unfold post_X6_turn at h2
    simp only [eR, eA] at h2
    obtain ⟨c1, c2⟩ := cd2 ne_IO_IS hx hE
    rcases h2 with ⟨y, _⟩ | ⟨n, t0, q⟩ | ⟨y, n, t0, q⟩
    · exact absurd y hno
    · exact ⟨fin_th p2 p1 m2 eA q, by rw [t0, c1 n], fun z => absurd ((c1 n).symm.trans z) ne10⟩
    · exact ⟨fin_th p2 p1 m2 eA q, by rw [t0, c2 y], fun z => absurd ((c2 y).symm.trans z) ne20⟩

theorem st_back {I I1 I2 : wI} {G G' : wG} (x1 : Int32) {r rM : Int32} (hi : inv I) (h1 : lpost_L_back x1 I G r (I1, G')) (h2 : post_X6_back x1 I1 rM I2) : inv I2 ∧ I2 111 0 = r ∧ (r = 0 → G' 0 = rM.toInt64) := by
  obtain ⟨hC, hM, hA⟩ := hi
  rcases h1 with ⟨hok, hr, v, hp, hG⟩ | ⟨hno, hG, E, hx, hE⟩
  · obtain ⟨e1, p1, p2, p3⟩ := hp
    obtain ⟨m1, m2⟩ := hiM p3 hM
    have eA : absM I1 = absC I := by rw [m1, hA]
    have eR : rowM I1 = rowC 1 I := congrFun eA 0
    unfold post_X6_back at h2
    simp only [eR, eA] at h2
    rcases h2 with ⟨_, t0, er, q⟩ | ⟨n, _⟩ | ⟨_, n, _⟩
    · exact ⟨fin_ok p2 p1 q rfl, by rw [t0, hr], fun _ => by rw [show G' = _ from hG, up0, er, e1]⟩
    · exact absurd hok (fun q => n (by first | exact q.1 | exact q))
    · exact absurd hok (fun q => n (by first | exact q.2 | exact q))
  · obtain ⟨fX, hx⟩ := hx
    obtain ⟨p1, p2⟩ := absC_frX hC fX
    have p3 := frX_C fX
    obtain ⟨m1, m2⟩ := hiM p3 hM
    have eA : absM I1 = absC I := by rw [m1, hA]
    have eR : rowM I1 = rowC 1 I := congrFun eA 0
    unfold post_X6_back at h2
    simp only [eR, eA] at h2
    obtain ⟨c1, c2⟩ := cd2 ne_IO_IS hx hE
    rcases h2 with ⟨y, _⟩ | ⟨n, t0, q⟩ | ⟨y, n, t0, q⟩
    · exact absurd y hno
    · exact ⟨fin_th p2 p1 m2 eA q, by rw [t0, c1 n], fun z => absurd ((c1 n).symm.trans z) ne10⟩
    · exact ⟨fin_th p2 p1 m2 eA q, by rw [t0, c2 y], fun z => absurd ((c2 y).symm.trans z) ne20⟩

theorem st_word {I I1 I2 : wI} {G G' : wG} {r rM : Int32} (hi : inv I) (h1 : lpost_L_word  I G r (I1, G')) (h2 : post_X6_word  I1 rM I2) : inv I2 ∧ I2 111 0 = r ∧ (r = 0 → G' 0 = rM.toInt64) := by
  obtain ⟨hC, hM, hA⟩ := hi
  rcases h1 with ⟨hok, hr, v, hp, hG⟩ | ⟨hno, hG, E, hx, hE⟩
  · obtain ⟨e1, p1, p2, p3⟩ := hp
    obtain ⟨m1, m2⟩ := hiM p3 hM
    have eA : absM I1 = absC I := by rw [m1, hA]
    have eR : rowM I1 = rowC 1 I := congrFun eA 0
    unfold post_X6_word at h2
    simp only [eR, eA] at h2
    rcases h2 with ⟨_, t0, er, q⟩ | ⟨n, _⟩ | ⟨_, n, _⟩
    · exact ⟨fin_ok p2 p1 q rfl, by rw [t0, hr], fun _ => by rw [show G' = _ from hG, up0, er, e1]⟩
    · exact absurd hok (fun q => n (by first | exact q.1 | exact q))
    · exact absurd hok (fun q => n (by first | exact q.2 | exact q))
  · obtain ⟨fX, hx⟩ := hx
    obtain ⟨p1, p2⟩ := absC_frX hC fX
    have p3 := frX_C fX
    obtain ⟨m1, m2⟩ := hiM p3 hM
    have eA : absM I1 = absC I := by rw [m1, hA]
    have eR : rowM I1 = rowC 1 I := congrFun eA 0
    unfold post_X6_word at h2
    simp only [eR, eA] at h2
    obtain ⟨c1, c2⟩ := cd2 ne_IA_IS hx hE
    rcases h2 with ⟨y, _⟩ | ⟨n, t0, q⟩ | ⟨y, n, t0, q⟩
    · exact absurd y hno
    · exact ⟨fin_th p2 p1 m2 eA q, by rw [t0, c1 n], fun z => absurd ((c1 n).symm.trans z) ne10⟩
    · exact ⟨fin_th p2 p1 m2 eA q, by rw [t0, c2 y], fun z => absurd ((c2 y).symm.trans z) ne20⟩

theorem st_cut {I I1 I2 : wI} {G G' : wG} (x1 x2 x3 : Int32) {r rM : Int32} (hi : inv I) (h1 : lpost_L_cut x1 x2 x3 I G r (I1, G')) (h2 : post_X6_cut x1 x2 x3 I1 rM I2) : inv I2 ∧ I2 111 0 = r ∧ (r = 0 → G' 0 = rM.toInt64) := by
  obtain ⟨hC, hM, hA⟩ := hi
  rcases h1 with ⟨hok, hr, v, hp, hG⟩ | ⟨hno, hG, E, hx, hE⟩
  · obtain ⟨e1, p1, p2, p3⟩ := hp
    obtain ⟨m1, m2⟩ := hiM p3 hM
    have eA : absM I1 = absC I := by rw [m1, hA]
    have eR : rowM I1 = rowC 1 I := congrFun eA 0
    unfold post_X6_cut at h2
    simp only [eR, eA] at h2
    rcases h2 with ⟨_, t0, er, q⟩ | ⟨n, _⟩ | ⟨_, n, _⟩
    · exact ⟨fin_ok p2 p1 q rfl, by rw [t0, hr], fun _ => by rw [show G' = _ from hG, up0, er, e1]⟩
    · exact absurd hok (fun q => n (by first | exact q.1 | exact q))
    · exact absurd hok (fun q => n (by first | exact q.2 | exact q))
  · obtain ⟨fX, hx⟩ := hx
    obtain ⟨p1, p2⟩ := absC_frX hC fX
    have p3 := frX_C fX
    obtain ⟨m1, m2⟩ := hiM p3 hM
    have eA : absM I1 = absC I := by rw [m1, hA]
    have eR : rowM I1 = rowC 1 I := congrFun eA 0
    unfold post_X6_cut at h2
    simp only [eR, eA] at h2
    obtain ⟨c1, c2⟩ := cd2 ne_IO_IA hx hE
    rcases h2 with ⟨y, _⟩ | ⟨n, t0, q⟩ | ⟨y, n, t0, q⟩
    · exact absurd y hno
    · exact ⟨fin_th p2 p1 m2 eA q, by rw [t0, c1 n], fun z => absurd ((c1 n).symm.trans z) ne10⟩
    · exact ⟨fin_th p2 p1 m2 eA q, by rw [t0, c2 y], fun z => absurd ((c2 y).symm.trans z) ne20⟩

theorem st_stick {I I1 I2 : wI} {G G' : wG} (x1 : Int32) {r rM : Int32} (hi : inv I) (h1 : lpost_L_stick x1 I G r (I1, G')) (h2 : post_X6_stick x1 I1 rM I2) : inv I2 ∧ I2 111 0 = r ∧ (r = 0 → G' 0 = rM.toInt64) := by
  obtain ⟨hC, hM, hA⟩ := hi
  rcases h1 with ⟨hok, hr, v, hp, hG⟩ | ⟨hno, hG, E, hx, hE⟩
  · obtain ⟨e1, p1, p2, p3⟩ := hp
    obtain ⟨m1, m2⟩ := hiM p3 hM
    have eA : absM I1 = absC I := by rw [m1, hA]
    have eR : rowM I1 = rowC 1 I := congrFun eA 0
    unfold post_X6_stick at h2
    simp only [eR, eA] at h2
    rcases h2 with ⟨_, t0, er, q⟩ | ⟨n, _⟩
    · exact ⟨fin_ok p2 p1 q rfl, by rw [t0, hr], fun _ => by rw [show G' = _ from hG, up0, er, e1]⟩
    · exact absurd hok (fun q => by first | exact n q | exact q n)
  · obtain ⟨fX, hx⟩ := hx
    obtain ⟨p1, p2⟩ := absC_frX hC fX
    have p3 := frX_C fX
    obtain ⟨m1, m2⟩ := hiM p3 hM
    have eA : absM I1 = absC I := by rw [m1, hA]
    have eR : rowM I1 = rowC 1 I := congrFun eA 0
    unfold post_X6_stick at h2
    simp only [eR, eA] at h2
    rcases h2 with ⟨y, _⟩ | ⟨n, t0, q⟩
    · exact absurd y hno
    · exact ⟨fin_th p2 p1 m2 eA q, by rw [t0, hE.2], fun z => absurd (hE.2.symm.trans z) ne10⟩

theorem st_append {I I1 I2 : wI} {G G' : wG} (x1 : Int32) {r rM : Int32} (hi : inv I) (h1 : lpost_L_append x1 I G r (I1, G')) (h2 : post_X6_append x1 I1 rM I2) : inv I2 ∧ I2 111 0 = r ∧ (r = 0 → G' 0 = rM.toInt64) := by
  obtain ⟨hC, hM, hA⟩ := hi
  rcases h1 with ⟨hok, hr, v, hp, hG⟩ | ⟨hno, hG, E, hx, hE⟩
  · obtain ⟨e1, p1, p2, p3⟩ := hp
    obtain ⟨m1, m2⟩ := hiM p3 hM
    have eA : absM I1 = absC I := by rw [m1, hA]
    have eR : rowM I1 = rowC 1 I := congrFun eA 0
    unfold post_X6_append at h2
    simp only [eR, eA] at h2
    have k8 : nt (I1 111 8) = nt (I 24 1) := congrArg nt (congrFun (congrFun eA 2) 2)
    rw [k8] at h2
    rcases h2 with ⟨_, t0, er, q⟩ | ⟨n, _⟩ | ⟨_, n, _⟩
    · exact ⟨fin_ok p2 p1 q rfl, by rw [t0, hr], fun _ => by rw [show G' = _ from hG, up0, er, e1]⟩
    · exact absurd hok (fun q => n (by first | exact q.1 | exact q))
    · exact absurd hok (fun q => n (by first | exact q.2 | exact q))
  · obtain ⟨fX, hx⟩ := hx
    obtain ⟨p1, p2⟩ := absC_frX hC fX
    have p3 := frX_C fX
    obtain ⟨m1, m2⟩ := hiM p3 hM
    have eA : absM I1 = absC I := by rw [m1, hA]
    have eR : rowM I1 = rowC 1 I := congrFun eA 0
    unfold post_X6_append at h2
    simp only [eR, eA] at h2
    have k8 : nt (I1 111 8) = nt (I 24 1) := congrArg nt (congrFun (congrFun eA 2) 2)
    rw [k8] at h2
    obtain ⟨c1, c2⟩ := cd2 ne_IA_IS hx hE
    rcases h2 with ⟨y, _⟩ | ⟨n, t0, q⟩ | ⟨y, n, t0, q⟩
    · exact absurd y hno
    · exact ⟨fin_th p2 p1 m2 eA q, by rw [t0, c1 n], fun z => absurd ((c1 n).symm.trans z) ne10⟩
    · exact ⟨fin_th p2 p1 m2 eA q, by rw [t0, c2 y], fun z => absurd ((c2 y).symm.trans z) ne20⟩

theorem st_goBack {I I1 I2 : wI} {G G' : wG} {r rM : Int32} (hi : inv I) (h1 : lpost_L_goBack  I G r (I1, G')) (h2 : post_X6_goBack  I1 rM I2) : inv I2 ∧ I2 111 0 = r ∧ (r = 0 → G' 0 = rM.toInt64) := by
  obtain ⟨hC, hM, hA⟩ := hi
  rcases h1 with ⟨hok, hr, v, hp, hG⟩ | ⟨hno, hG, E, hx, hE⟩
  · obtain ⟨e1, p1, p2, p3⟩ := hp
    obtain ⟨m1, m2⟩ := hiM p3 hM
    have eA : absM I1 = absC I := by rw [m1, hA]
    have eR : rowM I1 = rowC 1 I := congrFun eA 0
    unfold post_X6_goBack at h2
    simp only [eR, eA] at h2
    have k6 : I1 111 6 = I 0 2 := congrFun (congrFun eA 2) 0
    rw [k6] at h2
    rcases h2 with ⟨_, t0, er, q⟩ | ⟨n, _⟩
    · exact ⟨fin_ok p2 p1 q rfl, by rw [t0, hr], fun _ => by rw [show G' = _ from hG, up0, er, e1]⟩
    · exact absurd hok (fun q => by first | exact n q | exact q n)
  · obtain ⟨fX, hx⟩ := hx
    obtain ⟨p1, p2⟩ := absC_frX hC fX
    have p3 := frX_C fX
    obtain ⟨m1, m2⟩ := hiM p3 hM
    have eA : absM I1 = absC I := by rw [m1, hA]
    have eR : rowM I1 = rowC 1 I := congrFun eA 0
    unfold post_X6_goBack at h2
    simp only [eR, eA] at h2
    have k6 : I1 111 6 = I 0 2 := congrFun (congrFun eA 2) 0
    rw [k6] at h2
    rcases h2 with ⟨y, _⟩ | ⟨n, t0, q⟩
    · exact absurd y hno
    · exact ⟨fin_th p2 p1 m2 eA q, by rw [t0, hE.2], fun z => absurd (hE.2.symm.trans z) ne10⟩

theorem st_undo {I I1 I2 : wI} {G G' : wG} {r rM : Int32} (hi : inv I) (h1 : lpost_L_undo  I G r (I1, G')) (h2 : post_X6_undo  I1 rM I2) : inv I2 ∧ I2 111 0 = r ∧ (r = 0 → G' 0 = rM.toInt64) := by
  obtain ⟨hC, hM, hA⟩ := hi
  rcases h1 with ⟨hok, hr, v, hp, hG⟩ | ⟨hno, hG, E, hx, hE⟩
  · obtain ⟨e1, p1, p2, p3⟩ := hp
    obtain ⟨m1, m2⟩ := hiM p3 hM
    have eA : absM I1 = absC I := by rw [m1, hA]
    have eR : rowM I1 = rowC 1 I := congrFun eA 0
    unfold post_X6_undo at h2
    simp only [eR, eA] at h2
    have k4 : I1 111 4 = I 0 4 := congrFun (congrFun eA 2) 1
    rw [k4] at h2
    rcases h2 with ⟨_, t0, er, q⟩ | ⟨n, _⟩
    · exact ⟨fin_ok p2 p1 q rfl, by rw [t0, hr], fun _ => by rw [show G' = _ from hG, up0, er, e1]⟩
    · exact absurd hok (fun q => by first | exact n q | exact q n)
  · obtain ⟨fX, hx⟩ := hx
    obtain ⟨p1, p2⟩ := absC_frX hC fX
    have p3 := frX_C fX
    obtain ⟨m1, m2⟩ := hiM p3 hM
    have eA : absM I1 = absC I := by rw [m1, hA]
    have eR : rowM I1 = rowC 1 I := congrFun eA 0
    unfold post_X6_undo at h2
    simp only [eR, eA] at h2
    have k4 : I1 111 4 = I 0 4 := congrFun (congrFun eA 2) 1
    rw [k4] at h2
    rcases h2 with ⟨y, _⟩ | ⟨n, t0, q⟩
    · exact absurd y hno
    · exact ⟨fin_th p2 p1 m2 eA q, by rw [t0, hE.2], fun z => absurd (hE.2.symm.trans z) ne10⟩

theorem st_at {I I1 I2 : wI} {G G' : wG} (x1 x2 : Int32) {r rM : Int32} (hi : inv I) (h1 : lpost_L_at x1 x2 I G r (I1, G')) (h2 : post_X6_at x1 x2 I1 rM I2) : inv I2 ∧ I2 111 0 = r ∧ (r = 0 → G' 0 = rM.toInt64) := by
  obtain ⟨hC, hM, hA⟩ := hi
  rcases h1 with ⟨hok, hr, v, hp, hG⟩ | ⟨hno, hG, E, hx, hE⟩
  · obtain ⟨e1, e0⟩ := hp
    obtain ⟨p1, p2, p3⟩ : absC I1 = absC I ∧ okC I1 ∧ frC I I1 := by
      have e0 : I1 = I := e0
      rw [e0]; exact ⟨rfl, hC, fun _ _ => rfl⟩
    obtain ⟨m1, m2⟩ := hiM p3 hM
    have eA : absM I1 = absC I := by rw [m1, hA]
    have eR : rowM I1 = rowC 1 I := congrFun eA 0
    unfold post_X6_at at h2
    simp only [eR, eA] at h2
    rcases h2 with ⟨_, ⟨t0, q⟩, er⟩ | ⟨n, _⟩ | ⟨_, n, _⟩
    · exact ⟨fin_th p2 p1 m2 eA q, by rw [t0, hr], fun _ => by rw [show G' = _ from hG, up0, er, e1]⟩
    · exact absurd hok (fun q => n (by first | exact q.1 | exact q))
    · exact absurd hok (fun q => n (by first | exact q.2 | exact q))
  · obtain ⟨hx, e0⟩ := hx
    obtain ⟨p1, p2, p3⟩ : absC I1 = absC I ∧ okC I1 ∧ frC I I1 := by
      have e0 : I1 = I := e0
      rw [e0]; exact ⟨rfl, hC, fun _ _ => rfl⟩
    obtain ⟨m1, m2⟩ := hiM p3 hM
    have eA : absM I1 = absC I := by rw [m1, hA]
    have eR : rowM I1 = rowC 1 I := congrFun eA 0
    unfold post_X6_at at h2
    simp only [eR, eA] at h2
    obtain ⟨c1, c2⟩ := cd2 ne_IO_IA hx hE
    rcases h2 with ⟨y, _⟩ | ⟨n, t0, q⟩ | ⟨y, n, t0, q⟩
    · exact absurd y hno
    · exact ⟨fin_th p2 p1 m2 eA q, by rw [t0, c1 n], fun z => absurd ((c1 n).symm.trans z) ne10⟩
    · exact ⟨fin_th p2 p1 m2 eA q, by rw [t0, c2 y], fun z => absurd ((c2 y).symm.trans z) ne20⟩

theorem st_key {I I1 I2 : wI} {G G' : wG} (x1 x2 : Int32) {r rM : Int32} (hi : inv I) (h1 : lpost_L_key x1 x2 I G r (I1, G')) (h2 : post_X6_key x1 x2 I1 rM I2) : inv I2 ∧ I2 111 0 = r ∧ (r = 0 → G' 0 = rM.toInt64) := by
  obtain ⟨hC, hM, hA⟩ := hi
  rcases h1 with ⟨hok, hr, v, hp, hG⟩ | ⟨hno, hG, E, hx, hE⟩
  · obtain ⟨e1, fX⟩ := hp
    obtain ⟨p1, p2⟩ := absC_frX hC fX
    have p3 := frX_C fX
    obtain ⟨m1, m2⟩ := hiM p3 hM
    have eA : absM I1 = absC I := by rw [m1, hA]
    have eR : rowM I1 = rowC 1 I := congrFun eA 0
    unfold post_X6_key at h2
    simp only [eR, eA] at h2
    rcases h2 with ⟨_, ⟨t0, q⟩, er⟩ | ⟨n, _⟩ | ⟨_, n, _⟩
    · exact ⟨fin_th p2 p1 m2 eA q, by rw [t0, hr], fun _ => by rw [show G' = _ from hG, up0, er, e1]⟩
    · exact absurd hok (fun q => n (by first | exact q.1 | exact q))
    · exact absurd hok (fun q => n (by first | exact q.2 | exact q))
  · obtain ⟨fX, hx⟩ := hx
    obtain ⟨p1, p2⟩ := absC_frX hC fX
    have p3 := frX_C fX
    obtain ⟨m1, m2⟩ := hiM p3 hM
    have eA : absM I1 = absC I := by rw [m1, hA]
    have eR : rowM I1 = rowC 1 I := congrFun eA 0
    unfold post_X6_key at h2
    simp only [eR, eA] at h2
    obtain ⟨c1, c2⟩ := cd2 ne_IO_IA hx hE
    rcases h2 with ⟨y, _⟩ | ⟨n, t0, q⟩ | ⟨y, n, t0, q⟩
    · exact absurd y hno
    · exact ⟨fin_th p2 p1 m2 eA q, by rw [t0, c1 n], fun z => absurd ((c1 n).symm.trans z) ne10⟩
    · exact ⟨fin_th p2 p1 m2 eA q, by rw [t0, c2 y], fun z => absurd ((c2 y).symm.trans z) ne20⟩

theorem st_pair {I I1 I2 : wI} {G G' : wG} (x1 x2 x3 : Int32) {r rM : Int32} (hi : inv I) (h1 : lpost_L_pair x1 x2 x3 I G r (I1, G')) (h2 : post_X6_pair x1 x2 x3 I1 rM I2) : inv I2 ∧ I2 111 0 = r ∧ (r = 0 → G' 0 = rM.toInt64) := by
  obtain ⟨hC, hM, hA⟩ := hi
  rcases h1 with ⟨hok, hr, v, hp, hG⟩ | ⟨hno, hG, E, hx, hE⟩
  · obtain ⟨e1, fX⟩ := hp
    obtain ⟨p1, p2⟩ := absC_frX hC fX
    have p3 := frX_C fX
    obtain ⟨m1, m2⟩ := hiM p3 hM
    have eA : absM I1 = absC I := by rw [m1, hA]
    have eR : rowM I1 = rowC 1 I := congrFun eA 0
    unfold post_X6_pair at h2
    simp only [eR, eA] at h2
    rcases h2 with ⟨_, ⟨t0, q⟩, er⟩ | ⟨n, _⟩ | ⟨_, n, _⟩
    · exact ⟨fin_th p2 p1 m2 eA q, by rw [t0, hr], fun _ => by rw [show G' = _ from hG, up0, er, e1]⟩
    · exact absurd hok (fun q => n (by first | exact q.1 | exact q))
    · exact absurd hok (fun q => n (by first | exact q.2 | exact q))
  · obtain ⟨fX, hx⟩ := hx
    obtain ⟨p1, p2⟩ := absC_frX hC fX
    have p3 := frX_C fX
    obtain ⟨m1, m2⟩ := hiM p3 hM
    have eA : absM I1 = absC I := by rw [m1, hA]
    have eR : rowM I1 = rowC 1 I := congrFun eA 0
    unfold post_X6_pair at h2
    simp only [eR, eA] at h2
    obtain ⟨c1, c2⟩ := cd2 ne_IO_IA hx hE
    rcases h2 with ⟨y, _⟩ | ⟨n, t0, q⟩ | ⟨y, n, t0, q⟩
    · exact absurd y hno
    · exact ⟨fin_th p2 p1 m2 eA q, by rw [t0, c1 n], fun z => absurd ((c1 n).symm.trans z) ne10⟩
    · exact ⟨fin_th p2 p1 m2 eA q, by rw [t0, c2 y], fun z => absurd ((c2 y).symm.trans z) ne20⟩

theorem st_ofWord {I I1 I2 : wI} {G G' : wG} (x1 : Int32) {r rM : Int32} (hi : inv I) (h1 : lpost_L_ofWord x1 I G r (I1, G')) (h2 : post_X6_ofWord x1 I1 rM I2) : inv I2 ∧ I2 111 0 = r ∧ (r = 0 → G' 0 = rM.toInt64) := by
  obtain ⟨hC, hM, hA⟩ := hi
  rcases h1 with ⟨hok, hr, v, hp, hG⟩ | ⟨hno, hG, E, hx, hE⟩
  · obtain ⟨e1, fX⟩ := hp
    obtain ⟨p1, p2⟩ := absC_frX hC fX
    have p3 := frX_C fX
    obtain ⟨m1, m2⟩ := hiM p3 hM
    have eA : absM I1 = absC I := by rw [m1, hA]
    have eR : rowM I1 = rowC 1 I := congrFun eA 0
    unfold post_X6_ofWord at h2
    simp only [eR, eA] at h2
    rcases h2 with ⟨_, ⟨t0, q⟩, er⟩ | ⟨n, _⟩
    · exact ⟨fin_th p2 p1 m2 eA q, by rw [t0, hr], fun _ => by rw [show G' = _ from hG, up0, er, e1]⟩
    · exact absurd hok (fun q => by first | exact n q | exact q n)
  · obtain ⟨fX, hx⟩ := hx
    obtain ⟨p1, p2⟩ := absC_frX hC fX
    have p3 := frX_C fX
    obtain ⟨m1, m2⟩ := hiM p3 hM
    have eA : absM I1 = absC I := by rw [m1, hA]
    have eR : rowM I1 = rowC 1 I := congrFun eA 0
    unfold post_X6_ofWord at h2
    simp only [eR, eA] at h2
    rcases h2 with ⟨y, _⟩ | ⟨n, t0, q⟩
    · exact absurd y hno
    · exact ⟨fin_th p2 p1 m2 eA q, by rw [t0, hE.2], fun z => absurd (hE.2.symm.trans z) ne10⟩

theorem st_count {I I1 I2 : wI} {G G' : wG} (x1 : Int32) {r rM : Int32} (hi : inv I) (h1 : lpost_L_count x1 I G r (I1, G')) (h2 : post_X6_count x1 I1 rM I2) : inv I2 ∧ I2 111 0 = r ∧ (r = 0 → G' 0 = rM.toInt64) := by
  obtain ⟨hC, hM, hA⟩ := hi
  rcases h1 with ⟨hok, hr, v, hp, hG⟩ | ⟨hno, hG, E, hx, hE⟩
  · obtain ⟨e1, e0⟩ := hp
    obtain ⟨p1, p2, p3⟩ : absC I1 = absC I ∧ okC I1 ∧ frC I I1 := by
      have e0 : I1 = I := e0
      rw [e0]; exact ⟨rfl, hC, fun _ _ => rfl⟩
    obtain ⟨m1, m2⟩ := hiM p3 hM
    have eA : absM I1 = absC I := by rw [m1, hA]
    have eR : rowM I1 = rowC 1 I := congrFun eA 0
    unfold post_X6_count at h2
    simp only [eR, eA] at h2
    rcases h2 with ⟨_, ⟨t0, q⟩, er⟩ | ⟨n, _⟩
    · exact ⟨fin_th p2 p1 m2 eA q, by rw [t0, hr], fun _ => by rw [show G' = _ from hG, up0, er, e1]⟩
    · exact absurd hok (fun q => by first | exact n q | exact q n)
  · obtain ⟨hx, e0⟩ := hx
    obtain ⟨p1, p2, p3⟩ : absC I1 = absC I ∧ okC I1 ∧ frC I I1 := by
      have e0 : I1 = I := e0
      rw [e0]; exact ⟨rfl, hC, fun _ _ => rfl⟩
    obtain ⟨m1, m2⟩ := hiM p3 hM
    have eA : absM I1 = absC I := by rw [m1, hA]
    have eR : rowM I1 = rowC 1 I := congrFun eA 0
    unfold post_X6_count at h2
    simp only [eR, eA] at h2
    rcases h2 with ⟨y, _⟩ | ⟨n, t0, q⟩
    · exact absurd y hno
    · exact ⟨fin_th p2 p1 m2 eA q, by rw [t0, hE.2], fun z => absurd (hE.2.symm.trans z) ne10⟩

theorem st_openIn {I I1 I2 : wI} {G G' : wG} (x1 : Int32) {r rM : Int32} (hi : inv I) (h1 : lpost_L_openIn x1 I G r (I1, G')) (h2 : post_X6_openIn x1 I1 rM I2) : inv I2 ∧ I2 111 0 = r ∧ (r = 0 → G' 0 = rM.toInt64) := by
  obtain ⟨hC, hM, hA⟩ := hi
  rcases h1 with ⟨hok, hr, v, hp, hG⟩ | ⟨hno, hG, E, hx, hE⟩
  · obtain ⟨e1, fX⟩ := hp
    obtain ⟨p1, p2⟩ := absC_frX hC fX
    have p3 := frX_C fX
    obtain ⟨m1, m2⟩ := hiM p3 hM
    have eA : absM I1 = absC I := by rw [m1, hA]
    have eR : rowM I1 = rowC 1 I := congrFun eA 0
    unfold post_X6_openIn at h2
    simp only [eR, eA] at h2
    rcases h2 with ⟨_, ⟨t0, q⟩, er⟩ | ⟨n, _⟩
    · exact ⟨fin_th p2 p1 m2 eA q, by rw [t0, hr], fun _ => by rw [show G' = _ from hG, up0, er, e1]⟩
    · exact absurd hok (fun q => by first | exact n q | exact q n)
  · obtain ⟨fX, hx⟩ := hx
    obtain ⟨p1, p2⟩ := absC_frX hC fX
    have p3 := frX_C fX
    obtain ⟨m1, m2⟩ := hiM p3 hM
    have eA : absM I1 = absC I := by rw [m1, hA]
    have eR : rowM I1 = rowC 1 I := congrFun eA 0
    unfold post_X6_openIn at h2
    simp only [eR, eA] at h2
    rcases h2 with ⟨y, _⟩ | ⟨n, t0, q⟩
    · exact absurd y hno
    · exact ⟨fin_th p2 p1 m2 eA q, by rw [t0, hE.2], fun z => absurd (hE.2.symm.trans z) ne10⟩

theorem st_ifTurned {I I1 I2 : wI} {G G' : wG} (x1 x2 : Int32) {r rM : Int32} (hi : inv I) (h1 : lpost_L_ifTurned x1 x2 I G r (I1, G')) (h2 : post_X6_ifTurned x1 x2 I1 rM I2) : inv I2 ∧ I2 111 0 = r ∧ (r = 0 → G' 0 = rM.toInt64) := by
  obtain ⟨hC, hM, hA⟩ := hi
  rcases h1 with ⟨hok, hr, v, hp, hG⟩ | ⟨hno, hG, E, hx, hE⟩
  · obtain ⟨e1, fX⟩ := hp
    obtain ⟨p1, p2⟩ := absC_frX hC fX
    have p3 := frX_C fX
    obtain ⟨m1, m2⟩ := hiM p3 hM
    have eA : absM I1 = absC I := by rw [m1, hA]
    have eR : rowM I1 = rowC 1 I := congrFun eA 0
    unfold post_X6_ifTurned at h2
    simp only [eR, eA] at h2
    rcases h2 with ⟨_, ⟨t0, q⟩, er⟩ | ⟨n, _⟩ | ⟨_, n, _⟩
    · exact ⟨fin_th p2 p1 m2 eA q, by rw [t0, hr], fun _ => by rw [show G' = _ from hG, up0, er, e1]⟩
    · exact absurd hok (fun q => n (by first | exact q.1 | exact q))
    · exact absurd hok (fun q => n (by first | exact q.2 | exact q))
  · obtain ⟨fX, hx⟩ := hx
    obtain ⟨p1, p2⟩ := absC_frX hC fX
    have p3 := frX_C fX
    obtain ⟨m1, m2⟩ := hiM p3 hM
    have eA : absM I1 = absC I := by rw [m1, hA]
    have eR : rowM I1 = rowC 1 I := congrFun eA 0
    unfold post_X6_ifTurned at h2
    simp only [eR, eA] at h2
    obtain ⟨c1, c2⟩ := cd2 ne_IO_IA hx hE
    rcases h2 with ⟨y, _⟩ | ⟨n, t0, q⟩ | ⟨y, n, t0, q⟩
    · exact absurd y hno
    · exact ⟨fin_th p2 p1 m2 eA q, by rw [t0, c1 n], fun z => absurd ((c1 n).symm.trans z) ne10⟩
    · exact ⟨fin_th p2 p1 m2 eA q, by rw [t0, c2 y], fun z => absurd ((c2 y).symm.trans z) ne20⟩

theorem st_home {I I1 I2 : wI} {v rM : Int32} (hi : inv I) (h1 : post_X5_home I v I1) (h2 : post_X6_home I1 rM I2) : inv I2 ∧ v = rM := by
  obtain ⟨hC, hM, hA⟩ := hi
  obtain ⟨e1, p1, p2, p3⟩ := h1
  obtain ⟨m1, m2⟩ := hiM p3 hM
  have eA : absM I1 = absC I := by rw [m1, hA]
  have eR : rowM I1 = rowC 1 I := congrFun eA 0
  unfold post_X6_home at h2
  simp only [eR, eA] at h2
  obtain ⟨t0, er, q⟩ := h2
  exact ⟨fin_ok p2 p1 q rfl, by rw [e1, er]⟩

theorem st_learn {I I1 I2 : wI} {v rM : Int32} (hi : inv I) (h1 : post_X5_learn I v I1) (h2 : post_X6_learn I1 rM I2) : inv I2 ∧ v = rM := by
  obtain ⟨hC, hM, hA⟩ := hi
  obtain ⟨e1, p1, p2, p3⟩ := h1
  obtain ⟨m1, m2⟩ := hiM p3 hM
  have eA : absM I1 = absC I := by rw [m1, hA]
  have eR : rowM I1 = rowC 1 I := congrFun eA 0
  unfold post_X6_learn at h2
  simp only [eR, eA] at h2
  obtain ⟨t0, er, q⟩ := h2
  exact ⟨fin_ok p2 p1 q rfl, by rw [e1, er]⟩

theorem st_clearBuffer {I I1 I2 : wI} {v rM : Int32} (hi : inv I) (h1 : post_X5_clearBuffer I v I1) (h2 : post_X6_clearBuffer I1 rM I2) : inv I2 ∧ v = rM := by
  obtain ⟨hC, hM, hA⟩ := hi
  obtain ⟨e1, p1, p2, p3⟩ := h1
  obtain ⟨m1, m2⟩ := hiM p3 hM
  have eA : absM I1 = absC I := by rw [m1, hA]
  have eR : rowM I1 = rowC 1 I := congrFun eA 0
  unfold post_X6_clearBuffer at h2
  simp only [eR, eA] at h2
  obtain ⟨t0, er, q⟩ := h2
  exact ⟨fin_ok p2 p1 q rfl, by rw [e1, er]⟩

theorem st_keep {I I1 I2 : wI} {v rM : Int32} (hi : inv I) (h1 : post_X5_keep I v I1) (h2 : post_X6_keep I1 rM I2) : inv I2 ∧ v = rM := by
  obtain ⟨hC, hM, hA⟩ := hi
  obtain ⟨e1, p1, p2, p3⟩ := h1
  obtain ⟨m1, m2⟩ := hiM p3 hM
  have eA : absM I1 = absC I := by rw [m1, hA]
  have eR : rowM I1 = rowC 1 I := congrFun eA 0
  unfold post_X6_keep at h2
  simp only [eR, eA] at h2
  obtain ⟨t0, er, q⟩ := h2
  exact ⟨fin_ok p2 p1 q rfl, by rw [e1, er]⟩

theorem st_firstError {I I1 I2 : wI} {v rM : Int32} (hi : inv I) (h1 : post_X5_firstError I v I1) (h2 : post_X6_firstError I1 rM I2) : inv I2 ∧ v = rM := by
  obtain ⟨hC, hM, hA⟩ := hi
  obtain ⟨e1, fX⟩ := h1
  obtain ⟨p1, p2⟩ := absC_frX hC fX
  have p3 := frX_C fX
  obtain ⟨m1, m2⟩ := hiM p3 hM
  have eA : absM I1 = absC I := by rw [m1, hA]
  have eR : rowM I1 = rowC 1 I := congrFun eA 0
  unfold post_X6_firstError at h2
  simp only [eR, eA] at h2
  obtain ⟨er, t0, q⟩ := h2
  exact ⟨fin_th p2 p1 m2 eA q, by rw [e1, er]⟩

theorem st_closest {I I1 I2 : wI} {v rM : Int32} (hi : inv I) (h1 : post_X5_closest I v I1) (h2 : post_X6_closest I1 rM I2) : inv I2 ∧ v = rM := by
  obtain ⟨hC, hM, hA⟩ := hi
  obtain ⟨e1, fX⟩ := h1
  obtain ⟨p1, p2⟩ := absC_frX hC fX
  have p3 := frX_C fX
  obtain ⟨m1, m2⟩ := hiM p3 hM
  have eA : absM I1 = absC I := by rw [m1, hA]
  have eR : rowM I1 = rowC 1 I := congrFun eA 0
  unfold post_X6_closest at h2
  simp only [eR, eA] at h2
  obtain ⟨er, t0, q⟩ := h2
  exact ⟨fin_th p2 p1 m2 eA q, by rw [e1, er]⟩

theorem st_digest {I I1 I2 : wI} {v rM : Int64} (hi : inv I) (h1 : post_X5_digest I v I1) (h2 : post_X6_digest I1 rM I2) : inv I2 ∧ v = rM := by
  obtain ⟨hC, hM, hA⟩ := hi
  obtain ⟨e1, fX⟩ := h1
  obtain ⟨p1, p2⟩ := absC_frX hC fX
  have p3 := frX_C fX
  obtain ⟨m1, m2⟩ := hiM p3 hM
  have eA : absM I1 = absC I := by rw [m1, hA]
  have eR : rowM I1 = rowC 1 I := congrFun eA 0
  unfold post_X6_digest at h2
  simp only [eR, eA] at h2
  obtain ⟨er, t0, q⟩ := h2
  exact ⟨fin_th p2 p1 m2 eA q, by rw [e1, er]⟩

theorem st_openShare {I I2 : wI} {v rM : UInt64} (hi : inv I) (h1 : post_X5_openShare I v) (h2 : post_X6_openShare I rM I2) : inv I2 ∧ v = rM := by
  obtain ⟨hC, hM, hA⟩ := hi
  obtain ⟨er, t0, q⟩ := h2
  have eR : rowM I = rowC 1 I := (congrFun hA 0).symm
  refine ⟨fin_th hC rfl hM hA.symm q, ?_⟩
  rw [er, eR]; exact h1

theorem st_meanNotch {I I2 : wI} {v rM : UInt32} (hi : inv I) (h1 : post_X5_meanNotch I v) (h2 : post_X6_meanNotch I rM I2) : inv I2 ∧ v = rM := by
  obtain ⟨hC, hM, hA⟩ := hi
  obtain ⟨er, t0, q⟩ := h2
  have eR : rowM I = rowC 1 I := (congrFun hA 0).symm
  refine ⟨fin_th hC rfl hM hA.symm q, ?_⟩
  rw [er, eR]; exact h1
