/-! ===== all that the looks show ===== -/
theorem t_y {A B C : Prop} (h : A) (c : C) : (¬ A → B) ∧ (A → C) := ⟨fun n => absurd h n, fun _ => c⟩
theorem t_n {A B C : Prop} (h : A) (c : C) : (A → C) ∧ (¬ A → B) := ⟨fun _ => c, fun n => absurd h n⟩
theorem t_y0 {A B C : Prop} (h : ¬ A) (b : B) : (¬ A → B) ∧ (A → C) := ⟨fun _ => b, fun n => absurd n h⟩
theorem t_n0 {A B C : Prop} (h : ¬ A) (b : B) : (A → C) ∧ (¬ A → B) := ⟨fun n => absurd n h, fun _ => b⟩
theorem isN_nI {n k : Nat} (h : k < n) : isN n (nI k) := ⟨k, h, rfl⟩
theorem ite_iff {A B : Prop} {hA : Decidable A} {hB : Decidable B} {x y : Nat} (h : A ↔ B) : (if A then x else y) = if B then x else y := by
  by_cases c : A
  · rw [if_pos c, if_pos (h.1 c)]
  · rw [if_neg c, if_neg (fun q => c (h.2 q))]
theorem sec_d {a : Nat → Int32} (hR : okR a) (h : a 36 = 1) {p : Nat} (hp : p < 6) : a (37 + p) = nI ((secP a).1 p) ∧ (secP a).1 p < 6 ∧ a (43 + p) = nI ((secP a).2 p) ∧ (secP a).2 p < 5 := by
  obtain ⟨⟨a1, a2⟩, a3, a4⟩ := hR.2.2.2.2.2.2 h p hp
  have e1 : (secP a).1 p = nt (a (37 + p)) := by show (if p < 6 then nt (a (37 + p)) else 0) = _; rw [if_pos hp]
  have e2 : (secP a).2 p = nt (a (43 + p)) := by show (if p < 6 then nt (a (43 + p)) else 0) = _; rw [if_pos hp]
  rw [e1, e2]; exact ⟨a1, a2, a3, a4⟩
theorem aRt_ag {a : Nat → Int32} (hR : okR a) : aRt a = if a 36 = 1 then agN (posP a) (secP a) else 0 := by
  show (if a 36 = 0 then 0 else _) = _
  rcases hR.2.2.2.2.2.1 with e | e
  · rw [if_pos e, if_neg (by rw [e]; decide)]
  · rw [if_neg (by rw [e]; decide), if_pos e]
    unfold agN
    refine sm_cong (fun p hp => ?_)
    obtain ⟨⟨a1, a2⟩, a3, a4⟩ := hR.1 p hp
    obtain ⟨b1, b2, b3, b4⟩ := sec_d hR e hp
    have k1 : (a p = a (37 + p)) = ((posP a).1 p = (secP a).1 p) := by rw [b1, a1]; exact i_eq (by omega) (by omega)
    have k2 : (a (6 + p) = a (43 + p)) = ((posP a).2 p = (secP a).2 p) := by rw [b3, a3]; exact i_eq (by omega) (by omega)
    exact ite_iff (and_congr (Iff.of_eq k1) (Iff.of_eq k2))
theorem right_rt {a : Nat → Int32} {I : wI} {k : Nat} {x : DN} {r : Int32} (hG : I 113 2 = a 36) (hS : a 36 = 1 → relD (I 114) (secP a)) (hx : relD (I k) x) (h : post_L_right k I r) : r = nI (if a 36 = 1 then agN x (secP a) else 0) := by
  have := h x (secP a) hx (fun q => hS (by rw [← hG]; exact q))
  rw [hG] at this; exact this
theorem pre_right {a : Nat → Int32} {I : wI} {k : Nat} {x : DN} (hG : I 113 2 = a 36) (hS : a 36 = 1 → relD (I 114) (secP a)) (hx : relD (I k) x) : pre_L_right k I := ⟨⟨x, hx⟩, fun q => ⟨_, hS (by rw [← hG]; exact q)⟩⟩
theorem disc_f {a : Nat → Int32} {r : Nat → Int32} (h : relD r (posP a)) (hR : okR a) {i : Nat} (hi : i < 6) : ∃ p, p < 6 ∧ psF r i = p ∧ r i = nI p ∧ r (6 + i) = nI (aN a p) ∧ aD a p = i ∧ a p = nI i ∧ a (6 + p) = nI (aN a p) ∧ aN a p < 5 := by
  obtain ⟨h1, h2, h3, h4⟩ := relD_ps h hi
  obtain ⟨⟨a1, a2⟩, a3, a4⟩ := hR.1 _ h1
  have h2 : aD a (psF r i) = i := h2
  exact ⟨psF r i, h1, rfl, h3, h4, h2, by rw [a1, h2], a3, a4⟩
theorem isR_iff {a : Nat → Int32} {I : wI} (hD : relD (I 111) (posP a)) (hG : I 113 2 = a 36) (hS : a 36 = 1 → relD (I 114) (secP a)) (hR : okR a) {i : Nat} (hi : i < 6) :
    (I 113 2 = 1 ∧ I 114 i = I 111 i ∧ I 114 (6 + i) = I 111 (6 + i)) ↔ (a 36 = 1 ∧ a (psF (I 111) i) = a (37 + psF (I 111) i) ∧ a (6 + psF (I 111) i) = a (43 + psF (I 111) i)) := by
  obtain ⟨p, hp, ep, e1, e2, e3, e4, e5, e6⟩ := disc_f hD hR hi
  rw [ep, hG, e1, e2, e4, e5]
  constructor
  · rintro ⟨h36, q1, q2⟩
    have hs := hS h36
    obtain ⟨b1, b2, b3, b4⟩ := sec_d hR h36 hp
    obtain ⟨c1, c2, c3, c4⟩ := relD_ps hs hi
    rw [c3] at q1
    have ec := nI_inj (by omega) (by omega) q1
    rw [ec] at c2 c4
    refine ⟨h36, by rw [b1, c2], by rw [b3, ← c4]; exact q2.symm⟩
  · rintro ⟨h36, q1, q2⟩
    have hs := hS h36
    obtain ⟨b1, b2, b3, b4⟩ := sec_d hR h36 hp
    rw [b1] at q1
    have ec := nI_inj (by omega) (by omega) q1
    have hsp := (relD_sp hs hp).2.1
    rw [← ec] at hsp
    obtain ⟨c1, c2, c3, c4⟩ := relD_ps hs hi
    rw [hsp] at c3 c4
    exact ⟨h36, c3, by rw [c4, ← b3]; exact q2.symm⟩
def hmF (x : DN) : Nat := sm (fun p => if x.1 p = p ∧ x.2 p = 0 then 1 else 0) 6
theorem hm_pc (x : DN) : hmF x + pc6 (rcF x.1 x.2) = 6 := by
  unfold hmF pc6
  rw [← sm_add]
  have e : sm (fun k => (if x.1 k = k ∧ x.2 k = 0 then 1 else 0) + tb (rcF x.1 x.2) k) 6 = sm (fun _ => 1) 6 := by
    refine sm_cong (fun p hp => ?_)
    show (if x.1 p = p ∧ x.2 p = 0 then 1 else 0) + tb (bits (rcB x.1 x.2) 6) p = 1
    rw [tb_bits _ 6 p hp]
    unfold rcB
    by_cases c : x.1 p = p ∧ x.2 p = 0
    · rw [if_pos c, if_neg]
      intro q
      have q := of_decide_eq_true q
      rcases q with q | q
      · exact q c.1
      · exact q c.2
    · rw [if_neg c, if_pos]
      refine decide_eq_true ?_
      apply Decidable.byContradiction
      intro q
      refine c ⟨?_, ?_⟩
      · apply Decidable.byContradiction; intro z; exact q (Or.inl z)
      · apply Decidable.byContradiction; intro z; exact q (Or.inr z)
  rw [e]; rfl
theorem cmpD : ∀ n, n < 7 → Op.cmpValue (FP.dcmp (shD n) (shD n)) CmpOp.l = 0 := by decide +kernel
theorem cmpF : ∀ n, n < 25 → Op.cmpValue (FP.fcmp (shF n) (shF n)) CmpOp.l = 0 := by decide +kernel
theorem vl_isSo_end {I : wI} (h : invL I) {Q : Int32 → Prop} (hQ : Q 1) {K : Int32 → Int32 → Int32 → Int32 → Prop} : g_L_isSo_12 I Q K (nI (aNS (rowC 1 I))) (nI (hmF (posP (rowC 1 I)))) (nI (sm (fun p => nt (rowC 1 I (12 + p))) 6)) (nI 6) := by
  obtain ⟨hC, hD, hK, ⟨g0, g1, g2, m, hm, g3, g4⟩, hS, hA⟩ := h
  have hR : okR (rowC 1 I) := hC.1.1
  have hns := aNS_le hR
  have hrl := aRt_le (rowC 1 I)
  have pc : ∀ n, n < 10 → pre_X5_count (nI n) I := fun n hn => ⟨hC, isN_nI hn⟩
  have ec : ∀ n r, n < 10 → post_X5_count (nI n) I r → r = aCnt (absC I) n := fun n r hn q => by
    have q : r = aCnt (absC I) (nt (nI n)) := q
    rw [q, i_nt (by omega)]
  refine ⟨fun _ => ⟨pre_right g2 hS hD, fun r1 h1 => ?_⟩, fun c => absurd (Int32.le_refl _) c⟩
  have h1 : r1 = nI (aRt (rowC 1 I)) := by rw [aRt_ag hR]; exact right_rt g2 hS hD h1
  subst h1
  refine ⟨pc 0 (by decide), fun r2 h2 => ⟨i_in (a := 0) (by decide) (by decide), t_y ?_ ⟨pc 1 (by decide), fun r3 h3 => t_y ?_ ⟨pc 2 (by decide), fun r4 h4 => t_y ?_ ⟨pc 3 (by decide), fun r5 h5 => t_y ?_ ⟨pc 4 (by decide), fun r6 h6 => ?_⟩⟩⟩⟩⟩⟩
  · rw [ec 0 r2 (by decide) h2]; exact g0.symm
  · rw [ec 1 r3 (by decide) h3, l_5, i_rem (by omega) (by decide) (by decide)]; rfl
  · rw [ec 2 r4 (by decide) h4, l_5, i_rem (by omega) (by decide) (by decide)]; exact hA
  · rw [ec 3 r5 (by decide) h5]
    have e := hm_pc (posP (rowC 1 I))
    show nI (6 - pc6 (aRc (absC I 0))) = _
    congr 1
    have e2 : pc6 (aRc (absC I 0)) = pc6 (rcF (posP (rowC 1 I)).1 (posP (rowC 1 I)).2) := rfl
    omega
  · have e6 : r6 = if aRt (rowC 1 I) = 6 then 1 else 0 := ec 4 r6 (by decide) h6
    have last : v_L_isSo_355 I Q (nI (aNS (rowC 1 I))) (nI (aRt (rowC 1 I))) 1 := by
      refine t_n0 (by decide) ⟨hC, fun r7 h7 => ⟨shD_n hrl, t_y ?_ ⟨hC, fun r8 h8 => ⟨shF_n hns, t_y ?_ ⟨Or.inr rfl, hQ⟩⟩⟩⟩⟩
      · have h7 : r7 = shD (aRt (rowC 1 I)) := h7
        rw [h7]; exact cmpD _ (by omega)
      · have h8 : r8 = shF (aNS (rowC 1 I)) := h8
        rw [h8]; exact cmpF _ (by omega)
    have nx : ∀ t : Int32, r6 = t → v_L_isSo_314 I Q (nI (aNS (rowC 1 I))) (nI (sm (fun p => nt (rowC 1 I (12 + p))) 6)) (nI (aRt (rowC 1 I))) t r6 := by
      intro t ht
      refine t_y ht ⟨pc 5 (by decide), fun r1 h1 => t_y ?_ ⟨pc 6 (by decide), fun r2 h2 => t_y ?_ ⟨pc 8 (by decide), fun r3 h3 => ⟨i_in (a := 1) (by decide) (by decide), t_y ?_ last⟩⟩⟩⟩
      · rw [ec 5 r1 (by decide) h1]; rfl
      · rw [ec 6 r2 (by decide) h2]; rfl
      · rw [ec 8 r3 (by decide) h3]; exact g1.symm
    rw [l_6, i_eq (by omega) (by decide)]
    refine ⟨fun c => nx 0 (by rw [e6, if_neg c]), fun c => nx 1 (by rw [e6, if_pos c])⟩
theorem i_tbv {M q : Nat} (hM : M < 64) (hq : q < 6) : (nI M >>> (nI q &&& 31)) &&& 1 = nI (tb M q) := by
  rw [l_31, i_and31 (by omega), i_shr (by omega) (by omega), l_1, i_and1 (Nat.lt_of_le_of_lt (Nat.div_le_self _ _) (by omega))]; rfl
theorem vl_isSo163 {I : wI} (h : invL I) {Q : Int32 → Prop} {K : Int32 → Int32 → Int32 → Int32 → Prop} {v5 v6 : Int32} {s i : Nat} (hi : i < 6) (hK : K v5 v6 (nI (s + nt (rowC 1 I (12 + i)))) (nI (i + 1))) : ∀ (f c : Nat), c + f = 5 → v_L_isSo_163 I Q K (f + 1) v5 v6 (nI s) (nI i) (nI (bits (fun c => decide (tb (aM (rowC 1 I) c) i = 1)) c)) (nI c)
  | f, c, e => by
    obtain ⟨hC, hD, hk, ⟨g0, g1, g2, m, hm, g3, g4⟩, hS, hA⟩ := id h
    have hR : okR (rowC 1 I) := hC.1.1
    show g_L_isSo_163 ..
    unfold g_L_isSo_163
    rw [l_5, i_le (by omega) (by omega)]
    refine ⟨fun z => ?_, fun z => ⟨i_in (by omega) (by decide), ?_⟩⟩
    · obtain rfl : c = 5 := by omega
      have es : (I 113 (3 : Int32).toNatClampNeg >>> (nI i &&& 31)) &&& 1 = nI (tb m i) := by
        have e3 : I 113 (3 : Int32).toNatClampNeg = nI m := g3
        rw [e3, i_tbv hm hi]
      rw [es]
      have hb := tb_lt m i
      refine ⟨⟨hC, isN_nI hi, isN_nI (k := 2) (by decide)⟩, fun r1 h1 => ⟨i_in (a := 3) (by decide) (by decide), t_y ?_ ⟨⟨hC, isN_nI hi, isN_nI (k := 4) (by decide)⟩, fun r2 h2 => t_n ?_ ⟨i_in (a := 3) (by decide) (by decide), ?_⟩⟩⟩⟩
      · have h1 : r1 = aAt (rowC 1 I) (nt (nI i)) (nt (nI 2)) := h1
        rw [h1, i_nt (by omega)]; exact g4 i hi
      · have h2 : r2 = aAt (rowC 1 I) (nt (nI i)) (nt (nI 4)) := h2
        rw [h2, i_nt (by omega)]; rfl
      · rw [i_add, i_s]
        have : nt (rowC 1 I (12 + i)) = tb m i := by rw [g4 i hi, i_nt (by omega)]
        rw [this] at hK; exact hK
    · obtain ⟨f, rfl⟩ : ∃ j, f = j + 1 := ⟨f - 1, by omega⟩
      have hc : c < 5 := by omega
      have eM : I 112 (nI c).toNatClampNeg = nI (aM (rowC 1 I) c) := by
        rw [i_cl (by omega), (hk c hc).1]; exact (hR.2.2.2.1 c hc).1.1
      have hM := okR_M hR hc
      have hb := tb01 (aM (rowC 1 I) c) i
      rw [eM, i_tbv hM hi, i_s]
      have eb : nI (bits (fun c => decide (tb (aM (rowC 1 I) c) i = 1)) c) ||| nI (tb (aM (rowC 1 I) c) i) <<< (nI c &&& 31) = nI (bits (fun c => decide (tb (aM (rowC 1 I) c) i = 1)) (c + 1)) := by
        rw [l_31, i_and31 (by omega), bits_succ]
        rcases hb with hb | hb
        · rw [hb, i_shl (by omega) (by omega), nI_or, Nat.zero_mul, Nat.or_zero, if_neg (by decide)]
        · rw [hb, show nI 1 <<< nI c = nI (2 ^ c) from i_shl1 (by omega), nI_or, if_pos (by decide)]
      rw [eb]
      exact vl_isSo163 h hi hK f (c + 1) (by omega)
theorem vl_isSo12 {I : wI} (h : invL I) {Q : Int32 → Prop} (hQ : Q 1) : ∀ (f i : Nat), i + f = 6 → v_L_isSo_12 I Q (f + 1) (nI (sm (fun i => aN (rowC 1 I) (psF (I 111) i)) i)) (nI (sm (fun i => if psF (I 111) i = i ∧ aN (rowC 1 I) (psF (I 111) i) = 0 then 1 else 0) i)) (nI (sm (fun p => nt (rowC 1 I (12 + p))) i)) (nI i)
  | 0, i, e => by
    obtain rfl : i = 6 := by omega
    obtain ⟨hC, hD, _⟩ := id h
    have e1 : sm (fun i => aN (rowC 1 I) (psF (I 111) i)) 6 = aNS (rowC 1 I) := relD_sum hD (aN (rowC 1 I))
    have e2 : sm (fun i => if psF (I 111) i = i ∧ aN (rowC 1 I) (psF (I 111) i) = 0 then 1 else 0) 6 = hmF (posP (rowC 1 I)) := by
      refine Eq.trans (sm_cong (fun i hi => ?_)) (relD_sum hD (fun p => if (posP (rowC 1 I)).1 p = p ∧ (posP (rowC 1 I)).2 p = 0 then 1 else 0))
      have a2 := (relD_ps hD hi).2.1
      show _ = if (posP (rowC 1 I)).1 (psF (I 111) i) = psF (I 111) i ∧ (posP (rowC 1 I)).2 (psF (I 111) i) = 0 then 1 else 0
      rw [a2]
      by_cases c : psF (I 111) i = i
      · rw [c]; rfl
      · rw [if_neg (fun q => c q.1), if_neg (fun q => c q.1.symm)]
    rw [e1, e2]
    exact vl_isSo_end h hQ
  | f + 1, i, e => by
    have hi : i < 6 := by omega
    obtain ⟨hC, hD, hk, ⟨g0, g1, g2, m, hm, g3, g4⟩, hS, hA⟩ := id h
    have hR : okR (rowC 1 I) := hC.1.1
    obtain ⟨p, hp, ep, e1, e2, e3, e4, e5, e6⟩ := disc_f hD hR hi
    have hr := isR_iff hD g2 hS hR hi
    rw [ep] at hr
    show g_L_isSo_12 ..
    unfold g_L_isSo_12
    rw [l_6, i_le (by omega) (by omega)]
    refine ⟨fun c => absurd c (by omega), fun _ => ⟨i_in (by omega) (by decide), i_in (a := 2) (by decide) (by decide), ?_⟩⟩
    have ih := vl_isSo12 h hQ f (i + 1) (by omega)
    have key : ∀ t, t = (if I 113 2 = 1 ∧ I 114 i = I 111 i ∧ I 114 (6 + i) = I 111 (6 + i) then (1 : Int32) else 0) → v_L_isSo_65 I Q (v_L_isSo_12 I Q (f + 1)) (nI (sm (fun i => aN (rowC 1 I) (psF (I 111) i)) i)) (nI (sm (fun i => if psF (I 111) i = i ∧ aN (rowC 1 I) (psF (I 111) i) = 0 then 1 else 0) i)) (nI (sm (fun p => nt (rowC 1 I (12 + p))) i)) (nI i) (nI p) t := by
      intro t ht
      have pa : ∀ w, w < 5 → pre_X5_at (nI p) (nI w) I := fun w hw => ⟨hC, isN_nI hp, isN_nI hw⟩
      have ea : ∀ w r, w < 5 → post_X5_at (nI p) (nI w) I r → r = aAt (rowC 1 I) p w := fun w r hw q => by
        have q : r = aAt (rowC 1 I) (nt (nI p)) (nt (nI w)) := q
        rw [q, i_nt (by omega), i_nt (by omega)]
      have e6i : I 111 ((6 : Int32) + nI i).toNatClampNeg = nI (aN (rowC 1 I) p) := by rw [l_6, i_add, i_cl (by omega)]; exact e2
      refine ⟨pa 0 (by decide), fun r1 h1 => t_y (by rw [ea 0 r1 (by decide) h1]; exact e4) ⟨pa 1 (by decide), fun r2 h2 => ⟨by rw [l_6, i_add]; exact i_in (by omega) (by decide), t_y (by rw [ea 1 r2 (by decide) h2, e6i]; exact e5) ⟨pa 3 (by decide), fun r3 h3 => ?_⟩⟩⟩⟩
      have h3 : r3 = if rowC 1 I 36 = 1 ∧ rowC 1 I p = rowC 1 I (37 + p) ∧ rowC 1 I (6 + p) = rowC 1 I (43 + p) then 1 else 0 := ea 3 r3 (by decide) h3
      have h3t : r3 = t := by
        rw [h3, ht]
        by_cases c : I 113 2 = 1 ∧ I 114 i = I 111 i ∧ I 114 (6 + i) = I 111 (6 + i)
        · rw [if_pos c, if_pos (hr.1 c)]
        · rw [if_neg c, if_neg (fun q => c (hr.2 q))]
      have nx : ∀ u : Int32, r3 = u → v_L_isSo_113 I Q (v_L_isSo_12 I Q (f + 1)) (nI (sm (fun i => aN (rowC 1 I) (psF (I 111) i)) i)) (nI (sm (fun i => if psF (I 111) i = i ∧ aN (rowC 1 I) (psF (I 111) i) = 0 then 1 else 0) i)) (nI (sm (fun p => nt (rowC 1 I (12 + p))) i)) (nI i) (nI p) u r3 := by
        intro u hu
        have fin : ∀ w : Nat, sm (fun i => if psF (I 111) i = i ∧ aN (rowC 1 I) (psF (I 111) i) = 0 then 1 else 0) (i + 1) = sm (fun i => if psF (I 111) i = i ∧ aN (rowC 1 I) (psF (I 111) i) = 0 then 1 else 0) i + w → v_L_isSo_154 I Q (v_L_isSo_12 I Q (f + 1)) (nI (sm (fun i => aN (rowC 1 I) (psF (I 111) i)) i) + I 111 ((6 : Int32) + nI i).toNatClampNeg) (nI (sm (fun p => nt (rowC 1 I (12 + p))) i)) (nI i) (nI w) (nI (sm (fun i => if psF (I 111) i = i ∧ aN (rowC 1 I) (psF (I 111) i) = 0 then 1 else 0) i)) := by
          intro w hw
          refine ⟨6, ?_⟩
          rw [e6i, i_add, i_add]
          refine vl_isSo163 h hi ?_ 5 0 rfl
          rw [sm_succ, ep] at ih
          rw [hw, sm_succ] at ih
          exact ih
        have no : ¬ (p = i ∧ aN (rowC 1 I) p = 0) → v_L_isSo_153 I Q (v_L_isSo_12 I Q (f + 1)) (nI (sm (fun i => aN (rowC 1 I) (psF (I 111) i)) i) + I 111 ((6 : Int32) + nI i).toNatClampNeg) (nI (sm (fun p => nt (rowC 1 I (12 + p))) i)) (nI i) (nI (sm (fun i => if psF (I 111) i = i ∧ aN (rowC 1 I) (psF (I 111) i) = 0 then 1 else 0) i)) := by
          intro hn
          exact fin 0 (by rw [sm_succ, ep, if_neg hn])
        refine t_n hu ⟨by rw [l_6, i_add]; exact i_in (by omega) (by decide), ?_⟩
        rw [i_eq (by omega) (by omega)]
        refine ⟨fun c => no (fun q => c q.1), fun c => ⟨by rw [l_6, i_add]; exact i_in (by omega) (by decide), ?_⟩⟩
        rw [show (I 111 ((6 : Int32) + nI i).toNatClampNeg = 0) = (aN (rowC 1 I) p = 0) by rw [e6i, l_0]; exact i_eq (by omega) (by decide)]
        exact ⟨fun d => no (fun q => d q.2), fun d => fin 1 (by rw [sm_succ, ep, if_pos ⟨c, d⟩])⟩
      refine ⟨fun c => nx 0 (by rw [h3t, c]), fun c => nx 1 ?_⟩
      rw [h3t]
      by_cases d : I 113 2 = 1 ∧ I 114 i = I 111 i ∧ I 114 (6 + i) = I 111 (6 + i)
      · rw [ht, if_pos d]
      · rw [ht, if_neg d] at c; exact absurd rfl c
    rw [i_cl (show i < 2147483648 by omega), e1]
    rw [e1] at key
    refine ⟨fun c => key 0 (by rw [if_neg (fun q => c q.1)]), fun c => ⟨i_in (by omega) (by decide), fun d => key 0 (by rw [if_neg (fun q => d q.2.1)]), fun d => ⟨by rw [i_add]; exact i_in (by omega) (by decide), by rw [i_add]; exact i_in (by omega) (by decide), ?_⟩⟩⟩
    rw [i_add, i_cl (show 6 + i < 2147483648 by omega)]
    exact ⟨fun z => key 0 (by rw [if_neg (fun q => z q.2.2)]), fun z => key 1 (by rw [if_pos ⟨c, d, z⟩])⟩
theorem vc_L_isSo (I : wI) (hp : pre_L_isSo I) : v_L_isSo I (post_L_isSo I) := ⟨7, vl_isSo12 hp (Q := post_L_isSo I) (show (1 : Int32) = 1 from rfl) 6 0 rfl⟩
