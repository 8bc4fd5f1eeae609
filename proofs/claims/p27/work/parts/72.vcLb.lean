/-! ===== a turn over the law's row ===== -/
theorem i_tb0 {M q : Nat} (hM : M < 64) (hq : q < 6) : ((nI M >>> (nI q &&& 31)) &&& 1 = 0) = ¬ tb M q = 1 := by
  have e1 : nI M >>> (nI q &&& 31) &&& 1 = nI (tb M q) := by
    rw [l_31, i_and31 (by omega), i_shr (by omega) (by omega), l_1, i_and1 (Nat.lt_of_le_of_lt (Nat.div_le_self _ _) (by omega))]; rfl
  have := tb01 M q
  rw [e1, l_0, i_eq (by omega) (by decide)]
  exact propext (by omega)
/-- the row so far: i discs are done -/
def dtR (M s bk : Nat) (r r' : Nat → Int32) (i : Nat) : Prop := (∀ j, j < 6 → r' j = if j < i then newD M bk r j else r j) ∧ ∀ j, j < 6 → r' (6 + j) = if j < i then newN M s bk r j else r (6 + j)
theorem vl_L_doTurn {I : wI} {k v M s : Nat} {x : DN} (hx : relD (I k) x) (hM : M < 64) (hM2 : 2 ≤ pc6 M) (hs : s < 5) (hv : v < 10) {Q : wI → Prop} (hQ : ∀ I', dtR M s (v / 5) (I k) (I' k) 6 → frK k I I' → Q I') : ∀ (m i : Nat) (I' : wI), i + m = 6 → dtR M s (v / 5) (I k) (I' k) i → frK k I I' → v_L_doTurn_18 k (nI v) Q (m + 1) (nI M) (nI s) (nI i) I'
  | m, i, I', e, h, hf => by
    show g_L_doTurn_18 ..
    unfold g_L_doTurn_18
    rw [l_6, i_le (by omega) (by omega)]
    refine ⟨fun c => hQ I' (by rw [show i = 6 by omega] at h; exact h) hf, fun c => ⟨i_in (by omega) (by decide), ?_⟩⟩
    obtain ⟨m, rfl⟩ : ∃ j, m = j + 1 := ⟨m - 1, by omega⟩
    have hi : i < 6 := by omega
    obtain ⟨a1, a2, a3, a4⟩ := relD_ps hx hi
    have h5 := (hx.2 _ a1).2.1
    have ed : I' k i = nI (psF (I k) i) := by rw [h.1 i hi, if_neg (Nat.lt_irrefl _)]; exact a3
    have en : I' k (6 + i) = nI (x.2 (psF (I k) i)) := by rw [h.2 i hi, if_neg (Nat.lt_irrefl _)]; exact a4
    have ep : nt (I k i) = psF (I k) i := rfl
    rw [i_cl (show i < 2147483648 by omega), ed, i_tb0 hM a1, Decidable.not_not]
    refine ⟨fun ht => ⟨i_in (by omega) (by decide), ?_⟩, fun ht => ?_⟩
    · -- the disc is moved
      have go : ∀ b, (v / 5 = 0 → b = 1) → (v / 5 = 1 → b = 5) → v_L_doTurn_57 k (nI v) Q (v_L_doTurn_18 k (nI v) Q (m + 1)) (nI M) (nI s) (nI i) (nI b) (nI (psF (I k) i)) (nI M) (nI i) I' := by
        intro b hb0 hb1
        have hbk : v / 5 = 0 ∨ v / 5 = 1 := by omega
        have hb : b = 1 ∨ b = 5 := by rcases hbk with q | q; exact Or.inl (hb0 q); exact Or.inr (hb1 q)
        refine ⟨⟨⟨M, hM, rfl, hM2⟩, ⟨_, a1, rfl⟩, by rcases hb with rfl | rfl; exact Or.inl rfl; exact Or.inr rfl⟩, fun r1 h1 => ⟨i_in (by omega) (by decide), fun I2 e2 => ?_⟩⟩
        have h1 : r1 = nI (src M (1 - v / 5) (psF (I k) i)) := by
          have h1 : r1 = _ := h1
          rw [h1, i_nt (by omega), i_nt (by omega), i_nt (by omega)]
          rcases hbk with q | q
          · rw [hb0 q, q, if_pos rfl, src_nx ht]
          · rw [hb1 q, q, if_neg (by decide), src_pv ht]
        have hsr := src_lt (bk := 1 - v / 5) hM (by omega) a1
        rw [i_cl (by omega)] at e2
        rw [l_6, i_add, i_cl (show 6 + i < 2147483648 by omega)]
        have e26 : I2 k (6 + i) = nI (x.2 (psF (I k) i)) := by rw [e2, wU_off (Or.inr (by omega))]; exact en
        rw [e26]
        have fin : ∀ w, w ≤ 5 → (x.2 (psF (I k) i) + w) % 5 = (x.2 (psF (I k) i) + (if v / 5 = 0 then s else 5 - s)) % 5 → v_L_doTurn_88 k (nI v) Q (v_L_doTurn_18 k (nI v) Q (m + 1)) (nI M) (nI s) (nI i) (nI w) (nI (x.2 (psF (I k) i))) (nI (6 + i)) I2 := by
          intro w hw ew
          refine ⟨i_in (by omega) (by decide), fun I3 e3 => ?_⟩
          rw [i_cl (by omega), i_add, l_5, i_rem (by omega) (by decide) (by decide), ew] at e3
          unfold v_L_doTurn_92
          rw [i_s]
          refine vl_L_doTurn hx hM hM2 hs hv hQ m (i + 1) I3 (by omega) ⟨fun j hj => ?_, fun j hj => ?_⟩ (fun c hc => by rw [e3, e2, wU_ne hc, wU_ne hc]; exact hf c hc)
          · rw [e3, wU_off (Or.inr (by omega)), e2]
            by_cases ej : j = i
            · subst ej
              rw [wU_at, if_pos (by omega), h1]
              unfold newD
              rw [ep, if_pos ht]
            · rw [wU_off (Or.inr ej), h.1 j hj]
              by_cases c1 : j < i
              · rw [if_pos c1, if_pos (by omega)]
              · rw [if_neg c1, if_neg (by omega)]
          · by_cases ej : j = i
            · subst ej
              rw [e3, wU_at, if_pos (Nat.lt_succ_self j)]
              unfold newN
              rw [ep, if_pos ht, a4, i_nt (by omega)]
            · rw [e3, wU_off (Or.inr (by omega)), e2, wU_off (Or.inr (by omega)), h.2 j hj]
              by_cases c1 : j < i
              · rw [if_pos c1, if_pos (by omega)]
              · rw [if_neg c1, if_neg (by omega)]
        refine ⟨i_in (by omega) (by decide), fun c5 => ?_, fun c5 => ?_⟩
        · rw [l_5, i_le (by decide) (by omega)] at c5
          rw [l_5, i_sub (by omega)]
          exact fin (5 - s) (by omega) (by rw [if_neg (by omega)])
        · rw [l_5, i_le (by decide) (by omega)] at c5
          exact fin s (by omega) (by rw [if_pos (by omega)])
      refine ⟨fun c5 => ?_, fun c5 => ?_⟩
      · rw [l_5, i_le (by decide) (by omega)] at c5
        exact go 5 (fun q => by omega) (fun _ => rfl)
      · rw [l_5, i_le (by decide) (by omega)] at c5
        exact go 1 (fun _ => rfl) (fun q => by omega)
    · unfold v_L_doTurn_92
      rw [i_s]
      refine vl_L_doTurn hx hM hM2 hs hv hQ m (i + 1) I' (by omega) ⟨fun j hj => ?_, fun j hj => ?_⟩ hf
      · rw [h.1 j hj]
        by_cases ej : j = i
        · subst ej
          rw [if_neg (Nat.lt_irrefl _), if_pos (by omega)]
          unfold newD
          rw [ep, if_neg ht]
        · by_cases c1 : j < i
          · rw [if_pos c1, if_pos (by omega)]
          · rw [if_neg c1, if_neg (by omega)]
      · rw [h.2 j hj]
        by_cases ej : j = i
        · subst ej
          rw [if_neg (Nat.lt_irrefl _), if_pos (by omega)]
          unfold newN
          rw [ep, if_neg ht]
        · by_cases c1 : j < i
          · rw [if_pos c1, if_pos (by omega)]
          · rw [if_neg c1, if_neg (by omega)]
theorem vc_L_doTurn (k0 : Nat) (x2 : Int32) (I : wI) (hp : pre_L_doTurn k0 x2 I) : v_L_doTurn k0 x2 I (post_L_doTurn k0 x2 I) := by
  obtain ⟨hk, ⟨v, hv, rfl⟩, hn, x, hx⟩ := hp
  obtain ⟨⟨g1, g2, g3⟩, g4, g5⟩ := hk (v % 5) (m5 v)
  unfold v_L_doTurn
  rw [l_5, i_rem (by omega) (by decide) (by decide), i_add, i_cl (by omega), i_cl (by omega), g1, g4]
  refine ⟨i_in (by omega) (by decide), i_in (by omega) (by decide), 7, ?_⟩
  refine vl_L_doTurn hx g2 g3 g5 hv (fun I' h hf => ⟨fun y hy => ?_, hf⟩) 6 0 I rfl ⟨fun j hj => by rw [if_neg (Nat.not_lt_zero _)], fun j hj => by rw [if_neg (Nat.not_lt_zero _)]⟩ (fun _ _ => rfl)
  unfold mP
  rw [i_nt (by omega), aM_aK I (m5 v), aS_aK I (m5 v)]
  exact relD_mv g2 (bk_or hv) hy (fun i hi => by rw [h.1 i hi, if_pos hi]) (fun i hi => by rw [h.2 i hi, if_pos hi])
/-! ===== a word again and again ===== -/
theorem wD_ok {a : Nat → Int32} (ha : ∀ c, c < 5 → aM a c < 64) : ∀ (l : List Nat), (∀ v, v ∈ l → v < 10) → ∀ d, pmF d → (∀ p, p < 6 → d p < 6) → pmF (wD a l d) ∧ ∀ p, p < 6 → wD a l d p < 6
  | [], _, d, h1, h2 => ⟨h1, h2⟩
  | v :: l, hl, d, h1, h2 => by
    have hv := hl v List.mem_cons_self
    have hM := ha _ (m5 v)
    exact wD_ok ha l (fun w hw => hl w (List.mem_cons_of_mem _ hw)) _ (pmF_mv hM (bk_or hv) h1) (fun p hp => mvD_lt hM (bk_or hv) h2 hp)
theorem wD_comp {a : Nat → Int32} (ha : ∀ c, c < 5 → aM a c < 64) : ∀ (l : List Nat), (∀ v, v ∈ l → v < 10) → ∀ (d n : Nat → Nat), (∀ p, p < 6 → n p < 5) → ∀ p, p < 6 → wD a l d p = d (wD a l idF p) ∧ wN a l n p = (n (wD a l idF p) + wN a l zF p) % 5
  | [], _, d, n, hn, p, hp => by
    have e : idF p = p := by unfold idF; rw [if_pos hp]
    refine ⟨?_, ?_⟩
    · show d p = d (idF p)
      rw [e]
    · show n p = (n (idF p) + 0) % 5
      rw [e, Nat.add_zero, Nat.mod_eq_of_lt (hn p hp)]
  | v :: l, hl, d, n, hn, p, hp => by
    have hv := hl v List.mem_cons_self
    have hM := ha _ (m5 v)
    have hl' : ∀ w, w ∈ l → w < 10 := fun w hw => hl w (List.mem_cons_of_mem _ hw)
    have hq := (wD_ok ha l hl' idF idF_pm (fun p hp => idF_lt hp)).2 p hp
    obtain ⟨a1, b1⟩ := wD_comp ha l hl' (mvD (aM a (v % 5)) (v / 5) d) (mvN (aM a (v % 5)) (aS a (v % 5)) (v / 5) n) (fun q hq => mvN_lt hn hq) p hp
    obtain ⟨a2, b2⟩ := wD_comp ha l hl' (mvD (aM a (v % 5)) (v / 5) idF) (mvN (aM a (v % 5)) (aS a (v % 5)) (v / 5) zF) (fun q hq => mvN_lt (fun _ _ => (by decide : 0 < 5)) hq) p hp
    have hs := src_lt (bk := v / 5) hM (bk_or hv) hq
    have e1 : wD a (v :: l) d p = wD a l (mvD (aM a (v % 5)) (v / 5) d) p := rfl
    have e2 : wD a (v :: l) idF p = wD a l (mvD (aM a (v % 5)) (v / 5) idF) p := rfl
    have e3 : wN a (v :: l) n p = wN a l (mvN (aM a (v % 5)) (aS a (v % 5)) (v / 5) n) p := rfl
    have e4 : wN a (v :: l) zF p = wN a l (mvN (aM a (v % 5)) (aS a (v % 5)) (v / 5) zF) p := rfl
    rw [e1, e2, e3, e4, a1, a2, b1, b2]
    generalize wD a l idF p = q at *
    generalize wN a l zF p = w at *
    have f1 : ∀ d : Nat → Nat, mvD (aM a (v % 5)) (v / 5) d q = d (src (aM a (v % 5)) (v / 5) q) := fun d => by unfold mvD; rw [if_pos hq]
    have fi : idF (src (aM a (v % 5)) (v / 5) q) = src (aM a (v % 5)) (v / 5) q := by unfold idF; rw [if_pos hs]
    rw [f1, f1, fi]
    refine ⟨rfl, ?_⟩
    unfold mvN
    rw [if_pos hq, if_pos hq]
    by_cases c : tb (aM a (v % 5)) q = 1
    · rw [if_pos c, if_pos c]
      generalize n (src (aM a (v % 5)) (v / 5) q) = x
      generalize (if v / 5 = 0 then aS a (v % 5) else 5 - aS a (v % 5)) = y
      show _ = (x + ((zF _ + y) % 5 + w) % 5) % 5
      show _ = (x + ((0 + y) % 5 + w) % 5) % 5
      omega
    · rw [if_neg c, if_neg c, src_n c]
      show _ = (n q + (0 + w) % 5) % 5
      omega
def itW (a : Nat → Int32) (l : List Nat) : Nat → DN
  | 0 => (idF, zF)
  | t + 1 => (wD a l (itW a l t).1, wN a l (itW a l t).2)
theorem itN_s' (d n : Nat → Nat) : ∀ t p, itN d n (t + 1) p = n p + itN d n t (d p)
  | 0, p => by show 0 + n p = n p + 0; omega
  | t + 1, p => by
    show itN d n (t + 1) p + n (itD d (t + 1) p) = n p + (itN d n t (d p) + n (itD d t (d p)))
    rw [itN_s' d n t p, itD_s']
    omega
theorem itW_it {a : Nat → Int32} {l : List Nat} (ha : ∀ c, c < 5 → aM a c < 64) (hl : ∀ v, v ∈ l → v < 10) : ∀ t p, p < 6 → (itW a l t).1 p = itD (wD a l idF) t p ∧ (itW a l t).2 p = itN (wD a l idF) (wN a l zF) t p % 5
  | 0, p, hp => ⟨by show idF p = p; unfold idF; rw [if_pos hp], rfl⟩
  | t + 1, p, hp => by
    have hE := (wD_ok ha l hl idF idF_pm (fun p hp => idF_lt hp)).2 p hp
    have hlt : ∀ q, q < 6 → (itW a l t).2 q < 5 := fun q hq => by rw [(itW_it ha hl t q hq).2]; exact Nat.mod_lt _ (by decide)
    obtain ⟨a1, a2⟩ := wD_comp ha l hl (itW a l t).1 (itW a l t).2 hlt p hp
    obtain ⟨b1, b2⟩ := itW_it ha hl t _ hE
    refine ⟨?_, ?_⟩
    · show wD a l (itW a l t).1 p = _
      rw [a1, b1, itD_s']
    · show wN a l (itW a l t).2 p = _
      rw [a2, b2, itN_s']
      omega
theorem itW_z {a : Nat → Int32} {l : List Nat} (ha : ∀ c, c < 5 → aM a c < 64) (hl : ∀ v, v ∈ l → v < 10) (t : Nat) : rcF (itW a l t).1 (itW a l t).2 = 0 ↔ perF (wD a l idF) (wN a l zF) ∣ t := by
  obtain ⟨h1, h2⟩ := wD_ok ha l hl idF idF_pm (fun p hp => idF_lt hp)
  rw [rcF_zero, ← it_id (wN a l zF) h1 h2]
  exact ⟨fun q p hp => by rw [← (itW_it ha hl t p hp).1, ← (itW_it ha hl t p hp).2]; exact q p hp, fun q p hp => by rw [(itW_it ha hl t p hp).1, (itW_it ha hl t p hp).2]; exact q p hp⟩
theorem dgs_lt : ∀ (m r : Nat) (v : Nat), v ∈ dgs m r → v < 10
  | 0, _, _, h => absurd h List.not_mem_nil
  | m + 1, r, v, h => by
    rcases List.mem_cons.mp h with e | e
    · rw [e]; exact Nat.mod_lt _ (by decide)
    · exact dgs_lt m r v e
theorem dn_m1 : ∀ k, k < 5 → nI k + (-1 : Int32) = if k = 0 then -1 else nI (k - 1) := by decide +kernel
theorem vl_L_period29 {I : wI} (hk : okLk I) {row t : Nat} (hr : row < 10000) {x2 : Int32} {Q : Int32 → wI → Prop} {K12 : Nat → Int32 → wI → Prop} : ∀ (j : Nat) (x : DN) (I' : wI), j ≤ 4 → relD (I' 116) x → frK 116 I I' → (∀ I'' : wI, relD (I'' 116) (wD (aK I) (dgs j row) x.1, wN (aK I) (dgs j row) x.2) → frK 116 I I'' → K12 1 (nI (t + 1)) I'') → v_L_period_29 (nI row) x2 Q K12 (j + 1) 1 (nI t) (if j = 0 then -1 else nI (j - 1)) I'
  | 0, x, I', _, hx, hf, hK => by
    rw [if_pos rfl]
    refine ⟨Nat.le_refl _, fun _ => ?_, fun c => absurd (by decide) c⟩
    rw [i_s]
    exact hK I' hx hf
  | j + 1, x, I', hj, hx, hf, hK => by
    rw [if_neg (by omega), Nat.add_sub_cancel]
    refine ⟨Nat.le_refl _, fun c => absurd c (nI_lt0 (by omega)), fun _ => ?_⟩
    have e112 : I' 112 = I 112 := hf 112 (by decide)
    have go : v_L_period_71 (nI row) x2 Q K12 (v_L_period_29 (nI row) x2 Q K12 (j + 1)) 1 (nI t) (nI j) (nI (10 ^ j)) (nI row) I' := by
      have hp := p10 (show j ≤ 4 by omega)
      have hp0 := p10_0 j
      have hd : row / 10 ^ j ≤ row := Nat.div_le_self _ _
      refine ⟨Nat.le_refl _, by rw [l_0, i_eq (by omega) (by decide)]; omega, ?_⟩
      rw [i_div (by omega) hp0 (by omega), l_10, i_rem (by omega) (by decide) (by decide), dn_m1 j (by omega)]
      have hv : row / 10 ^ j % 10 < 10 := Nat.mod_lt _ (by decide)
      refine ⟨⟨okLk_fr e112 hk, ⟨_, hv, rfl⟩, by decide, x, hx⟩, fun I1 h1 => ?_⟩
      have h2 := h1.1 x hx
      rw [aK_fr e112, i_nt (by omega)] at h2
      refine vl_L_period29 hk hr j _ I1 (by omega) h2 (fun c hc => by rw [h1.2 c hc]; exact hf c hc) (fun I'' g1 g2 => hK I'' g1 g2)
    have hj3 : j = 0 ∨ j = 1 ∨ j = 2 ∨ j = 3 := by omega
    have d1 : (nI 1 : Int32) = 1 := rfl
    rcases hj3 with rfl | rfl | rfl | rfl
    · exact ⟨fun c => absurd rfl c, fun _ => go⟩
    · exact ⟨fun _ => ⟨fun c => absurd rfl c, fun _ => go⟩, fun c => absurd c (by decide)⟩
    · exact ⟨fun _ => ⟨fun _ => ⟨fun c => absurd rfl c, fun _ => go⟩, fun c => absurd c (by decide)⟩, fun c => absurd c (by decide)⟩
    · exact ⟨fun _ => ⟨fun _ => ⟨fun _ => go, fun c => absurd c (by decide)⟩, fun c => absurd c (by decide)⟩, fun c => absurd c (by decide)⟩
theorem vl_L_period12 {I : wI} (hk : okLk I) {row w : Nat} (hr : row < 10000) (hw : w = 1 ∨ w = 4) : ∀ (m t : Nat) (I' : wI), t + m = perF (wD (aK I) (dgs w row) idF) (wN (aK I) (dgs w row) zF) → (t = 0 → 0 < m) → relD (I' 116) (itW (aK I) (dgs w row) t) → frK 116 I I' → v_L_period_12 (nI row) (nI w) (post_L_period (nI row) (nI w) I) (m + 1) 1 (nI t) I'
  | m, t, I', e, ht0, hx, hf => by
    have ha : ∀ c, c < 5 → aM (aK I) c < 64 := fun c hc => by rw [aM_aK I hc]; exact (hk c hc).1.2.1
    have hl := dgs_lt w row
    have hE := wD_ok ha _ hl idF idF_pm (fun p hp => idF_lt hp)
    have h300 := perF_le (wN (aK I) (dgs w row) zF) hE.1
    have hz := itW_z ha hl t
    have next : (t + 1 ≤ perF (wD (aK I) (dgs w row) idF) (wN (aK I) (dgs w row) zF)) → v_L_period_24 (nI row) (nI w) (post_L_period (nI row) (nI w) I) (v_L_period_12 (nI row) (nI w) (post_L_period (nI row) (nI w) I) m) 1 (nI t) I' := by
      intro hlt
      refine ⟨Nat.le_refl _, w + 1, ?_⟩
      have ew : nI w - 1 = if w = 0 then -1 else nI (w - 1) := by
        rcases hw with rfl | rfl
        · decide
        · decide
      rw [ew]
      refine vl_L_period29 hk hr w _ I' (by omega) hx hf (fun I'' g1 g2 => ?_)
      obtain ⟨m, rfl⟩ : ∃ j, m = j + 1 := ⟨m - 1, by omega⟩
      exact vl_L_period12 hk hr hw m (t + 1) I'' (by omega) (fun q => by omega) g1 g2
    show g_L_period_12 ..
    refine ⟨Nat.le_refl _, fun c => ?_, fun c => ⟨⟨_, hx⟩, fun r1 h1 => ?_⟩⟩
    · rw [l_0, i_eq (by omega) (by decide)] at c
      exact next (by have := ht0 c; omega)
    · rw [l_0, i_eq (by omega) (by decide)] at c
      have h1 := h1 _ hx
      have hrl := rcF_lt (itW (aK I) (dgs w row) t).1 (itW (aK I) (dgs w row) t).2
      rw [h1, l_0, i_eq (by omega) (by decide), hz]
      refine ⟨fun hd => ?_, fun hd => next ?_⟩
      · have := Nat.le_of_dvd (by omega) hd
        refine ⟨?_, hf⟩
        rw [i_nt (by omega), i_nt (by omega), show t = perF (wD (aK I) (dgs w row) idF) (wN (aK I) (dgs w row) zF) by omega]
      · apply Decidable.byContradiction
        intro q
        exact hd (by rw [show t = perF (wD (aK I) (dgs w row) idF) (wN (aK I) (dgs w row) zF) by omega]; exact Nat.dvd_refl _)
theorem vc_L_period (x1 x2 : Int32) (I : wI) (hp : pre_L_period x1 x2 I) : v_L_period x1 x2 I (post_L_period x1 x2 I) := by
  obtain ⟨hk, ⟨row, hr, rfl⟩, hw0⟩ := hp
  obtain ⟨w, hw, rfl⟩ : ∃ w, (w = 1 ∨ w = 4) ∧ x2 = nI w := by
    rcases hw0 with e | e
    · exact ⟨1, Or.inl rfl, e⟩
    · exact ⟨4, Or.inr rfl, e⟩
  refine ⟨Nat.le_refl _, fun I1 e1 => ⟨trivial, fun I2 h2 => ⟨perF (wD (aK I) (dgs w row) idF) (wN (aK I) (dgs w row) zF) + 1, ?_⟩⟩⟩
  have ha : ∀ c, c < 5 → aM (aK I) c < 64 := fun c hc => by rw [aM_aK I hc]; exact (hk c hc).1.2.1
  have hE := wD_ok ha _ (dgs_lt w row) idF idF_pm (fun p hp => idF_lt hp)
  have hpos := perF_pos (wN (aK I) (dgs w row) zF) hE.1
  refine vl_L_period12 hk hr hw (perF (wD (aK I) (dgs w row) idF) (wN (aK I) (dgs w row) zF)) 0 I2 (Nat.zero_add _) (fun _ => hpos) h2.1 (fun c hc => ?_)
  rw [h2.2 c hc, e1]
  exact if_neg hc
