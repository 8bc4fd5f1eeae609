/-! ===== the law's own methods: calls that may throw; methods that make cells, n so far of 12 places each ===== -/
def wsL_ (y : MethodName) (cc : ByteArray) (n : Nat) (hh : List (Nat × Nat × Nat × Nat)) : List Cond := .codeWith y cc n (some .int) hh :: lw_all
theorem wsL_good {y : MethodName} {cc : ByteArray} {n : Nat} {hh : List (Nat × Nat × Nat × Nat)} (h : Cond.codeWith y cc n (some .int) hh ∈ lw_all) : GoodIn lw_all (wsL_ y cc n hh) := fun w hw => (List.mem_cons.mp hw).elim (fun e => by rw [e]; exact ⟨h, lw_G h⟩) (fun e => ⟨e, lw_G e⟩)
section WL
variable {p : Program} {l : Launch} {e : Env} {R : Room} {s : State} {m : MethodId} {args : Array Value} {below : List Frame} {meth : Method} {c : Code} {H : Heap} {locs : List Loc} {cells slots : Nat} {Q : State → Prop}
variable {cc bytes : ByteArray} {nL pc : Nat} {ls : Array Slot} {rest st0 : List Value} {own : String} {D : va_G} {cs : wC4} {ad : Nat → Nat} {b : Nat} {G B : wG} {I I' : wI}
variable {y : MethodName} {maxL n mc ms ix : Nat} {rm : Room} {av As : List Value} {Qc : Array Value → State → Outcome → State → Prop} {a : Array Value} {X X' : String → wI → Prop} {hh : List (Nat × Nat × Nat × Nat)}
theorem w_metW (hy : plainName y.cls = true) (hlen : (lg_sl av).length ≤ nL)
    (body : ∀ (p : Program) (e : Env) (s : State) (m : MethodId) (below : List Frame) (meth : Method) (c : Code), CallFix p m c cc nL s av.toArray lw_all y.cls → meth.sig.returnType = some .int → meth.locks = false → c.exceptionTable.toList = tableOf hh → va_K D vwCl (wTys cs) s → wEn ad b s s.heap → wH D cs b G I s s.heap [] →
      ∀ ls : Array Slot, lv_has ls nL (lv_args 0 av) → W p l e rm s m av.toArray below meth c s.heap [] 0 0 (MQ below Qc av.toArray s mc ms (fun q => b ≤ q)) (F0 m 0 ls [])) :
    Met l y (wsL_ y cc nL hh) rm (va_Pc av (wPr D cs ad b G I)) Qc mc ms (fun q => b ≤ q) := by
  refine va_MetW (cc := cc) (maxL := nL) (ret := some .int) (hh := hh) hy rfl ?_
  intro p e s m args below meth c s₁ B hml hv
  obtain ⟨rfl, hK, hE, hP, hO⟩ := hv
  have hl := lv_entry av (n := nL) hlen
  rw [lg_entry_eq]
  have hts0 := atoms_spec (ws := wsL_ y cc nL hh) B.pre
  exact body p e s m below meth c ⟨B.exec, B.bytes, hml, findClass_of_methodNamed B.named, fun w hw => hts0 w (List.mem_cons_of_mem _ hw)⟩ B.returns B.notSynchronized (vx_table (x := y) B (hts0 _ List.mem_cons_self)) hK hE ⟨hP, va_S.rf, hO⟩ _ hl
theorem w_xcI (hH : wH D cs b G I s H locs) (hr : vx_Run p l e R s m args below meth c H locs 0 0 1 6 (F0 m pc ls st0) rest (va_Qi (fun (_ : Int32) (_ : wI) => False) (wPo D cs b G) (fun q => b ≤ q) a) (wXC D cs b G X') (fun q => b ≤ q))
    (kk : ∀ (E : String) (u : wI) (H1 : Heap) (locs1 : List Loc) (q9 : Addr) (ce : Cell), X' E u → wH D cs b G u s H1 locs1 → H1[q9]? = some ce → ce.vm = .none → s.vm.findClass E = some ce.cls → vx_W p l e R s m args below meth c H1 locs1 (0 + 1) (0 + 6) Q (F0 m pc ls rest) q9) :
    W p l e R s m args below meth c H locs 0 0 Q (F0 m pc ls st0) :=
  vx_calli hr hH.2.1 (fun q _ h => h) (fun q h => h) (fun q _ h => h) (fun E ce q9 u t H1 locs1 ht _ _ hB _ _ hS hce hcv hcl => kk E u H1 locs1 q9 ce hB.1 ⟨by rw [← ht]; exact hB.2, hS, hH.2.2⟩ hce hcv hcl) (fun r u t H1 locs1 _ _ hp => hp.elim)
theorem w_rSW (hX : CallFix p m c cc nL s args lw_all own) (hK : va_K D vwCl (wTys cs) s) (hE : wEn ad b s s.heap) (hH : wH D cs b G I s H locs) (hM : Met l y (wsL_ y bytes maxL hh) rm (va_Pc As (wPr D cs ad b G I)) Qc mc ms (fun q => b ≤ q))
    (q1 : Cond.methodLink own ix y ∈ lw_all) (q2 : Cond.static y ∈ lw_all) (q4 : Cond.initialized y.cls ∈ lw_all) (q5 : Cond.codeWith y bytes maxL (some .int) hh ∈ lw_all)
    (hd : y.cls ≠ "java/lang/invoke/MethodHandle" ∧ y.cls ≠ "java/lang/invoke/VarHandle" ∧ (parseMethodDescriptor y.desc).map (fun d => d.parameters.length) = some n) (hR : rm.frames + 1 ≤ R.frames ∧ 8 + (maxL + 11) + rm.locals ≤ R.locals) (hrm : rm.cells = mc ∧ rm.slots = ms) (hn : As.length = n) (hls : ls.size = nL) (hst0 : st0 = As.reverse ++ rest) (hst : (rest.map fun v => v.category).sum ≤ 8) (hdg : decode cc pc = .ok (.invokestatic ix, 3)) (hf : cells + mc ≤ R.cells ∧ slots + ms ≤ R.slots) :
    va_Run p l e R s m args below meth c H locs cells slots mc ms (F0 m pc ls st0) rest (Qc As.toArray) (fun q => b ≤ q) :=
  vx_runSW (As := As) (rest := rest) hX hM (vx_cwSW n hX.2.2.2.2 (fun w hw => by
    rcases List.mem_append.mp hw with h | h
    · have : w = .methodLink own ix y ∨ w = .static y ∨ w = .initialized y.cls := by simpa using h
      rcases this with rfl | rfl | rfl
      · exact ⟨q1, lw_G q1⟩
      · exact ⟨q2, lw_G q2⟩
      · exact ⟨q4, lw_G q4⟩
    · exact wsL_good q5 w h) rfl hrm.1 hrm.2 hd hR) (w_preS hK hE hH) rfl hn hls hst0 (lv_room hst) hdg hf
-- ---- cells counted by n
theorem w_n0 {g : JFrame} (h : W p l e R s m args below meth c H locs 0 (12 * 0) Q g) : W p l e R s m args below meth c H locs 0 0 Q g := h
theorem n_fit {N k : Nat} (h : n + k ≤ N) (hm : ms ≤ 12 * k) : n + k ≤ N ∧ 12 * n + ms ≤ 12 * N := ⟨h, by omega⟩
theorem n_cI {post : Int32 → wI → Prop} (hH : wH D cs b G I s H locs) (hr : va_Run p l e R s m args below meth c H locs n (12 * n) mc ms (F0 m pc ls st0) rest (va_Qi post (wPo D cs b G) (fun q => b ≤ q) a) (fun q => b ≤ q)) (hms : ms ≤ 12 * mc)
    (kk : ∀ (r : Int32) (I' : wI) (H : Heap) (locs : List Loc), post r I' → wH D cs b G I' s H locs → W p l e R s m args below meth c H locs (n + mc) (12 * (n + mc)) Q (F0 m (pc + 3) ls (.int r :: rest))) : W p l e R s m args below meth c H locs n (12 * n) Q (F0 m pc ls st0) :=
  va_calli hr hH.2.1 (fun q _ h => h) (fun q h => h) (fun r u t H1 locs1 ht _ hp hB _ _ hS => W.widen (Nat.le_refl _) (show 12 * n + ms ≤ 12 * (n + mc) by omega) (kk r u H1 locs1 hp ⟨by rw [← ht]; exact hB, hS, hH.2.2⟩))
theorem n_cIp {post : Int32 → Prop} (hH : wH D cs b G I s H locs) (hr : va_Run p l e R s m args below meth c H locs n (12 * n) mc ms (F0 m pc ls st0) rest (va_Qi (fun r I' => I' = I ∧ post r) (wPo D cs b G) (fun q => b ≤ q) a) (fun q => b ≤ q)) (hms : ms ≤ 12 * mc)
    (kk : ∀ (r : Int32) (H : Heap) (locs : List Loc), post r → wH D cs b G I s H locs → W p l e R s m args below meth c H locs (n + mc) (12 * (n + mc)) Q (F0 m (pc + 3) ls (.int r :: rest))) : W p l e R s m args below meth c H locs n (12 * n) Q (F0 m pc ls st0) :=
  n_cI hH hr hms (fun r I' H locs hp hH => kk r H locs hp.2 (by rw [← hp.1]; exact hH))
theorem w_eIB {v : Int32} {post : Int32 → wI → Prop} (hB : ∀ I t, wPo D cs b G I t → wPo D cs b B I t) (hX : CallFix p m c cc nL s args lw_all own) (hr : meth.sig.returnType = some .int) (hlk : meth.locks = false) (hH : wH D cs b G I' s H locs) (hp : post v I') (hdg : decode cc pc = .ok (.ireturn, 1)) :
    W p l e R s m args below meth c H locs cells slots (MQ below (va_Qi post (wPo D cs b B) (fun q => b ≤ q)) args s cells slots (fun q => b ≤ q)) (F0 m pc ls [.int v]) :=
  W.iret hX.1 hX.2.1 hr (fun t ht hW => ⟨⟨v, I', rfl, hp, hB _ _ (by unfold wPo; rw [ht]; exact hH.1)⟩, hH.2.1.F ht⟩) hH.2.1.2.2 hdg hlk
theorem w_eZB {v : Int32} {post : Int32 → wI → Prop} (hB : ∀ I t, wPo D cs b G I t → wPo D cs b B I t) (h01 : v = 0 ∨ v = 1) (hX : CallFix p m c cc nL s args lw_all own) (hr : meth.sig.returnType = some .boolean) (hlk : meth.locks = false) (hH : wH D cs b G I' s H locs) (hp : post v I') (hdg : decode cc pc = .ok (.ireturn, 1)) :
    W p l e R s m args below meth c H locs cells slots (MQ below (va_Qi post (wPo D cs b B) (fun q => b ≤ q)) args s cells slots (fun q => b ≤ q)) (F0 m pc ls [.int v]) :=
  W.zret hX.1 hX.2.1 hr (w_nar01 h01).1 (fun t ht hW => ⟨⟨v, I', rfl, hp, hB _ _ (by unfold wPo; rw [ht]; exact hH.1)⟩, hH.2.1.F ht⟩) hH.2.1.2.2 hdg hlk
/-- one cell more, at the heap's end -/
theorem n_more (B : wG) (z N : Nat) : ∃ G : wG, G.2 = N + 1 ∧ (∀ k, k ≠ N → B.1 k = G.1 k) ∧ G.1 N = z :=
  ⟨(fun k => if k = N then z else B.1 k, N + 1), rfl, fun k hk => (if_neg hk).symm, if_pos rfl⟩
theorem wOff_lt : ∀ k, k < 117 → (wSh k).1 = 0 → ∀ j, j < wNf (wSh k).2 → (wOff (wSh k).2 j).getD 0 + k < 111 := by decide +kernel
theorem wEs_ad {cs : wC4} {G B : wG} {N : Nat} {I : wI} (hN : N = 115 ∨ N = 116) (h : ∀ k, k ≠ N → B.1 k = G.1 k) {k : Nat} (hk : k < 117) : wEs cs B I (wSh k) k = wEs cs G I (wSh k) k := by
  have hf := wOff_lt k hk
  generalize wSh k = sh at hf
  obtain ⟨x, y⟩ := sh
  match x, hf with
  | 0, hf =>
    show Sum.inr (y, (List.range (wNf y)).map (wFv B I y k)) = Sum.inr (y, (List.range (wNf y)).map (wFv G I y k))
    congr 2
    refine List.map_congr_left (fun j hj => ?_)
    have hj := hf rfl j (List.mem_range.mp hj)
    unfold wFv
    have hj : (wOff y j).getD 0 + k < 111 := hj
    cases ho : wOff y j with
    | none => rfl
    | some o =>
      rw [ho] at hj
      have hj : o + k < 111 := hj
      show Value.ref _ = Value.ref _
      rw [h (k + o) (by omega)]
  | 1, _ => rfl
  | 2, _ => rfl
  | 3, _ =>
    show Sum.inl (cs.2.2, y, Sum.inr (Sum.inr (Sum.inr (Sum.inr fun j => some (B.1 (wSv (I k j))))))) = Sum.inl (cs.2.2, y, Sum.inr (Sum.inr (Sum.inr (Sum.inr fun j => some (G.1 (wSv (I k j)))))))
    have e : (fun j => some (B.1 (wSv (I k j)))) = (fun j => some (G.1 (wSv (I k j)))) := by
      funext j
      rw [h _ (by unfold wSv; omega)]
    rw [e]
  | x + 4, _ => rfl
theorem wLs_ad {cs : wC4} {G B : wG} {N M : Nat} {I : wI} (hN : N = 115 ∨ N = 116) (hM : M ≤ 117) (h : ∀ k, k ≠ N → B.1 k = G.1 k) {H : Heap} {D : va_G} {G2 : Nat} (hMG : M ≤ G2) (hNM : M ≤ N) (hP : va_P D vwCl (wLs cs (G.1, G2) I) H) : va_P D vwCl (wLs cs (B.1, M) I) H := by
  intro k q hq
  obtain ⟨hk, rfl⟩ := wLs_inv hq
  have hk : k < M := hk
  have h1 := hP k _ (wLs_get (G := (G.1, G2)) (show k < G2 by omega))
  show va_at D vwCl (B.1 k, wEs cs (B.1, M) I (wSh k) k) H
  have e1 : wEs cs (B.1, M) I (wSh k) k = wEs cs (G.1, G2) I (wSh k) k := wEs_ad hN h (by omega)
  rw [e1, h k (by omega)]
  exact h1
theorem n_back {G B : wG} {N : Nat} (hN : N = 115 ∨ N = 116) (h0 : B.2 = N) (hG : G.2 = N + 1) (h : ∀ k, k ≠ N → B.1 k = G.1 k) : ∀ I t, wPo D cs b G I t → wPo D cs b B I t := by
  intro I t hP
  have hP : va_P D vwCl (wLs cs (G.1, G.2) I) t.heap := hP
  have h2 := wLs_ad (M := N) hN (by omega) h (by omega) (Nat.le_refl _) hP
  have e : B = (B.1, N) := by rw [← h0]
  show va_P D vwCl (wLs cs B I) t.heap
  rw [e]; exact h2
theorem n_fore {G B : wG} {N : Nat} (hN : N = 115 ∨ N = 116) (h0 : B.2 = N) (h : ∀ k, k ≠ N → B.1 k = G.1 k) (hH : wH D cs b B I s H locs) : wH D cs b (G.1, N) I s H locs := by
  obtain ⟨h1, h2, h3, h4, h5⟩ := hH
  have e : B = (B.1, N) := by rw [← h0]
  refine ⟨wLs_ad (M := N) (G2 := N) hN (by omega) (fun k hk => (h k hk).symm) (Nat.le_refl _) (Nat.le_refl _) (by rw [← e]; exact h1), h2, by show 115 ≤ N; omega, fun i j hi hj hij => ?_, fun k hk => ?_⟩
  · have hi : i < N := hi
    have hj : j < N := hj
    exact h4 i j (by omega) (by omega) (by rw [h i (by omega), h j (by omega)]; exact hij)
  · have hk : k < N := hk
    show b ≤ G.1 k
    rw [← h k (by omega)]
    exact h5 k (by omega)
theorem n_newa {N : Nat} {x : Int32} (hX : CallFix p m c cc nL s args lw_all own) (hK : va_K D vwCl (wTys cs) s) (hH : wH D cs b (G.1, N) I s s.heap []) (hG : G.2 = N + 1) (hsz : G.1 N = s.heap.size) (hx : x = 12) (hs : wSh N = (5, 12)) (q1 : Cond.arrayClass .int ∈ lw_all) (hR : 1 ≤ R.cells ∧ 12 * 1 ≤ R.slots) (hdg : decode cc pc = .ok (.newarray .int, 2))
    (kk : ∀ (I' : wI) (H : Heap), I' = zI I N → wH D cs b G I' s H [] → W p l e R s m args below meth c H [] 1 (12 * 1) Q (F0 m (pc + 2) ls (.ref (G.1 N) :: rest))) : W p l e R s m args below meth c s.heap [] 0 (12 * 0) Q (F0 m pc ls (.int x :: rest)) := by
  subst hx
  obtain ⟨hxx, hb, -, hown, hts⟩ := hX
  obtain ⟨hP, hS, h3, h4, h5⟩ := hH
  have h3 : 115 ≤ N := h3
  have hlt : ∀ k, k < N → G.1 k < s.heap.size := fun k hk => (hP k _ (wLs_get (G := (G.1, N)) hk)).lt
  refine va_newaK (atype := .int) (N := 12) hxx hb (hts _ q1) rfl hdg rfl (by decide) (by decide) (by decide) hR.1 hR.2 hsz.symm fun H1 cA e1 z1 o1 hAr hNm => ?_
  have hcA : cA = cs.1 := Option.some.inj (hNm.symm.trans (hK.2 0 _ rfl).2)
  subst hcA
  have o1' : ∀ q, q < s.heap.size → H1[q]? = s.heap[q]? := fun q hq => o1 q (by rw [hsz]; exact hq)
  refine kk _ H1 rfl ⟨fun k q hq => ?_, ⟨by rw [z1, hsz]; omega, fun q h7 h8 => o1' q h7, hS.2.2⟩, by omega, fun i j hi hj hij => ?_, fun k hk => ?_⟩
  · obtain ⟨hk, rfl⟩ := wLs_inv hq
    by_cases hkN : k = N
    · subst hkN
      show va_at D vwCl (G.1 k, wEs cs G (zI I k) (wSh k) k) H1
      rw [hs]
      show H1[G.1 k]? = some (vp_cell cs.1 (12, .inl (zI I k k)))
      rw [e1]
      have ez : zI I k k = fun _ => 0 := if_pos rfl
      rw [ez]
      rfl
    · have hk : k < N := by omega
      have h1 := hP k _ (wLs_get (G := (G.1, N)) hk)
      have h2 : va_at D vwCl (G.1 k, wEs cs (G.1, N) I (wSh k) k) H1 := by
        exact h1.kept (o1' _ (hlt k hk))
      show va_at D vwCl (G.1 k, wEs cs G (zI I N) (wSh k) k) H1
      have e2 : wEs cs G (zI I N) (wSh k) k = wEs cs (G.1, N) I (wSh k) k := wEs_congr (I := I) (if_neg hkN)
      rw [e2]; exact h2
  · by_cases hi0 : i = N
    · by_cases hj0 : j = N
      · omega
      · subst hi0
        have := hlt j (by omega)
        omega
    · by_cases hj0 : j = N
      · subst hj0
        have := hlt i (by omega)
        omega
      · exact h4 i j (show i < N by omega) (show j < N by omega) hij
  · by_cases hk0 : k = N
    · subst hk0
      have h6 := h5 0 (show 0 < k by omega)
      have h7 := hlt 0 (by omega)
      have h6 : b ≤ G.1 0 := h6
      omega
    · exact h5 k (show k < N by omega)
end WL
