/-! ===== the law's own methods: a call that may throw, and its answer put away ===== -/
def wIO : String := "java/lang/IndexOutOfBoundsException"
def wIA : String := "java/lang/IllegalArgumentException"
def wIS : String := "java/lang/IllegalStateException"
def wNc (U : State) : Prop := va_Nc wIS wIO U ∧ va_Nc wIS wIA U ∧ va_Nc wIA wIO U
theorem wNc.moved {u U : State} (hvm : u.vm.Alike U.vm) (h : wNc u) : wNc U := ⟨va_Nc.moved hvm h.1, va_Nc.moved hvm h.2.1, va_Nc.moved hvm h.2.2⟩
def wPrL (D : va_G) (cs : wC4) (ad : Nat → Nat) (b : Nat) (G : wG) (I : wI) (U : State) : Prop := wPr D cs ad b G I U ∧ wNc U
theorem wPrL_blind {D : va_G} {cs : wC4} {ad : Nat → Nat} {b : Nat} {G : wG} {I : wI} {av : List Value} : FrameBlind (va_Pc av (wPrL D cs ad b G I)) := by
  intro a U g mk h
  exact ⟨h.1, (wPr_blind (av := a.toList) a U g mk ⟨rfl, h.2.1⟩).2, wNc.moved (u := U) (U := U.calling g mk a) (Vm.Alike.refl U.vm) h.2.2⟩
def wsL_ (y : MethodName) (cc : ByteArray) (n : Nat) (hh : List (Nat × Nat × Nat × Nat)) : List Cond := .codeWith y cc n (some .int) hh :: lw_all
theorem wsL_good {y : MethodName} {cc : ByteArray} {n : Nat} {hh : List (Nat × Nat × Nat × Nat)} (h : Cond.codeWith y cc n (some .int) hh ∈ lw_all) : GoodIn lw_all (wsL_ y cc n hh) := fun w hw => (List.mem_cons.mp hw).elim (fun e => by rw [e]; exact ⟨h, lw_G h⟩) (fun e => ⟨e, lw_G e⟩)
section WL
variable {p : Program} {l : Launch} {e : Env} {R : Room} {s : State} {m : MethodId} {args : Array Value} {below : List Frame} {meth : Method} {c : Code} {H : Heap} {locs : List Loc} {cells slots : Nat} {Q : State → Prop}
variable {cc bytes : ByteArray} {nL pc : Nat} {ls : Array Slot} {rest st0 : List Value} {own : String} {D : va_G} {cs : wC4} {ad : Nat → Nat} {b : Nat} {G G' : wG} {I I' : wI}
variable {y : MethodName} {maxL n mc ms ix : Nat} {rm : Room} {av As : List Value} {Qc : Array Value → State → Outcome → State → Prop} {a : Array Value} {X X' : String → wI → Prop} {hh : List (Nat × Nat × Nat × Nat)}
theorem w_metW (hy : plainName y.cls = true) (hlen : (lg_sl av).length ≤ nL)
    (body : ∀ (p : Program) (e : Env) (s : State) (m : MethodId) (below : List Frame) (meth : Method) (c : Code), CallFix p m c cc nL s av.toArray lw_all y.cls → meth.sig.returnType = some .int → meth.locks = false → c.exceptionTable.toList = tableOf hh → va_K D vwCl (wTys cs) s → wEn ad b s s.heap → wNc s → wH D cs b G I s s.heap [] →
      ∀ ls : Array Slot, lv_has ls nL (lv_args 0 av) → W p l e rm s m av.toArray below meth c s.heap [] 0 0 (MQ below Qc av.toArray s mc ms (fun q => b ≤ q)) (F0 m 0 ls [])) :
    Met l y (wsL_ y cc nL hh) rm (va_Pc av (wPrL D cs ad b G I)) Qc mc ms (fun q => b ≤ q) := by
  refine va_MetW (cc := cc) (maxL := nL) (ret := some .int) (hh := hh) hy rfl ?_
  intro p e s m args below meth c s₁ B hml hv
  obtain ⟨rfl, ⟨hK, hE, hP⟩, hN⟩ := hv
  have hl := lv_entry av (n := nL) hlen
  rw [lg_entry_eq]
  have hts0 := atoms_spec (ws := wsL_ y cc nL hh) B.pre
  exact body p e s m below meth c ⟨B.exec, B.bytes, hml, findClass_of_methodNamed B.named, fun w hw => hts0 w (List.mem_cons_of_mem _ hw)⟩ B.returns B.notSynchronized (vx_table (x := y) B (hts0 _ List.mem_cons_self)) hK hE hN ⟨hP, va_S.rf⟩ _ hl
theorem w_eIL {v : Int32} {post : Int32 → wI × wG → Prop} (hX : CallFix p m c cc nL s args lw_all own) (hr : meth.sig.returnType = some .int) (hlk : meth.locks = false) (hH : wH D cs b G' I' s H locs) (hp : post v (I', G')) (hdg : decode cc pc = .ok (.ireturn, 1)) :
    W p l e R s m args below meth c H locs cells slots (MQ below (va_Qi post (fun u t => wPo D cs b u.2 u.1 t) (fun q => b ≤ q)) args s cells slots (fun q => b ≤ q)) (F0 m pc ls [.int v]) :=
  W.iret hX.1 hX.2.1 hr (fun t ht hW => ⟨⟨v, (I', G'), rfl, hp, by show va_P D vwCl (wLs cs b G' I') t.heap; rw [ht]; exact hH.1⟩, hH.2.F ht⟩) hH.2.2.2 hdg hlk
theorem w_xcI (hH : wH D cs b G I s H locs) (hr : vx_Run p l e R s m args below meth c H locs 0 0 1 6 (F0 m pc ls st0) rest (va_Qi (fun (_ : Int32) (_ : wI) => False) (wPo D cs b G) (fun q => b ≤ q) a) (wXC D cs b G X') (fun q => b ≤ q))
    (kk : ∀ (E : String) (u : wI) (H1 : Heap) (locs1 : List Loc) (q9 : Addr) (ce : Cell), X' E u → wH D cs b G u s H1 locs1 → H1[q9]? = some ce → ce.vm = .none → s.vm.findClass E = some ce.cls → vx_W p l e R s m args below meth c H1 locs1 (0 + 1) (0 + 6) Q (F0 m pc ls rest) q9) :
    W p l e R s m args below meth c H locs 0 0 Q (F0 m pc ls st0) :=
  vx_calli hr hH.2 (fun q _ h => h) (fun q h => h) (fun q _ h => h) (fun E ce q9 u t H1 locs1 ht _ _ hB _ _ hS hce hcv hcl => kk E u H1 locs1 q9 ce hB.1 ⟨by rw [← ht]; exact hB.2, hS⟩ hce hcv hcl) (fun r u t H1 locs1 _ _ hp => hp.elim)
theorem w_rSW (hX : CallFix p m c cc nL s args lw_all own) (hK : va_K D vwCl (wTys cs) s) (hE : wEn ad b s s.heap) (hN : wNc s) (hH : wH D cs b G I s H locs) (hM : Met l y (wsL_ y bytes maxL hh) rm (va_Pc As (wPrL D cs ad b G I)) Qc mc ms (fun q => b ≤ q))
    (q1 : Cond.methodLink own ix y ∈ lw_all) (q2 : Cond.static y ∈ lw_all) (q4 : Cond.initialized y.cls ∈ lw_all) (q5 : Cond.codeWith y bytes maxL (some .int) hh ∈ lw_all)
    (hd : y.cls ≠ "java/lang/invoke/MethodHandle" ∧ y.cls ≠ "java/lang/invoke/VarHandle" ∧ (parseMethodDescriptor y.desc).map (fun d => d.parameters.length) = some n) (hR : rm.frames + 1 ≤ R.frames ∧ 8 + (maxL + 11) + rm.locals ≤ R.locals) (hrm : rm.cells = mc ∧ rm.slots = ms) (hn : As.length = n) (hls : ls.size = nL) (hst0 : st0 = As.reverse ++ rest) (hst : (rest.map fun v => v.category).sum ≤ 8) (hdg : decode cc pc = .ok (.invokestatic ix, 3)) (hf : cells + mc ≤ R.cells ∧ slots + ms ≤ R.slots) :
    va_Run p l e R s m args below meth c H locs cells slots mc ms (F0 m pc ls st0) rest (Qc As.toArray) (fun q => b ≤ q) :=
  vx_runSW (As := As) (rest := rest) hX hM (vx_cwSW n hX.2.2.2.2 (fun w hw => by
    rcases List.mem_append.mp hw with h | h
    · have : w = .methodLink own ix y ∨ w = .static y ∨ w = .initialized y.cls := by simpa using h
      rcases this with rfl | rfl | rfl
      · exact ⟨q1, lw_G q1⟩
      · exact ⟨q2, lw_G q2⟩
      · exact ⟨q4, lw_G q4⟩
    · exact wsL_good q5 w h) rfl hrm.1 hrm.2 hd hR) ⟨wPrL_blind, fun U hU hW => ⟨rfl, (wPr_of (av := As) hK hE hH U hU hW).2, hN.moved hW.alike⟩⟩ rfl hn hls hst0 (lv_room hst) hdg hf
theorem w_cIL {post : Int32 → wI × wG → Prop} (hH : wH D cs b G I s H locs) (hr : va_Run p l e R s m args below meth c H locs cells slots mc ms (F0 m pc ls st0) rest (va_Qi post (fun u t => wPo D cs b u.2 u.1 t) (fun q => b ≤ q) a) (fun q => b ≤ q))
    (kk : ∀ (r : Int32) (I' : wI) (G' : wG) (H : Heap) (locs : List Loc), post r (I', G') → wH D cs b G' I' s H locs → W p l e R s m args below meth c H locs (cells + mc) (slots + ms) Q (F0 m (pc + 3) ls (.int r :: rest))) : W p l e R s m args below meth c H locs cells slots Q (F0 m pc ls st0) :=
  va_calli hr hH.2 (fun q _ h => h) (fun q h => h) (fun r u t H1 locs1 ht _ hp hB _ _ hS => kk r u.1 u.2 H1 locs1 hp ⟨by rw [← ht]; exact hB, hS⟩)
end WL
