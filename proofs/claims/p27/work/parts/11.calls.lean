/-! ===== a method's entry, its ends, its calls: over the world ===== -/
def ws_ (y : MethodName) (cc : ByteArray) (n : Nat) (ret : Option FieldType) : List Cond := .code y cc n ret :: lw_all
theorem ws_ts {y : MethodName} {cc : ByteArray} {n : Nat} {ret : Option FieldType} {args : Array Value} {s : State} (h : ∀ w ∈ ws_ y cc n ret, w.before args s = true) : ∀ w ∈ lw_all, w.before args s = true := fun w hw => h w (List.mem_cons_of_mem _ hw)
theorem lw_G {w : Cond} (h : w ∈ lw_all) : (w.onTables && w.keeps) = true ∨ ∃ ty, w = .arrayClass ty := good_of_word (lw_all_good h)
theorem ws_good {y : MethodName} {cc : ByteArray} {n : Nat} {ret : Option FieldType} (h : Cond.code y cc n ret ∈ lw_all) : GoodIn lw_all (ws_ y cc n ret) := fun w hw => (List.mem_cons.mp hw).elim (fun e => by rw [e]; exact ⟨h, lw_G h⟩) (fun e => ⟨e, lw_G e⟩)
section WCALLS
variable {p : Program} {l : Launch} {e : Env} {R : Room} {s : State} {m : MethodId} {args : Array Value} {below : List Frame} {meth : Method} {c : Code} {H : Heap} {locs : List Loc} {cells slots : Nat} {Q : State → Prop}
variable {cc bytes : ByteArray} {nL pc : Nat} {ls : Array Slot} {rest st0 : List Value} {own : String} {D : va_G} {cs : wC4} {ad : Nat → Nat} {b : Nat} {G : wG} {I I' : wI}
variable {ci : Nat} {C : String} {T : u_T} {N : Nat} {ty : Nat → FieldType} {k : Nat} {ix : Nat}
variable {y : MethodName} {maxL n mc ms : Nat} {ret : Option FieldType} {rm : Room} {av As : List Value} {Qc : Array Value → State → Outcome → State → Prop} {a : Array Value}
theorem w_met (hy : plainName y.cls = true) (hlen : (lg_sl av).length ≤ nL)
    (body : ∀ (p : Program) (e : Env) (s : State) (m : MethodId) (below : List Frame) (meth : Method) (c : Code), CallFix p m c cc nL s av.toArray lw_all y.cls → meth.sig.returnType = ret → meth.locks = false → va_K D vwCl (wTys cs) s → wEn ad b s s.heap → wH D cs b G I s s.heap [] →
      ∀ ls : Array Slot, lv_has ls nL (lv_args 0 av) → W p l e rm s m av.toArray below meth c s.heap [] 0 0 (MQ below Qc av.toArray s mc ms (fun q => b ≤ q)) (F0 m 0 ls [])) :
    Met l y (ws_ y cc nL ret) rm (va_Pc av (wPr D cs ad b G I)) Qc mc ms (fun q => b ≤ q) := by
  refine Met.ofW (cc := cc) (maxL := nL) (ret := ret) hy rfl ?_
  intro p e s m args below meth c s₁ B hml hv
  obtain ⟨rfl, hK, hE, hP, hO⟩ := hv
  have hl := lv_entry av (n := nL) hlen
  rw [lg_entry_eq]
  exact body p e s m below meth c ⟨B.exec, B.bytes, hml, findClass_of_methodNamed B.named, ws_ts (atoms_spec (ws := ws_ y cc nL ret) B.pre)⟩ B.returns B.notSynchronized hK hE ⟨hP, va_S.rf, hO⟩ _ hl
theorem w_metF (hy : plainFor y = true) (hlen : (lg_sl av).length ≤ nL)
    (body : ∀ (p : Program) (e : Env) (s : State) (m : MethodId) (below : List Frame) (meth : Method) (c : Code), CallFix p m c cc nL s av.toArray lw_all y.cls → meth.sig.returnType = ret → meth.locks = false → va_K D vwCl (wTys cs) s → wEn ad b s s.heap → wH D cs b G I s s.heap [] →
      ∀ ls : Array Slot, lv_has ls nL (lv_args 0 av) → W p l e rm s m av.toArray below meth c s.heap [] 0 0 (MQ below Qc av.toArray s mc ms (fun q => b ≤ q)) (F0 m 0 ls [])) :
    Met l y (ws_ y cc nL ret) rm (va_Pc av (wPr D cs ad b G I)) Qc mc ms (fun q => b ≤ q) := by
  refine va_MetF (cc := cc) (maxL := nL) (ret := ret) hy rfl ?_
  intro p e s m args below meth c s₁ B hml hv
  obtain ⟨rfl, hK, hE, hP, hO⟩ := hv
  have hl := lv_entry av (n := nL) hlen
  rw [lg_entry_eq]
  exact body p e s m below meth c ⟨B.exec, B.bytes, hml, findClass_of_methodNamed B.named, ws_ts (atoms_spec (ws := ws_ y cc nL ret) B.pre)⟩ B.returns B.notSynchronized hK hE ⟨hP, va_S.rf, hO⟩ _ hl
theorem w_eI {v : Int32} {post : Int32 → wI → Prop} (hX : CallFix p m c cc nL s args lw_all own) (hr : meth.sig.returnType = some .int) (hlk : meth.locks = false) (hH : wH D cs b G I' s H locs) (hp : post v I') (hdg : decode cc pc = .ok (.ireturn, 1)) :
    W p l e R s m args below meth c H locs cells slots (MQ below (va_Qi post (wPo D cs b G) (fun q => b ≤ q)) args s cells slots (fun q => b ≤ q)) (F0 m pc ls [.int v]) :=
  W.iret hX.1 hX.2.1 hr (fun t ht hW => ⟨⟨v, I', rfl, hp, by unfold wPo; rw [ht]; exact hH.1⟩, hH.2.1.F ht⟩) hH.2.1.2.2 hdg hlk
theorem w_eZ {v : Int32} {post : Int32 → wI → Prop} (h01 : v = 0 ∨ v = 1) (hX : CallFix p m c cc nL s args lw_all own) (hr : meth.sig.returnType = some .boolean) (hlk : meth.locks = false) (hH : wH D cs b G I' s H locs) (hp : post v I') (hdg : decode cc pc = .ok (.ireturn, 1)) :
    W p l e R s m args below meth c H locs cells slots (MQ below (va_Qi post (wPo D cs b G) (fun q => b ≤ q)) args s cells slots (fun q => b ≤ q)) (F0 m pc ls [.int v]) :=
  W.zret hX.1 hX.2.1 hr (w_nar01 h01).1 (fun t ht hW => ⟨⟨v, I', rfl, hp, by unfold wPo; rw [ht]; exact hH.1⟩, hH.2.1.F ht⟩) hH.2.1.2.2 hdg hlk
theorem w_eC {v : Int32} {post : Int32 → wI → Prop} (hnar : narrow .char (.int v) = .int v) (hX : CallFix p m c cc nL s args lw_all own) (hr : meth.sig.returnType = some .char) (hlk : meth.locks = false) (hH : wH D cs b G I' s H locs) (hp : post v I') (hdg : decode cc pc = .ok (.ireturn, 1)) :
    W p l e R s m args below meth c H locs cells slots (MQ below (va_Qi post (wPo D cs b G) (fun q => b ≤ q)) args s cells slots (fun q => b ≤ q)) (F0 m pc ls [.int v]) :=
  W.zret hX.1 hX.2.1 hr hnar (fun t ht hW => ⟨⟨v, I', rfl, hp, by unfold wPo; rw [ht]; exact hH.1⟩, hH.2.1.F ht⟩) hH.2.1.2.2 hdg hlk
theorem w_eL {v : Int64} {post : Int64 → wI → Prop} (hX : CallFix p m c cc nL s args lw_all own) (hr : meth.sig.returnType = some .long) (hlk : meth.locks = false) (hH : wH D cs b G I' s H locs) (hp : post v I') (hdg : decode cc pc = .ok (.lreturn, 1)) :
    W p l e R s m args below meth c H locs cells slots (MQ below (va_Ql post (wPo D cs b G) (fun q => b ≤ q)) args s cells slots (fun q => b ≤ q)) (F0 m pc ls [.long v]) :=
  W.lret hX.1 hX.2.1 hr (fun t ht hW => ⟨⟨v, I', rfl, hp, by unfold wPo; rw [ht]; exact hH.1⟩, hH.2.1.F ht⟩) hH.2.1.2.2 hdg hlk
theorem w_eF {v : UInt32} {post : UInt32 → wI → Prop} (hX : CallFix p m c cc nL s args lw_all own) (hr : meth.sig.returnType = some .float) (hlk : meth.locks = false) (hH : wH D cs b G I' s H locs) (hp : post v I') (hdg : decode cc pc = .ok (.freturn, 1)) :
    W p l e R s m args below meth c H locs cells slots (MQ below (va_Qf post (wPo D cs b G) (fun q => b ≤ q)) args s cells slots (fun q => b ≤ q)) (F0 m pc ls [.float v]) :=
  W.fret hX.1 hX.2.1 hr (fun t ht hW => ⟨⟨v, I', rfl, hp, by unfold wPo; rw [ht]; exact hH.1⟩, hH.2.1.F ht⟩) hH.2.1.2.2 hdg hlk
theorem w_eD {v : UInt64} {post : UInt64 → wI → Prop} (hX : CallFix p m c cc nL s args lw_all own) (hr : meth.sig.returnType = some .double) (hlk : meth.locks = false) (hH : wH D cs b G I' s H locs) (hp : post v I') (hdg : decode cc pc = .ok (.dreturn, 1)) :
    W p l e R s m args below meth c H locs cells slots (MQ below (va_Qd post (wPo D cs b G) (fun q => b ≤ q)) args s cells slots (fun q => b ≤ q)) (F0 m pc ls [.double v]) :=
  W.dret hX.1 hX.2.1 hr (fun t ht hW => ⟨⟨v, I', rfl, hp, by unfold wPo; rw [ht]; exact hH.1⟩, hH.2.1.F ht⟩) hH.2.1.2.2 hdg hlk
theorem w_eV {post : wI → Prop} (hX : CallFix p m c cc nL s args lw_all own) (hr : meth.sig.returnType = none) (hlk : meth.locks = false) (hH : wH D cs b G I' s H locs) (hp : post I') (hdg : decode cc pc = .ok (.return_, 1)) :
    W p l e R s m args below meth c H locs cells slots (MQ below (va_Qv post (wPo D cs b G) (fun q => b ≤ q)) args s cells slots (fun q => b ≤ q)) (F0 m pc ls []) :=
  W.vret hX.1 hX.2.1 hr (fun t ht hW => ⟨⟨I', rfl, hp, by unfold wPo; rw [ht]; exact hH.1⟩, hH.2.1.F ht⟩) hH.2.1.2.2 hdg hlk
/-- the callee's receiver and start -/
theorem w_preV (hK : va_K D vwCl (wTys cs) s) (hE : wEn ad b s s.heap) (hH : wH D cs b G I s H locs) (hc : wCk ci C T N ty) (hs : wSh k = (0, ci)) : PreV s H C (G.1 k) (va_Pc (.ref (G.1 k) :: As) (wPr D cs ad b G I)) As :=
  ⟨wPr_blind, va_recv hK hH.1 hc.1 (wL_obj hH.2.2.1 hs), wPr_of hK hE hH⟩
theorem w_preS (hK : va_K D vwCl (wTys cs) s) (hE : wEn ad b s s.heap) (hH : wH D cs b G I s H locs) : PreS s H (va_Pc As (wPr D cs ad b G I)) As := ⟨wPr_blind, wPr_of hK hE hH⟩
theorem w_rV (hX : CallFix p m c cc nL s args lw_all own) (hK : va_K D vwCl (wTys cs) s) (hE : wEn ad b s s.heap) (hH : wH D cs b G I s H locs) (hM : Met l y (ws_ y bytes maxL ret) rm (va_Pc (.ref (G.1 k) :: As) (wPr D cs ad b G I)) Qc mc ms (fun q => b ≤ q)) (hc : wCk ci C T N ty) (hs : wSh k = (0, ci))
    (q1 : Cond.methodLink own ix y ∈ lw_all) (q2 : Cond.instanceMethod y ∈ lw_all) (q3 : Cond.selects C y y ∈ lw_all) (q4 : Cond.initialized C ∈ lw_all) (q5 : Cond.code y bytes maxL ret ∈ lw_all)
    (hd : y.cls = C ∧ y.cls ≠ "java/lang/invoke/MethodHandle" ∧ y.cls ≠ "java/lang/invoke/VarHandle" ∧ (parseMethodDescriptor y.desc).map (fun d => d.parameters.length) = some n) (hR : rm.frames + 1 ≤ R.frames ∧ 8 + (maxL + 11) + rm.locals ≤ R.locals) (hrm : rm.cells = mc ∧ rm.slots = ms) (hn : As.length = n) (hls : ls.size = nL) (hst0 : st0 = As.reverse ++ .ref (G.1 k) :: rest) (hst : (rest.map fun v => v.category).sum ≤ 8) (hdg : decode cc pc = .ok (.invokevirtual ix, 3)) (hf : cells + mc ≤ R.cells ∧ slots + ms ≤ R.slots) :
    va_Run p l e R s m args below meth c H locs cells slots mc ms (F0 m pc ls st0) rest (Qc (Value.ref (G.1 k) :: As).toArray) (fun q => b ≤ q) :=
  va_runV (As := As) (rest := rest) hX hM (cwV n hX.2.2.2.2 (fun w hw => by
    rcases List.mem_append.mp hw with h | h
    · have : w = .methodLink own ix y ∨ w = .instanceMethod y ∨ w = .selects C y y ∨ w = .initialized C := by simpa using h
      rcases this with rfl | rfl | rfl | rfl
      · exact ⟨q1, lw_G q1⟩
      · exact ⟨q2, lw_G q2⟩
      · exact ⟨q3, lw_G q3⟩
      · exact ⟨q4, lw_G q4⟩
    · exact ws_good q5 w h) rfl hrm.1 hrm.2 hd hR) (w_preV hK hE hH hc hs) rfl hn hls hst0 (lv_room hst) hdg hf
theorem w_rS (hX : CallFix p m c cc nL s args lw_all own) (hK : va_K D vwCl (wTys cs) s) (hE : wEn ad b s s.heap) (hH : wH D cs b G I s H locs) (hM : Met l y (ws_ y bytes maxL ret) rm (va_Pc As (wPr D cs ad b G I)) Qc mc ms (fun q => b ≤ q))
    (q1 : Cond.methodLink own ix y ∈ lw_all) (q2 : Cond.static y ∈ lw_all) (q4 : Cond.initialized y.cls ∈ lw_all) (q5 : Cond.code y bytes maxL ret ∈ lw_all)
    (hd : y.cls ≠ "java/lang/invoke/MethodHandle" ∧ y.cls ≠ "java/lang/invoke/VarHandle" ∧ (parseMethodDescriptor y.desc).map (fun d => d.parameters.length) = some n) (hR : rm.frames + 1 ≤ R.frames ∧ 8 + (maxL + 11) + rm.locals ≤ R.locals) (hrm : rm.cells = mc ∧ rm.slots = ms) (hn : As.length = n) (hls : ls.size = nL) (hst0 : st0 = As.reverse ++ rest) (hst : (rest.map fun v => v.category).sum ≤ 8) (hdg : decode cc pc = .ok (.invokestatic ix, 3)) (hf : cells + mc ≤ R.cells ∧ slots + ms ≤ R.slots) :
    va_Run p l e R s m args below meth c H locs cells slots mc ms (F0 m pc ls st0) rest (Qc As.toArray) (fun q => b ≤ q) :=
  va_runS (As := As) (rest := rest) hX hM ⟨callB_of n hX.2.2.2.2 (ws_good q5) rfl hrm.1 hrm.2 (hX.2.2.2.2 _ q4) (hX.2.2.2.2 _ q1) hd hR, hX.2.2.2.2 _ q2⟩ (w_preS hK hE hH) rfl hn hls hst0 (lv_room hst) hdg hf
theorem w_rSN {host : String} (hX : CallFix p m c cc nL s args lw_all own) (hK : va_K D vwCl (wTys cs) s) (hE : wEn ad b s s.heap) (hH : wH D cs b G I s H locs) (hM : Met l y (ws_ y bytes maxL ret) rm (va_Pc As (wPr D cs ad b G I)) Qc mc ms (fun q => b ≤ q))
    (q1 : Cond.methodLinkNest own ix y host ∈ lw_nw) (q2 : Cond.static y ∈ lw_all) (q4 : Cond.initialized y.cls ∈ lw_all) (q5 : Cond.code y bytes maxL ret ∈ lw_all)
    (hd : y.cls ≠ "java/lang/invoke/MethodHandle" ∧ y.cls ≠ "java/lang/invoke/VarHandle" ∧ (parseMethodDescriptor y.desc).map (fun d => d.parameters.length) = some n) (hR : rm.frames + 1 ≤ R.frames ∧ 8 + (maxL + 11) + rm.locals ≤ R.locals) (hrm : rm.cells = mc ∧ rm.slots = ms) (hn : As.length = n) (hls : ls.size = nL) (hst0 : st0 = As.reverse ++ rest) (hst : (rest.map fun v => v.category).sum ≤ 8) (hdg : decode cc pc = .ok (.invokestatic ix, 3)) (hf : cells + mc ≤ R.cells ∧ slots + ms ≤ R.slots) :
    va_Run p l e R s m args below meth c H locs cells slots mc ms (F0 m pc ls st0) rest (Qc As.toArray) (fun q => b ≤ q) :=
  va_runSN (As := As) (rest := rest) hX hM ⟨va_cnB n hX.2.2.2.2 (ws_good q5) rfl hrm.1 hrm.2 (hE.1 _ q1) (hX.2.2.2.2 _ q4) hd hR, hX.2.2.2.2 _ q2, trivial⟩ (w_preS hK hE hH) rfl hn hls hst0 (lv_room hst) hdg hf
theorem w_cI {post : Int32 → wI → Prop} (hH : wH D cs b G I s H locs) (hr : va_Run p l e R s m args below meth c H locs cells slots 0 0 (F0 m pc ls st0) rest (va_Qi post (wPo D cs b G) (fun q => b ≤ q) a) (fun q => b ≤ q))
    (kk : ∀ (r : Int32) (I' : wI) (H : Heap) (locs : List Loc), post r I' → wH D cs b G I' s H locs → W p l e R s m args below meth c H locs cells slots Q (F0 m (pc + 3) ls (.int r :: rest))) : W p l e R s m args below meth c H locs cells slots Q (F0 m pc ls st0) :=
  va_calli hr hH.2.1 (fun q _ h => h) (fun q h => h) (fun r u t H1 locs1 ht _ hp hB _ _ hS => kk r u H1 locs1 hp ⟨by rw [← ht]; exact hB, hS, hH.2.2⟩)
theorem w_cL {post : Int64 → wI → Prop} (hH : wH D cs b G I s H locs) (hr : va_Run p l e R s m args below meth c H locs cells slots 0 0 (F0 m pc ls st0) rest (va_Ql post (wPo D cs b G) (fun q => b ≤ q) a) (fun q => b ≤ q))
    (kk : ∀ (r : Int64) (I' : wI) (H : Heap) (locs : List Loc), post r I' → wH D cs b G I' s H locs → W p l e R s m args below meth c H locs cells slots Q (F0 m (pc + 3) ls (.long r :: rest))) : W p l e R s m args below meth c H locs cells slots Q (F0 m pc ls st0) :=
  va_calll hr hH.2.1 (fun q _ h => h) (fun q h => h) (fun r u t H1 locs1 ht _ hp hB _ _ hS => kk r u H1 locs1 hp ⟨by rw [← ht]; exact hB, hS, hH.2.2⟩)
theorem w_cF {post : UInt32 → wI → Prop} (hH : wH D cs b G I s H locs) (hr : va_Run p l e R s m args below meth c H locs cells slots 0 0 (F0 m pc ls st0) rest (va_Qf post (wPo D cs b G) (fun q => b ≤ q) a) (fun q => b ≤ q))
    (kk : ∀ (r : UInt32) (I' : wI) (H : Heap) (locs : List Loc), post r I' → wH D cs b G I' s H locs → W p l e R s m args below meth c H locs cells slots Q (F0 m (pc + 3) ls (.float r :: rest))) : W p l e R s m args below meth c H locs cells slots Q (F0 m pc ls st0) :=
  va_callf hr hH.2.1 (fun q _ h => h) (fun q h => h) (fun r u t H1 locs1 ht _ hp hB _ _ hS => kk r u H1 locs1 hp ⟨by rw [← ht]; exact hB, hS, hH.2.2⟩)
theorem w_cD {post : UInt64 → wI → Prop} (hH : wH D cs b G I s H locs) (hr : va_Run p l e R s m args below meth c H locs cells slots 0 0 (F0 m pc ls st0) rest (va_Qd post (wPo D cs b G) (fun q => b ≤ q) a) (fun q => b ≤ q))
    (kk : ∀ (r : UInt64) (I' : wI) (H : Heap) (locs : List Loc), post r I' → wH D cs b G I' s H locs → W p l e R s m args below meth c H locs cells slots Q (F0 m (pc + 3) ls (.double r :: rest))) : W p l e R s m args below meth c H locs cells slots Q (F0 m pc ls st0) :=
  va_calld hr hH.2.1 (fun q _ h => h) (fun q h => h) (fun r u t H1 locs1 ht _ hp hB _ _ hS => kk r u H1 locs1 hp ⟨by rw [← ht]; exact hB, hS, hH.2.2⟩)
theorem w_cV {post : wI → Prop} (hH : wH D cs b G I s H locs) (hr : va_Run p l e R s m args below meth c H locs cells slots 0 0 (F0 m pc ls st0) rest (va_Qv post (wPo D cs b G) (fun q => b ≤ q) a) (fun q => b ≤ q))
    (kk : ∀ (I' : wI) (H : Heap) (locs : List Loc), post I' → wH D cs b G I' s H locs → W p l e R s m args below meth c H locs cells slots Q (F0 m (pc + 3) ls rest)) : W p l e R s m args below meth c H locs cells slots Q (F0 m pc ls st0) :=
  va_callv hr hH.2.1 (fun q _ h => h) (fun q h => h) (fun u t H1 locs1 ht _ hp hB _ _ hS => kk u H1 locs1 hp ⟨by rw [← ht]; exact hB, hS, hH.2.2⟩)
theorem w_cIp {post : Int32 → Prop} (hH : wH D cs b G I s H locs) (hr : va_Run p l e R s m args below meth c H locs cells slots 0 0 (F0 m pc ls st0) rest (va_Qi (fun r I' => I' = I ∧ post r) (wPo D cs b G) (fun q => b ≤ q) a) (fun q => b ≤ q))
    (kk : ∀ (r : Int32) (H : Heap) (locs : List Loc), post r → wH D cs b G I s H locs → W p l e R s m args below meth c H locs cells slots Q (F0 m (pc + 3) ls (.int r :: rest))) : W p l e R s m args below meth c H locs cells slots Q (F0 m pc ls st0) :=
  w_cI hH hr (fun r I' H locs hp hH => kk r H locs hp.2 (by rw [← hp.1]; exact hH))
theorem w_cLp {post : Int64 → Prop} (hH : wH D cs b G I s H locs) (hr : va_Run p l e R s m args below meth c H locs cells slots 0 0 (F0 m pc ls st0) rest (va_Ql (fun r I' => I' = I ∧ post r) (wPo D cs b G) (fun q => b ≤ q) a) (fun q => b ≤ q))
    (kk : ∀ (r : Int64) (H : Heap) (locs : List Loc), post r → wH D cs b G I s H locs → W p l e R s m args below meth c H locs cells slots Q (F0 m (pc + 3) ls (.long r :: rest))) : W p l e R s m args below meth c H locs cells slots Q (F0 m pc ls st0) :=
  w_cL hH hr (fun r I' H locs hp hH => kk r H locs hp.2 (by rw [← hp.1]; exact hH))
theorem w_cFp {post : UInt32 → Prop} (hH : wH D cs b G I s H locs) (hr : va_Run p l e R s m args below meth c H locs cells slots 0 0 (F0 m pc ls st0) rest (va_Qf (fun r I' => I' = I ∧ post r) (wPo D cs b G) (fun q => b ≤ q) a) (fun q => b ≤ q))
    (kk : ∀ (r : UInt32) (H : Heap) (locs : List Loc), post r → wH D cs b G I s H locs → W p l e R s m args below meth c H locs cells slots Q (F0 m (pc + 3) ls (.float r :: rest))) : W p l e R s m args below meth c H locs cells slots Q (F0 m pc ls st0) :=
  w_cF hH hr (fun r I' H locs hp hH => kk r H locs hp.2 (by rw [← hp.1]; exact hH))
theorem w_cDp {post : UInt64 → Prop} (hH : wH D cs b G I s H locs) (hr : va_Run p l e R s m args below meth c H locs cells slots 0 0 (F0 m pc ls st0) rest (va_Qd (fun r I' => I' = I ∧ post r) (wPo D cs b G) (fun q => b ≤ q) a) (fun q => b ≤ q))
    (kk : ∀ (r : UInt64) (H : Heap) (locs : List Loc), post r → wH D cs b G I s H locs → W p l e R s m args below meth c H locs cells slots Q (F0 m (pc + 3) ls (.double r :: rest))) : W p l e R s m args below meth c H locs cells slots Q (F0 m pc ls st0) :=
  w_cD hH hr (fun r I' H locs hp hH => kk r H locs hp.2 (by rw [← hp.1]; exact hH))
theorem w_cVp {post : Prop} (hH : wH D cs b G I s H locs) (hr : va_Run p l e R s m args below meth c H locs cells slots 0 0 (F0 m pc ls st0) rest (va_Qv (fun I' => I' = I ∧ post) (wPo D cs b G) (fun q => b ≤ q) a) (fun q => b ≤ q))
    (kk : ∀ (H : Heap) (locs : List Loc), post → wH D cs b G I s H locs → W p l e R s m args below meth c H locs cells slots Q (F0 m (pc + 3) ls rest)) : W p l e R s m args below meth c H locs cells slots Q (F0 m pc ls st0) :=
  w_cV hH hr (fun I' H locs hp hH => kk H locs hp.2 (by rw [← hp.1]; exact hH))
end WCALLS
/-! ===== the shapes behind the fields ===== -/
theorem w_all {P : Nat → Prop} (h : ∀ k, k < 117 → P k) {k : Nat} {x : Nat × Nat} (hs : wSh k = x) (hx : x.1 < 9) : P k := h k (wSh_lt0 hs hx)
theorem sh0 : wSh 0 = (0, 5) := rfl
theorem la111 {G : wG} (h : 115 ≤ G.2) : wSh 111 = (5, 12) ∧ 111 < G.2 := ⟨rfl, by omega⟩
theorem la112 {G : wG} (h : 115 ≤ G.2) : wSh 112 = (5, 15) ∧ 112 < G.2 := ⟨rfl, by omega⟩
theorem la113 {G : wG} (h : 115 ≤ G.2) : wSh 113 = (5, 4) ∧ 113 < G.2 := ⟨rfl, by omega⟩
theorem la114 {G : wG} (h : 115 ≤ G.2) : wSh 114 = (5, 12) ∧ 114 < G.2 := ⟨rfl, by omega⟩
theorem la115 {G : wG} (h : 116 ≤ G.2) : wSh 115 = (5, 12) ∧ 115 < G.2 := ⟨rfl, by omega⟩
theorem la116 {G : wG} (h : 117 ≤ G.2) : wSh 116 = (5, 12) ∧ 116 < G.2 := ⟨rfl, by omega⟩
theorem wSv_lt : ∀ t, t < 6 → wSh (45 + 11 * t) = (0, 3) := by decide +kernel
theorem wSv_sh {x : Int32} (h : x.toNatClampNeg < 6) : wSh (wSv x) = (0, 3) := wSv_lt _ h
/-- a switch's other numbers -/
theorem w_toInt_ne {x : Int32} {n : Int32} (h : ¬ x = n) : x.toInt ≠ n.toInt := fun e => h (Int32.toInt_inj.mp e)
theorem sf0_0 {k : Nat} (hs : wSh k = (0, 0)) : wSh (k + 1) = (1, 6) := w_all (P := fun k => wSh k = (0, 0) → wSh (k + 1) = (1, 6)) (by decide +kernel) hs (Nat.le_of_ble_eq_true rfl) hs
theorem sf0_1 {k : Nat} (hs : wSh k = (0, 0)) : wSh (k + 2) = (1, 6) := w_all (P := fun k => wSh k = (0, 0) → wSh (k + 2) = (1, 6)) (by decide +kernel) hs (Nat.le_of_ble_eq_true rfl) hs
theorem sf1_0 {k : Nat} (hs : wSh k = (0, 1)) : wSh (k + 1) = (1, 5) := w_all (P := fun k => wSh k = (0, 1) → wSh (k + 1) = (1, 5)) (by decide +kernel) hs (Nat.le_of_ble_eq_true rfl) hs
theorem sf1_1 {k : Nat} (hs : wSh k = (0, 1)) : wSh (k + 2) = (1, 5) := w_all (P := fun k => wSh k = (0, 1) → wSh (k + 2) = (1, 5)) (by decide +kernel) hs (Nat.le_of_ble_eq_true rfl) hs
theorem sf2_0 {k : Nat} (hs : wSh k = (0, 2)) : wSh (k + 1) = (1, 111) := w_all (P := fun k => wSh k = (0, 2) → wSh (k + 1) = (1, 111)) (by decide +kernel) hs (Nat.le_of_ble_eq_true rfl) hs
theorem sf2_1 {k : Nat} (hs : wSh k = (0, 2)) : wSh (k + 2) = (1, 111) := w_all (P := fun k => wSh k = (0, 2) → wSh (k + 2) = (1, 111)) (by decide +kernel) hs (Nat.le_of_ble_eq_true rfl) hs
theorem sf2_3 {k : Nat} (hs : wSh k = (0, 2)) : wSh (k + 3) = (0, 0) := w_all (P := fun k => wSh k = (0, 2) → wSh (k + 3) = (0, 0)) (by decide +kernel) hs (Nat.le_of_ble_eq_true rfl) hs
theorem sf2_4 {k : Nat} (hs : wSh k = (0, 2)) : wSh (k + 6) = (0, 0) := w_all (P := fun k => wSh k = (0, 2) → wSh (k + 6) = (0, 0)) (by decide +kernel) hs (Nat.le_of_ble_eq_true rfl) hs
theorem sf3_0 {k : Nat} (hs : wSh k = (0, 3)) : wSh (k + 1) = (0, 0) := w_all (P := fun k => wSh k = (0, 3) → wSh (k + 1) = (0, 0)) (by decide +kernel) hs (Nat.le_of_ble_eq_true rfl) hs
theorem sf3_1 {k : Nat} (hs : wSh k = (0, 3)) : wSh (k + 4) = (0, 1) := w_all (P := fun k => wSh k = (0, 3) → wSh (k + 4) = (0, 1)) (by decide +kernel) hs (Nat.le_of_ble_eq_true rfl) hs
theorem sf3_2 {k : Nat} (hs : wSh k = (0, 3)) : wSh (k + 7) = (0, 0) := w_all (P := fun k => wSh k = (0, 3) → wSh (k + 7) = (0, 0)) (by decide +kernel) hs (Nat.le_of_ble_eq_true rfl) hs
theorem sf3_5 {k : Nat} (hs : wSh k = (0, 3)) : wSh (k + 10) = (1, 5) := w_all (P := fun k => wSh k = (0, 3) → wSh (k + 10) = (1, 5)) (by decide +kernel) hs (Nat.le_of_ble_eq_true rfl) hs
theorem sf4_0 {k : Nat} (hs : wSh k = (0, 4)) : wSh (k + 1) = (2, 60) := w_all (P := fun k => wSh k = (0, 4) → wSh (k + 1) = (2, 60)) (by decide +kernel) hs (Nat.le_of_ble_eq_true rfl) hs
theorem sf4_2 {k : Nat} (hs : wSh k = (0, 4)) : wSh (k + 2) = (1, 500) := w_all (P := fun k => wSh k = (0, 4) → wSh (k + 2) = (1, 500)) (by decide +kernel) hs (Nat.le_of_ble_eq_true rfl) hs
theorem sf4_5 {k : Nat} (hs : wSh k = (0, 4)) : wSh (k + 3) = (1, 4) := w_all (P := fun k => wSh k = (0, 4) → wSh (k + 3) = (1, 4)) (by decide +kernel) hs (Nat.le_of_ble_eq_true rfl) hs
theorem sf4_6 {k : Nat} (hs : wSh k = (0, 4)) : wSh (k + 4) = (1, 4) := w_all (P := fun k => wSh k = (0, 4) → wSh (k + 4) = (1, 4)) (by decide +kernel) hs (Nat.le_of_ble_eq_true rfl) hs
theorem sf4_7 {k : Nat} (hs : wSh k = (0, 4)) : wSh (k + 5) = (1, 4) := w_all (P := fun k => wSh k = (0, 4) → wSh (k + 5) = (1, 4)) (by decide +kernel) hs (Nat.le_of_ble_eq_true rfl) hs
theorem sf5_0 {k : Nat} (hs : wSh k = (0, 5)) : wSh (k + 1) = (0, 3) := w_all (P := fun k => wSh k = (0, 5) → wSh (k + 1) = (0, 3)) (by decide +kernel) hs (Nat.le_of_ble_eq_true rfl) hs
theorem sf5_1 {k : Nat} (hs : wSh k = (0, 5)) : wSh (k + 12) = (0, 3) := w_all (P := fun k => wSh k = (0, 5) → wSh (k + 12) = (0, 3)) (by decide +kernel) hs (Nat.le_of_ble_eq_true rfl) hs
theorem sf5_3 {k : Nat} (hs : wSh k = (0, 5)) : wSh (k + 23) = (3, 6) := w_all (P := fun k => wSh k = (0, 5) → wSh (k + 23) = (3, 6)) (by decide +kernel) hs (Nat.le_of_ble_eq_true rfl) hs
theorem sf5_5 {k : Nat} (hs : wSh k = (0, 5)) : wSh (k + 24) = (0, 4) := w_all (P := fun k => wSh k = (0, 5) → wSh (k + 24) = (0, 4)) (by decide +kernel) hs (Nat.le_of_ble_eq_true rfl) hs
theorem sf5_6 {k : Nat} (hs : wSh k = (0, 5)) : wSh (k + 30) = (0, 0) := w_all (P := fun k => wSh k = (0, 5) → wSh (k + 30) = (0, 0)) (by decide +kernel) hs (Nat.le_of_ble_eq_true rfl) hs
theorem sf5_7 {k : Nat} (hs : wSh k = (0, 5)) : wSh (k + 33) = (0, 0) := w_all (P := fun k => wSh k = (0, 5) → wSh (k + 33) = (0, 0)) (by decide +kernel) hs (Nat.le_of_ble_eq_true rfl) hs
theorem sf5_8 {k : Nat} (hs : wSh k = (0, 5)) : wSh (k + 36) = (0, 2) := w_all (P := fun k => wSh k = (0, 5) → wSh (k + 36) = (0, 2)) (by decide +kernel) hs (Nat.le_of_ble_eq_true rfl) hs
theorem fr0_0 : 0 < wNf 0 ∧ wOff 0 0 = some 1 := by decide +kernel
theorem fr0_1 : 1 < wNf 0 ∧ wOff 0 1 = some 2 := by decide +kernel
theorem fr1_0 : 0 < wNf 1 ∧ wOff 1 0 = some 1 := by decide +kernel
theorem fr1_1 : 1 < wNf 1 ∧ wOff 1 1 = some 2 := by decide +kernel
theorem fr2_0 : 0 < wNf 2 ∧ wOff 2 0 = some 1 := by decide +kernel
theorem fr2_1 : 1 < wNf 2 ∧ wOff 2 1 = some 2 := by decide +kernel
theorem fi2_2 : 2 < wNf 2 ∧ wOff 2 2 = none := by decide +kernel
theorem fw2_2 : 2 < wNf 2 ∧ wOff 2 2 = none ∧ (TX2 2).2.2.2 = false ∧ tyX2 2 = .int := ⟨by decide +kernel, rfl, rfl, rfl⟩
theorem fr2_3 : 3 < wNf 2 ∧ wOff 2 3 = some 3 := by decide +kernel
theorem fr2_4 : 4 < wNf 2 ∧ wOff 2 4 = some 6 := by decide +kernel
theorem fi2_5 : 5 < wNf 2 ∧ wOff 2 5 = none := by decide +kernel
theorem fw2_5 : 5 < wNf 2 ∧ wOff 2 5 = none ∧ (TX2 5).2.2.2 = false ∧ tyX2 5 = .int := ⟨by decide +kernel, rfl, rfl, rfl⟩
theorem fi2_6 : 6 < wNf 2 ∧ wOff 2 6 = none := by decide +kernel
theorem fw2_6 : 6 < wNf 2 ∧ wOff 2 6 = none ∧ (TX2 6).2.2.2 = false ∧ tyX2 6 = .int := ⟨by decide +kernel, rfl, rfl, rfl⟩
theorem fr3_0 : 0 < wNf 3 ∧ wOff 3 0 = some 1 := by decide +kernel
theorem fr3_1 : 1 < wNf 3 ∧ wOff 3 1 = some 4 := by decide +kernel
theorem fr3_2 : 2 < wNf 3 ∧ wOff 3 2 = some 7 := by decide +kernel
theorem fi3_3 : 3 < wNf 3 ∧ wOff 3 3 = none := by decide +kernel
theorem fw3_3 : 3 < wNf 3 ∧ wOff 3 3 = none ∧ (TX3 3).2.2.2 = false ∧ tyX3 3 = .boolean := ⟨by decide +kernel, rfl, rfl, rfl⟩
theorem fi3_4 : 4 < wNf 3 ∧ wOff 3 4 = none := by decide +kernel
theorem fw3_4 : 4 < wNf 3 ∧ wOff 3 4 = none ∧ (TX3 4).2.2.2 = false ∧ tyX3 4 = .int := ⟨by decide +kernel, rfl, rfl, rfl⟩
theorem fr3_5 : 5 < wNf 3 ∧ wOff 3 5 = some 10 := by decide +kernel
theorem fi3_6 : 6 < wNf 3 ∧ wOff 3 6 = none := by decide +kernel
theorem fw3_6 : 6 < wNf 3 ∧ wOff 3 6 = none ∧ (TX3 6).2.2.2 = false ∧ tyX3 6 = .int := ⟨by decide +kernel, rfl, rfl, rfl⟩
theorem fi3_7 : 7 < wNf 3 ∧ wOff 3 7 = none := by decide +kernel
theorem fw3_7 : 7 < wNf 3 ∧ wOff 3 7 = none ∧ (TX3 7).2.2.2 = false ∧ tyX3 7 = .int := ⟨by decide +kernel, rfl, rfl, rfl⟩
theorem fi3_8 : 8 < wNf 3 ∧ wOff 3 8 = none := by decide +kernel
theorem fw3_8 : 8 < wNf 3 ∧ wOff 3 8 = none ∧ (TX3 8).2.2.2 = false ∧ tyX3 8 = .int := ⟨by decide +kernel, rfl, rfl, rfl⟩
theorem fr4_0 : 0 < wNf 4 ∧ wOff 4 0 = some 1 := by decide +kernel
theorem fi4_1 : 1 < wNf 4 ∧ wOff 4 1 = none := by decide +kernel
theorem fw4_1 : 1 < wNf 4 ∧ wOff 4 1 = none ∧ (TX4 1).2.2.2 = false ∧ tyX4 1 = .int := ⟨by decide +kernel, rfl, rfl, rfl⟩
theorem fr4_2 : 2 < wNf 4 ∧ wOff 4 2 = some 2 := by decide +kernel
theorem fi4_3 : 3 < wNf 4 ∧ wOff 4 3 = none := by decide +kernel
theorem fw4_3 : 3 < wNf 4 ∧ wOff 4 3 = none ∧ (TX4 3).2.2.2 = false ∧ tyX4 3 = .int := ⟨by decide +kernel, rfl, rfl, rfl⟩
theorem fi4_4 : 4 < wNf 4 ∧ wOff 4 4 = none := by decide +kernel
theorem fw4_4 : 4 < wNf 4 ∧ wOff 4 4 = none ∧ (TX4 4).2.2.2 = false ∧ tyX4 4 = .boolean := ⟨by decide +kernel, rfl, rfl, rfl⟩
theorem fr4_5 : 5 < wNf 4 ∧ wOff 4 5 = some 3 := by decide +kernel
theorem fr4_6 : 6 < wNf 4 ∧ wOff 4 6 = some 4 := by decide +kernel
theorem fr4_7 : 7 < wNf 4 ∧ wOff 4 7 = some 5 := by decide +kernel
theorem fi4_8 : 8 < wNf 4 ∧ wOff 4 8 = none := by decide +kernel
theorem fw4_8 : 8 < wNf 4 ∧ wOff 4 8 = none ∧ (TX4 8).2.2.2 = false ∧ tyX4 8 = .int := ⟨by decide +kernel, rfl, rfl, rfl⟩
theorem fi4_9 : 9 < wNf 4 ∧ wOff 4 9 = none := by decide +kernel
theorem fw4_9 : 9 < wNf 4 ∧ wOff 4 9 = none ∧ (TX4 9).2.2.2 = false ∧ tyX4 9 = .boolean := ⟨by decide +kernel, rfl, rfl, rfl⟩
theorem fi4_10 : 10 < wNf 4 ∧ wOff 4 10 = none := by decide +kernel
theorem fw4_10 : 10 < wNf 4 ∧ wOff 4 10 = none ∧ (TX4 10).2.2.2 = false ∧ tyX4 10 = .boolean := ⟨by decide +kernel, rfl, rfl, rfl⟩
theorem fr5_0 : 0 < wNf 5 ∧ wOff 5 0 = some 1 := by decide +kernel
theorem fr5_1 : 1 < wNf 5 ∧ wOff 5 1 = some 12 := by decide +kernel
theorem fi5_2 : 2 < wNf 5 ∧ wOff 5 2 = none := by decide +kernel
theorem fw5_2 : 2 < wNf 5 ∧ wOff 5 2 = none ∧ (TX5 2).2.2.2 = false ∧ tyX5 2 = .boolean := ⟨by decide +kernel, rfl, rfl, rfl⟩
theorem fr5_3 : 3 < wNf 5 ∧ wOff 5 3 = some 23 := by decide +kernel
theorem fi5_4 : 4 < wNf 5 ∧ wOff 5 4 = none := by decide +kernel
theorem fw5_4 : 4 < wNf 5 ∧ wOff 5 4 = none ∧ (TX5 4).2.2.2 = false ∧ tyX5 4 = .int := ⟨by decide +kernel, rfl, rfl, rfl⟩
theorem fr5_5 : 5 < wNf 5 ∧ wOff 5 5 = some 24 := by decide +kernel
theorem fr5_6 : 6 < wNf 5 ∧ wOff 5 6 = some 30 := by decide +kernel
theorem fr5_7 : 7 < wNf 5 ∧ wOff 5 7 = some 33 := by decide +kernel
theorem fr5_8 : 8 < wNf 5 ∧ wOff 5 8 = some 36 := by decide +kernel
/-- what holds at a method's entry, for all its points -/
def wCx (p : Program) (m : MethodId) (c : Code) (s : State) (args : Array Value) (meth : Method) (cc : ByteArray) (nL : Nat) (own : String) (ret : Option FieldType) (D : va_G) (cs : wC4) (ad : Nat → Nat) (b : Nat) : Prop :=
  CallFix p m c cc nL s args lw_all own ∧ meth.sig.returnType = ret ∧ meth.locks = false ∧ va_K D vwCl (wTys cs) s ∧ wEn ad b s s.heap
theorem w_swOut0_1 {x : Int32} (h0 : ¬ x = 0) (h1 : ¬ x = 1) : x.toInt < 0 ∨ 1 < x.toInt := by
  have e0 : x.toInt ≠ 0 := fun e => h0 (Int32.toInt_inj.mp (e.trans (by decide)))
  have e1 : x.toInt ≠ 1 := fun e => h1 (Int32.toInt_inj.mp (e.trans (by decide)))
  omega
theorem w_swOut0_2 {x : Int32} (h0 : ¬ x = 0) (h1 : ¬ x = 1) (h2 : ¬ x = 2) : x.toInt < 0 ∨ 2 < x.toInt := by
  have e0 : x.toInt ≠ 0 := fun e => h0 (Int32.toInt_inj.mp (e.trans (by decide)))
  have e1 : x.toInt ≠ 1 := fun e => h1 (Int32.toInt_inj.mp (e.trans (by decide)))
  have e2 : x.toInt ≠ 2 := fun e => h2 (Int32.toInt_inj.mp (e.trans (by decide)))
  omega
theorem w_swOut0_3 {x : Int32} (h0 : ¬ x = 0) (h1 : ¬ x = 1) (h2 : ¬ x = 2) (h3 : ¬ x = 3) : x.toInt < 0 ∨ 3 < x.toInt := by
  have e0 : x.toInt ≠ 0 := fun e => h0 (Int32.toInt_inj.mp (e.trans (by decide)))
  have e1 : x.toInt ≠ 1 := fun e => h1 (Int32.toInt_inj.mp (e.trans (by decide)))
  have e2 : x.toInt ≠ 2 := fun e => h2 (Int32.toInt_inj.mp (e.trans (by decide)))
  have e3 : x.toInt ≠ 3 := fun e => h3 (Int32.toInt_inj.mp (e.trans (by decide)))
  omega
theorem w_swOut0_4 {x : Int32} (h0 : ¬ x = 0) (h1 : ¬ x = 1) (h2 : ¬ x = 2) (h3 : ¬ x = 3) (h4 : ¬ x = 4) : x.toInt < 0 ∨ 4 < x.toInt := by
  have e0 : x.toInt ≠ 0 := fun e => h0 (Int32.toInt_inj.mp (e.trans (by decide)))
  have e1 : x.toInt ≠ 1 := fun e => h1 (Int32.toInt_inj.mp (e.trans (by decide)))
  have e2 : x.toInt ≠ 2 := fun e => h2 (Int32.toInt_inj.mp (e.trans (by decide)))
  have e3 : x.toInt ≠ 3 := fun e => h3 (Int32.toInt_inj.mp (e.trans (by decide)))
  have e4 : x.toInt ≠ 4 := fun e => h4 (Int32.toInt_inj.mp (e.trans (by decide)))
  omega
theorem w_swOut0_5 {x : Int32} (h0 : ¬ x = 0) (h1 : ¬ x = 1) (h2 : ¬ x = 2) (h3 : ¬ x = 3) (h4 : ¬ x = 4) (h5 : ¬ x = 5) : x.toInt < 0 ∨ 5 < x.toInt := by
  have e0 : x.toInt ≠ 0 := fun e => h0 (Int32.toInt_inj.mp (e.trans (by decide)))
  have e1 : x.toInt ≠ 1 := fun e => h1 (Int32.toInt_inj.mp (e.trans (by decide)))
  have e2 : x.toInt ≠ 2 := fun e => h2 (Int32.toInt_inj.mp (e.trans (by decide)))
  have e3 : x.toInt ≠ 3 := fun e => h3 (Int32.toInt_inj.mp (e.trans (by decide)))
  have e4 : x.toInt ≠ 4 := fun e => h4 (Int32.toInt_inj.mp (e.trans (by decide)))
  have e5 : x.toInt ≠ 5 := fun e => h5 (Int32.toInt_inj.mp (e.trans (by decide)))
  omega
theorem w_swOut0_9 {x : Int32} (h0 : ¬ x = 0) (h1 : ¬ x = 1) (h2 : ¬ x = 2) (h3 : ¬ x = 3) (h4 : ¬ x = 4) (h5 : ¬ x = 5) (h6 : ¬ x = 6) (h7 : ¬ x = 7) (h8 : ¬ x = 8) (h9 : ¬ x = 9) : x.toInt < 0 ∨ 9 < x.toInt := by
  have e0 : x.toInt ≠ 0 := fun e => h0 (Int32.toInt_inj.mp (e.trans (by decide)))
  have e1 : x.toInt ≠ 1 := fun e => h1 (Int32.toInt_inj.mp (e.trans (by decide)))
  have e2 : x.toInt ≠ 2 := fun e => h2 (Int32.toInt_inj.mp (e.trans (by decide)))
  have e3 : x.toInt ≠ 3 := fun e => h3 (Int32.toInt_inj.mp (e.trans (by decide)))
  have e4 : x.toInt ≠ 4 := fun e => h4 (Int32.toInt_inj.mp (e.trans (by decide)))
  have e5 : x.toInt ≠ 5 := fun e => h5 (Int32.toInt_inj.mp (e.trans (by decide)))
  have e6 : x.toInt ≠ 6 := fun e => h6 (Int32.toInt_inj.mp (e.trans (by decide)))
  have e7 : x.toInt ≠ 7 := fun e => h7 (Int32.toInt_inj.mp (e.trans (by decide)))
  have e8 : x.toInt ≠ 8 := fun e => h8 (Int32.toInt_inj.mp (e.trans (by decide)))
  have e9 : x.toInt ≠ 9 := fun e => h9 (Int32.toInt_inj.mp (e.trans (by decide)))
  omega
theorem w_swOut0_8 {x : Int32} (h0 : ¬ x = 0) (h1 : ¬ x = 1) (h2 : ¬ x = 2) (h3 : ¬ x = 3) (h4 : ¬ x = 4) (h5 : ¬ x = 5) (h6 : ¬ x = 6) (h7 : ¬ x = 7) (h8 : ¬ x = 8) : x.toInt < 0 ∨ 8 < x.toInt := by
  have e0 : x.toInt ≠ 0 := fun e => h0 (Int32.toInt_inj.mp (e.trans (by decide)))
  have e1 : x.toInt ≠ 1 := fun e => h1 (Int32.toInt_inj.mp (e.trans (by decide)))
  have e2 : x.toInt ≠ 2 := fun e => h2 (Int32.toInt_inj.mp (e.trans (by decide)))
  have e3 : x.toInt ≠ 3 := fun e => h3 (Int32.toInt_inj.mp (e.trans (by decide)))
  have e4 : x.toInt ≠ 4 := fun e => h4 (Int32.toInt_inj.mp (e.trans (by decide)))
  have e5 : x.toInt ≠ 5 := fun e => h5 (Int32.toInt_inj.mp (e.trans (by decide)))
  have e6 : x.toInt ≠ 6 := fun e => h6 (Int32.toInt_inj.mp (e.trans (by decide)))
  have e7 : x.toInt ≠ 7 := fun e => h7 (Int32.toInt_inj.mp (e.trans (by decide)))
  have e8 : x.toInt ≠ 8 := fun e => h8 (Int32.toInt_inj.mp (e.trans (by decide)))
  omega
theorem w_swOut1_3 {x : Int32} (h0 : ¬ x = 1) (h1 : ¬ x = 2) (h2 : ¬ x = 3) : x.toInt < 1 ∨ 3 < x.toInt := by
  have e0 : x.toInt ≠ 1 := fun e => h0 (Int32.toInt_inj.mp (e.trans (by decide)))
  have e1 : x.toInt ≠ 2 := fun e => h1 (Int32.toInt_inj.mp (e.trans (by decide)))
  have e2 : x.toInt ≠ 3 := fun e => h2 (Int32.toInt_inj.mp (e.trans (by decide)))
  omega
