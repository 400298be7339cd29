/-! my base: one word list for all methods, nest words, contracts that read and that write, call rows, loops as functions -/
def aw : List Cond := lw_tbl.filter goodWord
theorem aw_mem {w : Cond} (h : w ∈ lw_tbl) (hg : goodWord w = true) : w ∈ aw := List.mem_filter.mpr ⟨h, hg⟩
theorem aw_at (i : Nat) {w : Cond} (h : lw_tbl[i]? = some w) (hg : goodWord w = true) : w ∈ aw := aw_mem (List.mem_of_getElem? h) hg
theorem aw_good {w : Cond} (h : w ∈ aw) : (w.onTables && w.keeps) = true ∨ ∃ ty, w = .arrayClass ty := good_of_word (List.mem_filter.mp h).2
theorem aw_all {ws : List Cond} (h : ws.all (fun w => decide (w ∈ lw_tbl) && goodWord w) = true) : ∀ w ∈ ws, w ∈ aw := fun w hw => by
  have h1 := List.all_eq_true.mp h w hw
  simp only [Bool.and_eq_true, decide_eq_true_eq] at h1
  exact aw_mem h1.1 h1.2
def isNest : Cond → Bool
  | .methodLinkNest _ _ _ _ => true
  | .fieldLinkNest _ _ _ _ _ _ => true
  | _ => false
def nwA (U : State) : Prop := ∀ w ∈ lw_tbl, isNest w = true → va_Nw w U
theorem nw_warm {s U : State} (hW : s.WarmedH U.vm) (h : nwA s) : nwA U := fun w hw hn => by
  have h1 := h w hw hn
  cases w <;> first | (simp [isNest] at hn; done) | exact va_Nw.warmM hW h1 | exact va_Nw.warmF hW h1
theorem nw_same {s U : State} (e : s.vm = U.vm) (h : nwA s) : nwA U := fun w hw hn => by
  have h1 := h w hw hn
  cases w <;> first | (simp [isNest] at hn; done) | exact va_Nw.same rfl e h1
abbrev wq (y : MethodName) (c : ByteArray) (n : Nat) (r : Option FieldType) : List Cond := Cond.code y c n r :: aw
abbrev ty3 (cI cJ cZ : ClassId) : List (ClassId × FieldType) := [(cI, .int), (cJ, .long), (cZ, .boolean)]
/-- a start: the arguments, the world, the tables -/
def Pq (av : List Value) (D : va_G) (cI cJ cZ : ClassId) (ws : va_W) : Array Value → State → Prop := fun v U => v = av.toArray ∧ va_P D vwCl ws U.heap ∧ va_K D vwCl (ty3 cI cJ cZ) U ∧ nwA U
/-- an end that read -/
def Qq (r : Option Value) : Array Value → State → Outcome → State → Prop := fun _ st oc t => oc = .returned r ∧ t.heap = st.heap
/-- an end that wrote the cells at the places ms -/
def Qw (D : va_G) (A : Nat → Prop) (ws : va_W) (ms : List Nat) (r : Option Value) (B : va_W → Prop) : Array Value → State → Outcome → State → Prop := fun _ st oc t => oc = .returned r ∧ (∃ ws' : va_W, va_P D vwCl ws' t.heap ∧ va_D A ws' ∧ (∀ j : Nat, j ∉ ms → ws'[j]? = ws[j]?) ∧ B ws') ∧ va_F A st t
def Cx (y : MethodName) (cc : ByteArray) (maxL : Nat) (ret : Option FieldType) (D : va_G) (cI cJ cZ : ClassId) (p : Program) (s : State) (m : MethodId) (args : Array Value) (meth : Method) (c : Code) : Prop :=
  p.tables.exec = Jvm.exec ∧ c.code = cc ∧ meth.sig.returnType = ret ∧ c.maxLocals = maxL ∧ s.vm.findClass y.cls = some m.cls ∧ (∀ w ∈ aw, w.before args s = true) ∧ meth.locks = false ∧ va_K D vwCl (ty3 cI cJ cZ) s ∧ nwA s
theorem mq_of {l : Launch} {y : MethodName} {cc : ByteArray} {maxL : Nat} {ret : Option FieldType} {rm : Room} {av : List Value} {D : va_G} {cI cJ cZ : ClassId} {ws : va_W} {Qc : Array Value → State → Outcome → State → Prop} {free : Addr → Prop} {mc ms : Nat} (hy : plainName y.cls = true) (hlen : (lg_sl av).length ≤ maxL)
    (body : ∀ (p : Program) (e : Env) (s : State) (m : MethodId) (args : Array Value) (below : List Frame) (meth : Method) (c : Code) (ls : Array Slot) (Q : State → Prop), Q = MQ below Qc args s mc ms free → Cx y cc maxL ret D cI cJ cZ p s m args meth c → (y.name = "<init>" → meth.name = "<init>") → va_P D vwCl ws s.heap → lv_has ls maxL (lv_args 0 av) → W p l e rm s m args below meth c s.heap [] 0 0 Q (F0 m 0 ls [])) :
    Met l y (wq y cc maxL ret) rm (Pq av D cI cJ cZ ws) Qc mc ms free := by
  refine Met.ofW (cc := cc) (maxL := maxL) (ret := ret) hy rfl ?_
  intro p e s m args below meth c s₁ B hml hv
  obtain ⟨rfl, hP, hK, hN⟩ := hv
  have hts := atoms_spec (ws := wq y cc maxL ret) B.pre
  have hown : s.vm.findClass y.cls = some m.cls := findClass_of_methodNamed B.named
  have hl := lv_entry av (n := maxL) hlen
  rw [lg_entry_eq]
  generalize (lg_sl av ++ List.replicate (maxL - (lg_sl av).length) Slot.unset).toArray = ls at hl ⊢
  exact body p e s m av.toArray below meth c ls _ rfl ⟨B.exec, B.bytes, B.returns, hml, hown, fun w h => hts w (List.mem_cons_of_mem _ h), B.notSynchronized, hK, hN⟩ (fun h => (name_of_methodNamed B.named B.method).1.trans h) hP hl
theorem Pq_blind {av : List Value} {D : va_G} {cI cJ cZ : ClassId} {ws : va_W} : FrameBlind (Pq av D cI cJ cZ ws) := fun a U g mk q => by
  obtain ⟨q0, qP, qK, qN⟩ := q
  exact ⟨q0, qP, va_K.moved (u := U) (U := U.calling g mk a) (Vm.Alike.refl U.vm) qK, nw_same (s := U) (U := U.calling g mk a) rfl qN⟩
theorem Pq_pre {av : List Value} {D : va_G} {cI cJ cZ : ClassId} {ws : va_W} {H : Heap} {s : State} (hP : va_P D vwCl ws H) (hK : va_K D vwCl (ty3 cI cJ cZ) s) (hN : nwA s) : ∀ U : State, U.heap = H → s.WarmedH U.vm → Pq av D cI cJ cZ ws av.toArray U := fun U hU hW => ⟨rfl, by rw [hU]; exact hP, va_K.moved hW.alike hK, nw_warm hW hN⟩
/-- what the tables say of a method that is called on an object, statically, or as a constructor -/
def cqB (y : MethodName) (bytes : ByteArray) (maxL : Nat) (ret : Option FieldType) (n : Nat) : Prop := Cond.code y bytes maxL ret ∈ aw ∧ Cond.initialized y.cls ∈ aw ∧ (y.cls ≠ "java/lang/invoke/MethodHandle" ∧ y.cls ≠ "java/lang/invoke/VarHandle" ∧ (parseMethodDescriptor y.desc).map (fun d => d.parameters.length) = some n)
def cqV (y : MethodName) (bytes : ByteArray) (maxL : Nat) (ret : Option FieldType) (n : Nat) : Prop := cqB y bytes maxL ret n ∧ Cond.instanceMethod y ∈ aw ∧ Cond.selects y.cls y y ∈ aw
def cqS (y : MethodName) (bytes : ByteArray) (maxL : Nat) (ret : Option FieldType) (n : Nat) : Prop := cqB y bytes maxL ret n ∧ Cond.static y ∈ aw
def cqI (y : MethodName) (bytes : ByteArray) (maxL : Nat) (n : Nat) : Prop := cqB y bytes maxL none n ∧ Cond.instanceMethod y ∈ aw ∧ y.name = "<init>"
theorem aw_pay {y : MethodName} {bytes : ByteArray} {maxL : Nat} {ret : Option FieldType} {args : Array Value} {s : State} (hts : ∀ w ∈ aw, w.before args s = true) (hc : Cond.code y bytes maxL ret ∈ aw) : ∀ w ∈ wq y bytes maxL ret, ∀ (a' : Array Value) (U : State), s.WarmedH U.vm → w.before a' U = true := fun w hw a' U hW => by
  have h1 : w ∈ aw := by
    rcases List.mem_cons.mp hw with h | h
    · rw [h]; exact hc
    · exact h
  exact word_at hW (aw_good h1) (hts w h1)
section CALLS
variable {p : Program} {l : Launch} {e : Env} {R : Room} {s : State} {m : MethodId} {args : Array Value} {below : List Frame} {meth : Method} {c : Code} {H : Heap} {locs : List Loc} {cells slots : Nat} {Q : State → Prop}
variable {y y0 : MethodName} {bytes cc : ByteArray} {maxL nL mc ms n index : Nat} {ret ret0 : Option FieldType} {rm : Room} {Qc : Array Value → State → Outcome → State → Prop} {free : Addr → Prop} {own C : String} {b : Addr} {As rest : List Value} {pc : Nat} {ls : Array Slot} {st : List Value} {D : va_G} {cI cJ cZ : ClassId} {ws : va_W}
theorem cq_B (hts : ∀ w ∈ aw, w.before args s = true) (hq : cqB y bytes maxL ret n) (hlk : Cond.methodLink own index y ∈ aw) (hrc : rm.cells = mc) (hrs : rm.slots = ms) (hR : rm.frames + 1 ≤ R.frames ∧ 8 + (maxL + 11) + rm.locals ≤ R.locals) : CallB R s args own index y bytes maxL ret (wq y bytes maxL ret) rm mc ms n := by
  obtain ⟨h1, h2, h3, h4, h5⟩ := hq
  refine ⟨hrc, hrs, hR.1, hR.2, aw_pay hts h1, List.mem_cons_self, hts _ h1, hts _ h2, ⟨h3, h4⟩, fun sig h => ?_, hts _ hlk⟩
  rw [h] at h5
  exact (Option.some.inj h5).symm
theorem cq_N {host : String} (hts : ∀ w ∈ aw, w.before args s = true) (hN : nwA s) (hq : cqB y bytes maxL ret n) (hlk : Cond.methodLinkNest own index y host ∈ lw_tbl) (hrc : rm.cells = mc) (hrs : rm.slots = ms) (hR : rm.frames + 1 ≤ R.frames ∧ 8 + (maxL + 11) + rm.locals ≤ R.locals) : va_CN R s args own index y host bytes maxL ret (wq y bytes maxL ret) rm mc ms n := by
  obtain ⟨h1, h2, h3, h4, h5⟩ := hq
  refine ⟨⟨hrc, hrs, hR.1, hR.2, aw_pay hts h1, List.mem_cons_self⟩, hts _ h1, hts _ h2, ⟨h3, h4⟩, fun sig h => ?_, va_Nw.use rfl (hN _ hlk rfl)⟩
  rw [h] at h5
  exact (Option.some.inj h5).symm
/-- a private method of the own class, on an object -/
theorem runV (X : Cx y0 cc nL ret0 D cI cJ cZ p s m args meth c) (hq : cqV y bytes maxL ret n) (hlk : Cond.methodLink y0.cls index y ∈ aw) (hM : Met l y (wq y bytes maxL ret) rm (Pq (.ref b :: As) D cI cJ cZ ws) Qc mc ms free) (hrc : rm.cells = mc) (hrs : rm.slots = ms) (hR : rm.frames + 1 ≤ R.frames ∧ 8 + (maxL + 11) + rm.locals ≤ R.locals) (hP : va_P D vwCl ws H) {q0 ci N : Nat} {T : u_T} {fs : List Value} (he : ws[q0]? = some (b, .inr (ci, fs))) (hc : vwCl[ci]? = some (y.cls, T, N)) (hn : As.length = n) (hsize : ls.size = nL) (hstack : st = As.reverse ++ .ref b :: rest) (hW : (rest.map fun v => v.category).sum ≤ 8) (hdg : decode cc pc = .ok (.invokevirtual index, 3)) (hf : cells + mc ≤ R.cells ∧ slots + ms ≤ R.slots) :
    va_Run p l e R s m args below meth c H locs cells slots mc ms (F0 m pc ls st) rest (Qc (Value.ref b :: As).toArray) free := by
  obtain ⟨hx, hb, hr, hml, hown, hts, hlk0, hK, hN⟩ := X
  exact va_runV ⟨hx, hb, hml, hown, hts⟩ hM ⟨cq_B hts hq.1 hlk hrc hrs hR, hts _ hq.2.1, hts _ hq.2.2⟩ ⟨Pq_blind, va_recv hK hP hc he, Pq_pre hP hK hN⟩ rfl hn hsize hstack (lv_room hW) hdg hf
/-- a private method of a nest mate, on an object -/
theorem runVN {host : String} (X : Cx y0 cc nL ret0 D cI cJ cZ p s m args meth c) (hq : cqV y bytes maxL ret n) (hlk : Cond.methodLinkNest y0.cls index y host ∈ lw_tbl) (hM : Met l y (wq y bytes maxL ret) rm (Pq (.ref b :: As) D cI cJ cZ ws) Qc mc ms free) (hrc : rm.cells = mc) (hrs : rm.slots = ms) (hR : rm.frames + 1 ≤ R.frames ∧ 8 + (maxL + 11) + rm.locals ≤ R.locals) (hP : va_P D vwCl ws H) {q0 ci N : Nat} {T : u_T} {fs : List Value} (he : ws[q0]? = some (b, .inr (ci, fs))) (hc : vwCl[ci]? = some (y.cls, T, N)) (hn : As.length = n) (hsize : ls.size = nL) (hstack : st = As.reverse ++ .ref b :: rest) (hW : (rest.map fun v => v.category).sum ≤ 8) (hdg : decode cc pc = .ok (.invokevirtual index, 3)) (hf : cells + mc ≤ R.cells ∧ slots + ms ≤ R.slots) :
    va_Run p l e R s m args below meth c H locs cells slots mc ms (F0 m pc ls st) rest (Qc (Value.ref b :: As).toArray) free := by
  obtain ⟨hx, hb, hr, hml, hown, hts, hlk0, hK, hN⟩ := X
  exact va_runVN ⟨hx, hb, hml, hown, hts⟩ hM ⟨cq_N hts hN hq.1 hlk hrc hrs hR, hts _ hq.2.1, hts _ hq.2.2⟩ ⟨Pq_blind, va_recv hK hP hc he, Pq_pre hP hK hN⟩ rfl hn hsize hstack (lv_room hW) hdg hf
theorem runS (X : Cx y0 cc nL ret0 D cI cJ cZ p s m args meth c) (hq : cqS y bytes maxL ret n) (hlk : Cond.methodLink y0.cls index y ∈ aw) (hM : Met l y (wq y bytes maxL ret) rm (Pq As D cI cJ cZ ws) Qc mc ms free) (hrc : rm.cells = mc) (hrs : rm.slots = ms) (hR : rm.frames + 1 ≤ R.frames ∧ 8 + (maxL + 11) + rm.locals ≤ R.locals) (hP : va_P D vwCl ws H) (hn : As.length = n) (hsize : ls.size = nL) (hstack : st = As.reverse ++ rest) (hW : (rest.map fun v => v.category).sum ≤ 8) (hdg : decode cc pc = .ok (.invokestatic index, 3)) (hf : cells + mc ≤ R.cells ∧ slots + ms ≤ R.slots) :
    va_Run p l e R s m args below meth c H locs cells slots mc ms (F0 m pc ls st) rest (Qc As.toArray) free := by
  obtain ⟨hx, hb, hr, hml, hown, hts, hlk0, hK, hN⟩ := X
  exact va_runS ⟨hx, hb, hml, hown, hts⟩ hM ⟨cq_B hts hq.1 hlk hrc hrs hR, hts _ hq.2⟩ ⟨Pq_blind, Pq_pre hP hK hN⟩ rfl hn hsize hstack (lv_room hW) hdg hf
theorem runSN {host : String} (X : Cx y0 cc nL ret0 D cI cJ cZ p s m args meth c) (hq : cqS y bytes maxL ret n) (hlk : Cond.methodLinkNest y0.cls index y host ∈ lw_tbl) (hM : Met l y (wq y bytes maxL ret) rm (Pq As D cI cJ cZ ws) Qc mc ms free) (hrc : rm.cells = mc) (hrs : rm.slots = ms) (hR : rm.frames + 1 ≤ R.frames ∧ 8 + (maxL + 11) + rm.locals ≤ R.locals) (hP : va_P D vwCl ws H) (hn : As.length = n) (hsize : ls.size = nL) (hstack : st = As.reverse ++ rest) (hW : (rest.map fun v => v.category).sum ≤ 8) (hdg : decode cc pc = .ok (.invokestatic index, 3)) (hf : cells + mc ≤ R.cells ∧ slots + ms ≤ R.slots) :
    va_Run p l e R s m args below meth c H locs cells slots mc ms (F0 m pc ls st) rest (Qc As.toArray) free := by
  obtain ⟨hx, hb, hr, hml, hown, hts, hlk0, hK, hN⟩ := X
  exact va_runSN ⟨hx, hb, hml, hown, hts⟩ hM ⟨cq_N hts hN hq.1 hlk hrc hrs hR, hts _ hq.2, trivial⟩ ⟨Pq_blind, Pq_pre hP hK hN⟩ rfl hn hsize hstack (lv_room hW) hdg hf
/-- behind a call that read -/
theorem rd_call {v : Option Value} {a : Array Value} (hr : va_Run p l e R s m args below meth c H locs cells slots 0 0 (F0 m pc ls st) rest (Qq v a) (fun _ => False)) (kk : W p l e R s m args below meth c H locs cells slots Q (F0 m (pc + 3) ls (v.toList ++ rest))) : W p l e R s m args below meth c H locs cells slots Q (F0 m pc ls st) := by
  intro T hT X
  obtain ⟨v', st₀, t, T', L, h0, X', hL, e1, e2, ⟨hv, hh⟩, sx⟩ := hr T hT X
  cases hv
  obtain ⟨t2, a1, b1⟩ := kk T' (by rw [e1, hh, h0]) (Stand.forget X' (fun q h => (hL q h).elim))
  exact ⟨t2, sx t2 a1, b1⟩
theorem rd_i {r : Int32} {a : Array Value} (hr : va_Run p l e R s m args below meth c H locs cells slots 0 0 (F0 m pc ls st) rest (Qq (some (.int r)) a) (fun _ => False)) (kk : W p l e R s m args below meth c H locs cells slots Q (F0 m (pc + 3) ls (.int r :: rest))) : W p l e R s m args below meth c H locs cells slots Q (F0 m pc ls st) := rd_call hr kk
theorem rd_l {r : Int64} {a : Array Value} (hr : va_Run p l e R s m args below meth c H locs cells slots 0 0 (F0 m pc ls st) rest (Qq (some (.long r)) a) (fun _ => False)) (kk : W p l e R s m args below meth c H locs cells slots Q (F0 m (pc + 3) ls (.long r :: rest))) : W p l e R s m args below meth c H locs cells slots Q (F0 m pc ls st) := rd_call hr kk
theorem rd_a {r : Nat} {a : Array Value} (hr : va_Run p l e R s m args below meth c H locs cells slots 0 0 (F0 m pc ls st) rest (Qq (some (.ref r)) a) (fun _ => False)) (kk : W p l e R s m args below meth c H locs cells slots Q (F0 m (pc + 3) ls (.ref r :: rest))) : W p l e R s m args below meth c H locs cells slots Q (F0 m pc ls st) := rd_call hr kk
theorem rd_v {a : Array Value} (hr : va_Run p l e R s m args below meth c H locs cells slots 0 0 (F0 m pc ls st) rest (Qq none a) (fun _ => False)) (kk : W p l e R s m args below meth c H locs cells slots Q (F0 m (pc + 3) ls rest)) : W p l e R s m args below meth c H locs cells slots Q (F0 m pc ls st) := rd_call hr kk
/-- behind a call that wrote -/
theorem wr_call {v : Option Value} {a : Array Value} {A : Nat → Prop} {H0 : Heap} {mz : List Nat} {B : va_W → Prop} (hr : va_Run p l e R s m args below meth c H locs cells slots 0 0 (F0 m pc ls st) rest (Qw D A ws mz v B a) A) (hS : va_S A H0 H locs)
    (kk : ∀ (ws' : va_W) (H1 : Heap) (locs1 : List Loc), va_P D vwCl ws' H1 → va_D A ws' → (∀ j : Nat, j ∉ mz → ws'[j]? = ws[j]?) → B ws' → va_S A H0 H1 locs1 → W p l e R s m args below meth c H1 locs1 cells slots Q (F0 m (pc + 3) ls (v.toList ++ rest))) : W p l e R s m args below meth c H locs cells slots Q (F0 m pc ls st) := by
  intro T hT X
  obtain ⟨v', st₀, t, T', L, h0, X', hL, e1, e2, ⟨hv, ⟨ws', hP, hD, hs, hB⟩, hz, hk⟩, sx⟩ := hr T hT X
  cases hv
  rw [h0] at hz hk
  obtain ⟨t2, a1, b1⟩ := kk ws' T'.heap (locs ++ L) (by rw [e1]; exact hP) hD hs hB
    ⟨Nat.le_trans hS.1 (by rw [e1]; exact hz), fun q h1 h2 => by rw [e1, hk q (Nat.lt_of_lt_of_le h1 hS.1) h2]; exact hS.2.1 q h1 h2, fun q hq => by
      rcases List.mem_append.mp hq with h | h
      · exact hS.2.2 q h
      · exact hL q h⟩ T' rfl X'
  exact ⟨t2, sx t2 a1, b1⟩
theorem wr_i {r : Int32} {a : Array Value} {A : Nat → Prop} {H0 : Heap} {mz : List Nat} {B : va_W → Prop} (hr : va_Run p l e R s m args below meth c H locs cells slots 0 0 (F0 m pc ls st) rest (Qw D A ws mz (some (.int r)) B a) A) (hS : va_S A H0 H locs)
    (kk : ∀ (ws' : va_W) (H1 : Heap) (locs1 : List Loc), va_P D vwCl ws' H1 → va_D A ws' → (∀ j : Nat, j ∉ mz → ws'[j]? = ws[j]?) → B ws' → va_S A H0 H1 locs1 → W p l e R s m args below meth c H1 locs1 cells slots Q (F0 m (pc + 3) ls (.int r :: rest))) : W p l e R s m args below meth c H locs cells slots Q (F0 m pc ls st) := wr_call hr hS kk
theorem wr_l {r : Int64} {a : Array Value} {A : Nat → Prop} {H0 : Heap} {mz : List Nat} {B : va_W → Prop} (hr : va_Run p l e R s m args below meth c H locs cells slots 0 0 (F0 m pc ls st) rest (Qw D A ws mz (some (.long r)) B a) A) (hS : va_S A H0 H locs)
    (kk : ∀ (ws' : va_W) (H1 : Heap) (locs1 : List Loc), va_P D vwCl ws' H1 → va_D A ws' → (∀ j : Nat, j ∉ mz → ws'[j]? = ws[j]?) → B ws' → va_S A H0 H1 locs1 → W p l e R s m args below meth c H1 locs1 cells slots Q (F0 m (pc + 3) ls (.long r :: rest))) : W p l e R s m args below meth c H locs cells slots Q (F0 m pc ls st) := wr_call hr hS kk
theorem wr_v {a : Array Value} {A : Nat → Prop} {H0 : Heap} {mz : List Nat} {B : va_W → Prop} (hr : va_Run p l e R s m args below meth c H locs cells slots 0 0 (F0 m pc ls st) rest (Qw D A ws mz none B a) A) (hS : va_S A H0 H locs)
    (kk : ∀ (ws' : va_W) (H1 : Heap) (locs1 : List Loc), va_P D vwCl ws' H1 → va_D A ws' → (∀ j : Nat, j ∉ mz → ws'[j]? = ws[j]?) → B ws' → va_S A H0 H1 locs1 → W p l e R s m args below meth c H1 locs1 cells slots Q (F0 m (pc + 3) ls rest)) : W p l e R s m args below meth c H locs cells slots Q (F0 m pc ls st) := wr_call hr hS kk
/-- ends -/
theorem rt_i {v : Int32} {free : Addr → Prop} (X : Cx y0 cc nL (some .int) D cI cJ cZ p s m args meth c) (hdg : decode cc pc = .ok (.ireturn, 1)) : W p l e R s m args below meth c s.heap [] cells slots (MQ below (Qq (some (.int v))) args s cells slots free) (F0 m pc ls [.int v]) := W.iret X.1 X.2.1 X.2.2.1 (fun t ht _ => ⟨rfl, ht⟩) (fun q hq => by cases hq) hdg X.2.2.2.2.2.2.1
theorem rt_l {v : Int64} {free : Addr → Prop} (X : Cx y0 cc nL (some .long) D cI cJ cZ p s m args meth c) (hdg : decode cc pc = .ok (.lreturn, 1)) : W p l e R s m args below meth c s.heap [] cells slots (MQ below (Qq (some (.long v))) args s cells slots free) (F0 m pc ls [.long v]) := W.lret X.1 X.2.1 X.2.2.1 (fun t ht _ => ⟨rfl, ht⟩) (fun q hq => by cases hq) hdg X.2.2.2.2.2.2.1
def bi (b : Bool) : Int32 := if b = true then 1 else 0
theorem bi_n (b : Bool) : narrow .boolean (.int (bi b)) = .int (bi b) := by cases b <;> decide
theorem bi_f (b : Bool) : fits .boolean (.int (bi b)) = true := by cases b <;> decide
theorem bi_0 (b : Bool) : bi b = 0 ↔ b = false := by cases b <;> decide
theorem bi_1 (b : Bool) : ¬ bi b = 0 ↔ b = true := by cases b <;> decide
theorem rt_z {b : Bool} {free : Addr → Prop} (X : Cx y0 cc nL (some .boolean) D cI cJ cZ p s m args meth c) (hdg : decode cc pc = .ok (.ireturn, 1)) : W p l e R s m args below meth c s.heap [] cells slots (MQ below (Qq (some (.int (bi b)))) args s cells slots free) (F0 m pc ls [.int (bi b)]) := W.zret X.1 X.2.1 X.2.2.1 (bi_n b) (fun t ht _ => ⟨rfl, ht⟩) (fun q hq => by cases hq) hdg X.2.2.2.2.2.2.1
theorem rt_a {r : Nat} {o : String} {free : Addr → Prop} (X : Cx y0 cc nL (some (.object o)) D cI cJ cZ p s m args meth c) (hdg : decode cc pc = .ok (.areturn, 1)) : W p l e R s m args below meth c s.heap [] cells slots (MQ below (Qq (some (.ref r))) args s cells slots free) (F0 m pc ls [.ref r]) := W.aret X.1 X.2.1 X.2.2.1 (Or.inl ⟨o, rfl⟩) (Or.inr ⟨r, rfl⟩) (fun t ht _ => ⟨rfl, ht⟩) (fun q hq => by cases hq) hdg X.2.2.2.2.2.2.1
theorem rw_i {v : Int32} {A : Nat → Prop} {H : Heap} {locs : List Loc} {ws0 : va_W} {mz : List Nat} {B : va_W → Prop} (X : Cx y0 cc nL (some .int) D cI cJ cZ p s m args meth c) (hS : va_S A s.heap H locs) (hP : va_P D vwCl ws H) (hD : va_D A ws) (hs : ∀ j : Nat, j ∉ mz → ws[j]? = ws0[j]?) (hB : B ws) (hdg : decode cc pc = .ok (.ireturn, 1)) : W p l e R s m args below meth c H locs cells slots (MQ below (Qw D A ws0 mz (some (.int v)) B) args s cells slots A) (F0 m pc ls [.int v]) := W.iret X.1 X.2.1 X.2.2.1 (fun t ht _ => ⟨rfl, ⟨ws, by rw [ht]; exact hP, hD, hs, hB⟩, hS.F ht⟩) hS.2.2 hdg X.2.2.2.2.2.2.1
theorem rw_l {v : Int64} {A : Nat → Prop} {H : Heap} {locs : List Loc} {ws0 : va_W} {mz : List Nat} {B : va_W → Prop} (X : Cx y0 cc nL (some .long) D cI cJ cZ p s m args meth c) (hS : va_S A s.heap H locs) (hP : va_P D vwCl ws H) (hD : va_D A ws) (hs : ∀ j : Nat, j ∉ mz → ws[j]? = ws0[j]?) (hB : B ws) (hdg : decode cc pc = .ok (.lreturn, 1)) : W p l e R s m args below meth c H locs cells slots (MQ below (Qw D A ws0 mz (some (.long v)) B) args s cells slots A) (F0 m pc ls [.long v]) := W.lret X.1 X.2.1 X.2.2.1 (fun t ht _ => ⟨rfl, ⟨ws, by rw [ht]; exact hP, hD, hs, hB⟩, hS.F ht⟩) hS.2.2 hdg X.2.2.2.2.2.2.1
theorem rw_v {A : Nat → Prop} {H : Heap} {locs : List Loc} {ws0 : va_W} {mz : List Nat} {B : va_W → Prop} (X : Cx y0 cc nL none D cI cJ cZ p s m args meth c) (hS : va_S A s.heap H locs) (hP : va_P D vwCl ws H) (hD : va_D A ws) (hs : ∀ j : Nat, j ∉ mz → ws[j]? = ws0[j]?) (hB : B ws) (hdg : decode cc pc = .ok (.return_, 1)) : W p l e R s m args below meth c H locs cells slots (MQ below (Qw D A ws0 mz none B) args s cells slots A) (F0 m pc ls []) := W.vret X.1 X.2.1 X.2.2.1 (fun t ht _ => ⟨rfl, ⟨ws, by rw [ht]; exact hP, hD, hs, hB⟩, hS.F ht⟩) hS.2.2 hdg X.2.2.2.2.2.2.1
/-- branches on a truth value, and on a long comparison -/
theorem zf_eq (hexec : p.tables.exec = Jvm.exec) (hb : c.code = cc) {b : Bool} {off : Int} {tgt : Nat} (hdg : decode cc pc = .ok (.ifCond .eq off, 3)) (ht : (pc : Int) + off = (tgt : Int)) (kt : ¬ b = true → W p l e R s m args below meth c H locs cells slots Q (F0 m tgt ls rest)) (kf : b = true → W p l e R s m args below meth c H locs cells slots Q (F0 m (pc + 3) ls rest)) : W p l e R s m args below meth c H locs cells slots Q (F0 m pc ls (.int (bi b) :: rest)) :=
  lv_if_eq hexec hb hdg ht (fun h => kt (by rw [(bi_0 b).mp h]; decide)) (fun h => kf ((bi_1 b).mp h))
theorem zf_ne (hexec : p.tables.exec = Jvm.exec) (hb : c.code = cc) {b : Bool} {off : Int} {tgt : Nat} (hdg : decode cc pc = .ok (.ifCond .ne off, 3)) (ht : (pc : Int) + off = (tgt : Int)) (kt : b = true → W p l e R s m args below meth c H locs cells slots Q (F0 m tgt ls rest)) (kf : ¬ b = true → W p l e R s m args below meth c H locs cells slots Q (F0 m (pc + 3) ls rest)) : W p l e R s m args below meth c H locs cells slots Q (F0 m pc ls (.int (bi b) :: rest)) :=
  lv_if_ne hexec hb hdg ht (fun h => kt ((bi_1 b).mp h)) (fun h => kf (by rw [(bi_0 b).mp h]; decide))
end CALLS
theorem lc_lt (x y : Int64) : lg_cmp x y < 0 ↔ x < y := by
  unfold lg_cmp
  simp only [gt_iff_lt, Int64.lt_iff_toInt_lt, ← Int64.toInt_inj]
  repeat' split
  all_goals (constructor <;> intro h <;> first | omega | decide | exact absurd h (by decide))
theorem lc_ge (x y : Int64) : 0 ≤ lg_cmp x y ↔ y ≤ x := lg_cmp_ge x y
theorem lc_eq (x y : Int64) : lg_cmp x y = 0 ↔ x = y := by
  unfold lg_cmp
  simp only [gt_iff_lt, Int64.lt_iff_toInt_lt, ← Int64.toInt_inj]
  repeat' split
  all_goals (constructor <;> intro h <;> first | omega | decide | exact absurd h (by decide))
theorem lc_gt (x y : Int64) : 0 < lg_cmp x y ↔ y < x := by
  unfold lg_cmp
  simp only [gt_iff_lt, Int64.lt_iff_toInt_lt, ← Int64.toInt_inj]
  repeat' split
  all_goals (constructor <;> intro h <;> first | omega | decide | exact absurd h (by decide))
theorem lc_le (x y : Int64) : lg_cmp x y ≤ 0 ↔ x ≤ y := by
  unfold lg_cmp
  simp only [gt_iff_lt, Int64.lt_iff_toInt_lt, Int64.le_iff_toInt_le, ← Int64.toInt_inj]
  repeat' split
  all_goals (constructor <;> intro h <;> first | omega | decide | exact absurd h (by decide))
/-- worlds by their places -/
theorem st_eq {ws : va_W} {k : Nat} {x y : Nat × va_E} (h : ws[k]? = some x) : (ws.set k y)[k]? = some y := List.getElem?_set_self (List.getElem?_eq_some_iff.mp h).1
theorem st_ne {ws : va_W} {k j : Nat} {y : Nat × va_E} {o : Option (Nat × va_E)} (hn : j ≠ k) (h : ws[j]? = o) : (ws.set k y)[j]? = o := by rw [List.getElem?_set_ne (Ne.symm hn)]; exact h
theorem st_sm {ws ws0 : va_W} {k : Nat} {mz : List Nat} {y : Nat × va_E} (hk : k ∈ mz) (h : ∀ j : Nat, j ∉ mz → ws[j]? = ws0[j]?) : ∀ j : Nat, j ∉ mz → (ws.set k y)[j]? = ws0[j]? := fun j hj => st_ne (fun e => hj (e ▸ hk)) (h j hj)
theorem st_tr {ws1 ws ws0 : va_W} {m1 mz : List Nat} (h1 : ∀ j : Nat, j ∉ m1 → ws1[j]? = ws[j]?) (hm : ∀ j ∈ m1, j ∈ mz) (h : ∀ j : Nat, j ∉ mz → ws[j]? = ws0[j]?) : ∀ j : Nat, j ∉ mz → ws1[j]? = ws0[j]? := fun j hj => (h1 j (fun q => hj (hm j q))).trans (h j hj)
theorem ast_i {p : Program} {l : Launch} {e : Env} {R : Room} {s : State} {m : MethodId} {args : Array Value} {below : List Frame} {meth : Method} {c : Code} {H : Heap} {locs : List Loc} {cells slots : Nat} {Q : State → Prop} {cc : ByteArray} {pc : Nat} {ls : Array Slot} {rest : List Value} {D : va_G} {A : Nat → Prop} {a : Nat} {cI cJ cZ : ClassId} {ws : va_W} {H0 : Heap} (hexec : p.tables.exec = Jvm.exec) (hb : c.code = cc) (hK : va_K D vwCl (ty3 cI cJ cZ) s) (hP : va_P D vwCl ws H) (hD : va_D A ws) (hS : va_S A H0 H locs) {q0 n : Nat} {f : Nat → Int32} (ha : ws[q0]? = some (a, .inl (cI, n, .inl f))) {i x : Int32} (hin : vp_in i n) (hdg : decode cc pc = .ok (.iastore, 1))
    (kk : ∀ (ws' : va_W) (H1 : Heap) (locs1 : List Loc), va_P D vwCl ws' H1 → va_D A ws' → (∀ j : Nat, j ≠ q0 → ws'[j]? = ws[j]?) → ws'[q0]? = some (a, .inl (cI, n, .inl (upd f i.toNatClampNeg x))) → va_S A H0 H1 locs1 → W p l e R s m args below meth c H1 locs1 cells slots Q (F0 m (pc + 1) ls rest)) : W p l e R s m args below meth c H locs cells slots Q (F0 m pc ls (.int x :: .int i :: .ref a :: rest)) :=
  va_iast hexec hb hK hP hD hS q0 0 ha rfl hin hdg (fun H1 locs1 hP1 hD1 hS1 => kk _ H1 locs1 hP1 hD1 (fun j hj => st_ne hj rfl) (st_eq ha) hS1)
theorem ast_l {p : Program} {l : Launch} {e : Env} {R : Room} {s : State} {m : MethodId} {args : Array Value} {below : List Frame} {meth : Method} {c : Code} {H : Heap} {locs : List Loc} {cells slots : Nat} {Q : State → Prop} {cc : ByteArray} {pc : Nat} {ls : Array Slot} {rest : List Value} {D : va_G} {A : Nat → Prop} {a : Nat} {cI cJ cZ : ClassId} {ws : va_W} {H0 : Heap} (hexec : p.tables.exec = Jvm.exec) (hb : c.code = cc) (hK : va_K D vwCl (ty3 cI cJ cZ) s) (hP : va_P D vwCl ws H) (hD : va_D A ws) (hS : va_S A H0 H locs) {q0 n : Nat} {f : Nat → Int64} (ha : ws[q0]? = some (a, .inl (cJ, n, .inr (.inl f)))) {i : Int32} {x : Int64} (hin : vp_in i n) (hdg : decode cc pc = .ok (.lastore, 1))
    (kk : ∀ (ws' : va_W) (H1 : Heap) (locs1 : List Loc), va_P D vwCl ws' H1 → va_D A ws' → (∀ j : Nat, j ≠ q0 → ws'[j]? = ws[j]?) → ws'[q0]? = some (a, .inl (cJ, n, .inr (.inl (vp_updL f i.toNatClampNeg x)))) → va_S A H0 H1 locs1 → W p l e R s m args below meth c H1 locs1 cells slots Q (F0 m (pc + 1) ls rest)) : W p l e R s m args below meth c H locs cells slots Q (F0 m pc ls (.long x :: .int i :: .ref a :: rest)) :=
  va_last hexec hb hK hP hD hS q0 1 ha rfl hin hdg (fun H1 locs1 hP1 hD1 hS1 => kk _ H1 locs1 hP1 hD1 (fun j hj => st_ne hj rfl) (st_eq ha) hS1)
theorem ast_z {p : Program} {l : Launch} {e : Env} {R : Room} {s : State} {m : MethodId} {args : Array Value} {below : List Frame} {meth : Method} {c : Code} {H : Heap} {locs : List Loc} {cells slots : Nat} {Q : State → Prop} {cc : ByteArray} {pc : Nat} {ls : Array Slot} {rest : List Value} {D : va_G} {A : Nat → Prop} {a : Nat} {cI cJ cZ : ClassId} {ws : va_W} {H0 : Heap} (hexec : p.tables.exec = Jvm.exec) (hb : c.code = cc) (hK : va_K D vwCl (ty3 cI cJ cZ) s) (hP : va_P D vwCl ws H) (hD : va_D A ws) (hS : va_S A H0 H locs) {q0 n : Nat} {f : Nat → Int32} (ha : ws[q0]? = some (a, .inl (cZ, n, .inl f))) {i x : Int32} (hin : vp_in i n) (hdg : decode cc pc = .ok (.bastore, 1))
    (kk : ∀ (ws' : va_W) (H1 : Heap) (locs1 : List Loc), va_P D vwCl ws' H1 → va_D A ws' → (∀ j : Nat, j ≠ q0 → ws'[j]? = ws[j]?) → ws'[q0]? = some (a, .inl (cZ, n, .inl (upd f i.toNatClampNeg (vp_nar .boolean x)))) → va_S A H0 H1 locs1 → W p l e R s m args below meth c H1 locs1 cells slots Q (F0 m (pc + 1) ls rest)) : W p l e R s m args below meth c H locs cells slots Q (F0 m pc ls (.int x :: .int i :: .ref a :: rest)) :=
  va_zast hexec hb hK hP hD hS q0 2 ha rfl hin hdg (fun H1 locs1 hP1 hD1 hS1 => kk _ H1 locs1 hP1 hD1 (fun j hj => st_ne hj rfl) (st_eq ha) hS1)
theorem sm_k {ws1 ws ws0 : va_W} {k : Nat} {mz : List Nat} (h1 : ∀ j : Nat, j ≠ k → ws1[j]? = ws[j]?) (hk : k ∈ mz) (h : ∀ j : Nat, j ∉ mz → ws[j]? = ws0[j]?) : ∀ j : Nat, j ∉ mz → ws1[j]? = ws0[j]? := fun j hj => (h1 j (fun e => hj (e ▸ hk))).trans (h j hj)
/-- functions that may have no answer, loops -/
theorem bd_some {α β : Type} {o : Option α} {f : α → Option β} {r : β} (h : o.bind f = some r) : ∃ x, o = some x ∧ f x = some r := by
  cases o with
  | none => cases h
  | some x => exact ⟨x, rfl, h⟩
theorem gd_some {α : Type} {c : Prop} [Decidable c] {t : Option α} {r : α} (h : (if c then none else t) = some r) : ¬ c ∧ t = some r := by
  by_cases hc : c
  · rw [if_pos hc] at h; cases h
  · rw [if_neg hc] at h; exact ⟨hc, h⟩
def nmb {α β : Type} (x : α) (f : α → β) : β := f x
theorem nm_at {α β : Type} {x y : α} {f : α → β} {r : β} (h : nmb x f = r) (e : y = x) : f y = r := by subst e; exact h
def itr {α β : Type} (f : α → Option (α ⊕ β)) : Nat → α → Option β
  | 0, _ => none
  | n + 1, x => match f x with
    | none => none
    | some (.inl y) => itr f n y
    | some (.inr r) => some r
def itK {α β : Type} (f : α → Option (α ⊕ β)) (n : Nat) (r : β) : α ⊕ β → Prop
  | .inl y => itr f n y = some r
  | .inr o => o = r
theorem itr_0 {α β : Type} {f : α → Option (α ⊕ β)} {x : α} {r : β} (h : itr f 0 x = some r) : False := by cases h
theorem itr_s {α β : Type} {f : α → Option (α ⊕ β)} {n : Nat} {x : α} {r : β} (h : itr f (n + 1) x = some r) : ∃ w, f x = some w ∧ itK f n r w := by
  unfold itr at h
  cases hx : f x with
  | none => rw [hx] at h; cases h
  | some w =>
    rw [hx] at h
    cases w with
    | inl y => exact ⟨_, rfl, h⟩
    | inr o => exact ⟨_, rfl, Option.some.inj h⟩
