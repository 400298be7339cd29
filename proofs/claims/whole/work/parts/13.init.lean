def Qn (D : va_G) (A : Nat → Prop) (B : va_W → Prop) : Array Value → State → Outcome → State → Prop := fun _ st oc t => oc = .returned none ∧ (∃ ws' : va_W, va_P D vwCl ws' t.heap ∧ va_D A ws' ∧ B ws') ∧ va_F A st t
theorem ap_len {w ws : va_W} {x : Nat × va_E} {n : Nat} (h : w = ws ++ [x]) (hn : ws.length = n) : w.length = n + 1 := by rw [h, List.length_append, hn]; rfl
theorem ap_new {w ws : va_W} {x : Nat × va_E} {n : Nat} (h : w = ws ++ [x]) (hn : ws.length = n) : w[n]? = some x := by subst hn; rw [h, List.getElem?_append_right (Nat.le_refl _), Nat.sub_self]; rfl
theorem ap_old {w ws : va_W} {x : Nat × va_E} {n j : Nat} (h : w = ws ++ [x]) (hn : ws.length = n) (hj : j < n) : w[j]? = ws[j]? := by rw [h, List.getElem?_append_left (by omega)]
theorem ba_le {D : va_G} {ws : va_W} {H : Heap} {base k : Nat} {x : Nat × va_E} (hP : va_P D vwCl ws H) (hD : va_D (fun q => base ≤ q) ws) (h : ws[k]? = some x) : ∀ q : Nat, H.size ≤ q → base ≤ q := fun q hq => Nat.le_trans (hD.2 k x h) (Nat.le_trans (Nat.le_of_lt (hP k x h).lt) hq)

theorem arr_i : Cond.arrayClass .int ∈ aw := aw_at 114 (by decide +kernel) (by decide +kernel)
theorem arr_l : Cond.arrayClass .long ∈ aw := aw_at 205 (by decide +kernel) (by decide +kernel)
theorem arr_z : Cond.arrayClass .boolean ∈ aw := aw_at 881 (by decide +kernel) (by decide +kernel)
theorem na_i {p : Program} {l : Launch} {e : Env} {R : Room} {s : State} {m : MethodId} {args : Array Value} {below : List Frame} {meth : Method} {c : Code} {H : Heap} {locs : List Loc} {cells slots : Nat} {Q : State → Prop} {cc : ByteArray} {pc : Nat} {ls : Array Slot} {rest : List Value} {D : va_G} {cI cJ cZ : ClassId} {ws : va_W} {A : Nat → Prop} {H0 : Heap} {n : Int32} {N : Nat} (hx : p.tables.exec = Jvm.exec) (hb : c.code = cc) (hts : ∀ w ∈ aw, w.before args s = true) (hK : va_K D vwCl (ty3 cI cJ cZ) s) (hP : va_P D vwCl ws H) (hD : va_D A ws) (hS : va_S A H0 H locs) (hA : ∀ q, H0.size ≤ q → A q) (hn : ¬ n < 0) (hN : n.toNatClampNeg = N) (hbytes : N * 4 ≤ 536870912) (hcells : cells + 1 ≤ R.cells) (hslots : slots + N ≤ R.slots) (hdg : decode cc pc = .ok (.newarray .int, 2))
    (kk : ∀ (q : Nat) (w : va_W) (H1 : Heap), va_P D vwCl w H1 → va_D A w → w = ws ++ [(q, .inl (cI, N, .inl (fun _ => 0)))] → va_S A H0 H1 locs → W p l e R s m args below meth c H1 locs (cells + 1) (slots + N) Q (F0 m (pc + 2) ls (.ref q :: rest))) : W p l e R s m args below meth c H locs cells slots Q (F0 m pc ls (.int n :: rest)) := by
  refine va_newa (atype := .int) (ty := .int) (a0 := (N, .inl (fun _ => 0))) hx hb (hts _ arr_i) rfl hK hP hD hS hA (fun cA => rfl) hn hN hbytes hcells hslots hdg (fun q cA H1 hK1 hP1 hD1 hS1 => ?_)
  have e1 : va_RA s cA .int := (hK1.2 3 (cA, .int) rfl).2
  have e2 : va_RA s cI .int := (hK.2 0 (cI, .int) rfl).2
  have e3 : some cA = some cI := Eq.trans (Eq.symm e1) e2
  cases e3
  exact kk q _ H1 hP1 hD1 rfl hS1
theorem na_l {p : Program} {l : Launch} {e : Env} {R : Room} {s : State} {m : MethodId} {args : Array Value} {below : List Frame} {meth : Method} {c : Code} {H : Heap} {locs : List Loc} {cells slots : Nat} {Q : State → Prop} {cc : ByteArray} {pc : Nat} {ls : Array Slot} {rest : List Value} {D : va_G} {cI cJ cZ : ClassId} {ws : va_W} {A : Nat → Prop} {H0 : Heap} {n : Int32} {N : Nat} (hx : p.tables.exec = Jvm.exec) (hb : c.code = cc) (hts : ∀ w ∈ aw, w.before args s = true) (hK : va_K D vwCl (ty3 cI cJ cZ) s) (hP : va_P D vwCl ws H) (hD : va_D A ws) (hS : va_S A H0 H locs) (hA : ∀ q, H0.size ≤ q → A q) (hn : ¬ n < 0) (hN : n.toNatClampNeg = N) (hbytes : N * 8 ≤ 536870912) (hcells : cells + 1 ≤ R.cells) (hslots : slots + N ≤ R.slots) (hdg : decode cc pc = .ok (.newarray .long, 2))
    (kk : ∀ (q : Nat) (w : va_W) (H1 : Heap), va_P D vwCl w H1 → va_D A w → w = ws ++ [(q, .inl (cJ, N, .inr (.inl (fun _ => 0))))] → va_S A H0 H1 locs → W p l e R s m args below meth c H1 locs (cells + 1) (slots + N) Q (F0 m (pc + 2) ls (.ref q :: rest))) : W p l e R s m args below meth c H locs cells slots Q (F0 m pc ls (.int n :: rest)) := by
  refine va_newa (atype := .long) (ty := .long) (a0 := (N, .inr (.inl (fun _ => 0)))) hx hb (hts _ arr_l) rfl hK hP hD hS hA (fun cA => rfl) hn hN hbytes hcells hslots hdg (fun q cA H1 hK1 hP1 hD1 hS1 => ?_)
  have e1 : va_RA s cA .long := (hK1.2 3 (cA, .long) rfl).2
  have e2 : va_RA s cJ .long := (hK.2 1 (cJ, .long) rfl).2
  have e3 : some cA = some cJ := Eq.trans (Eq.symm e1) e2
  cases e3
  exact kk q _ H1 hP1 hD1 rfl hS1
theorem na_z {p : Program} {l : Launch} {e : Env} {R : Room} {s : State} {m : MethodId} {args : Array Value} {below : List Frame} {meth : Method} {c : Code} {H : Heap} {locs : List Loc} {cells slots : Nat} {Q : State → Prop} {cc : ByteArray} {pc : Nat} {ls : Array Slot} {rest : List Value} {D : va_G} {cI cJ cZ : ClassId} {ws : va_W} {A : Nat → Prop} {H0 : Heap} {n : Int32} {N : Nat} (hx : p.tables.exec = Jvm.exec) (hb : c.code = cc) (hts : ∀ w ∈ aw, w.before args s = true) (hK : va_K D vwCl (ty3 cI cJ cZ) s) (hP : va_P D vwCl ws H) (hD : va_D A ws) (hS : va_S A H0 H locs) (hA : ∀ q, H0.size ≤ q → A q) (hn : ¬ n < 0) (hN : n.toNatClampNeg = N) (hbytes : N * 1 ≤ 536870912) (hcells : cells + 1 ≤ R.cells) (hslots : slots + N ≤ R.slots) (hdg : decode cc pc = .ok (.newarray .boolean, 2))
    (kk : ∀ (q : Nat) (w : va_W) (H1 : Heap), va_P D vwCl w H1 → va_D A w → w = ws ++ [(q, .inl (cZ, N, .inl (fun _ => 0)))] → va_S A H0 H1 locs → W p l e R s m args below meth c H1 locs (cells + 1) (slots + N) Q (F0 m (pc + 2) ls (.ref q :: rest))) : W p l e R s m args below meth c H locs cells slots Q (F0 m pc ls (.int n :: rest)) := by
  refine va_newa (atype := .boolean) (ty := .boolean) (a0 := (N, .inl (fun _ => 0))) hx hb (hts _ arr_z) rfl hK hP hD hS hA (fun cA => rfl) hn hN hbytes hcells hslots hdg (fun q cA H1 hK1 hP1 hD1 hS1 => ?_)
  have e1 : va_RA s cA .boolean := (hK1.2 3 (cA, .boolean) rfl).2
  have e2 : va_RA s cZ .boolean := (hK.2 2 (cZ, .boolean) rfl).2
  have e3 : some cA = some cZ := Eq.trans (Eq.symm e1) e2
  cases e3
  exact kk q _ H1 hP1 hD1 rfl hS1
theorem oi_inst : Cond.instanceMethod objectInit ∈ aw := aw_at 97 (by decide +kernel) (by decide +kernel)
theorem oi_code : Cond.code objectInit ⟨#[0xb1]⟩ 1 none ∈ aw := aw_at 98 (by decide +kernel) (by decide +kernel)
section RI
variable {p : Program} {l : Launch} {e : Env} {R : Room} {s : State} {m : MethodId} {args : Array Value} {below : List Frame} {meth : Method} {c : Code} {H : Heap} {locs : List Loc} {cells slots : Nat} {Q : State → Prop}
variable {y y0 : MethodName} {bytes cc : ByteArray} {maxL nL mc ms n index : Nat} {ret0 : Option FieldType} {rm : Room} {Qc : Array Value → State → Outcome → State → Prop} {free : Addr → Prop} {b : Addr} {As rest : List Value} {pc : Nat} {ls : Array Slot} {st : List Value} {D : va_G} {cI cJ cZ : ClassId} {ws : va_W}
theorem runIN {host : String} (X : Cx y0 cc nL ret0 D cI cJ cZ p s m args meth c) (hq : cqI y bytes maxL n) (hlk : Cond.methodLinkNest y0.cls index y host ∈ lw_tbl) (hM : Met l y (wq y bytes maxL none) rm (Pq (.ref b :: As) D cI cJ cZ ws) Qc mc ms free) (hrc : rm.cells = mc) (hrs : rm.slots = ms) (hR : rm.frames + 1 ≤ R.frames ∧ 8 + (maxL + 11) + rm.locals ≤ R.locals) (hP : va_P D vwCl ws H) (hn : As.length = n) (hsize : ls.size = nL) (hstack : st = As.reverse ++ .ref b :: rest) (hW : (rest.map fun v => v.category).sum ≤ 8) (hdg : decode cc pc = .ok (.invokespecial index, 3)) (hf : cells + mc ≤ R.cells ∧ slots + ms ≤ R.slots) :
    va_Run p l e R s m args below meth c H locs cells slots mc ms (F0 m pc ls st) rest (Qc (Value.ref b :: As).toArray) free := by
  obtain ⟨hx, hb, hr, hml, hown, hts, hlk0, hK, hN⟩ := X
  exact va_runIN ⟨hx, hb, hml, hown, hts⟩ hM ⟨cq_N hts hN hq.1 hlk hrc hrs hR, hq.2.2, hts _ hq.2.1⟩ ⟨Pq_blind, Pq_pre hP hK hN⟩ rfl hn hsize hstack (lv_room hW) hdg hf
theorem runI (X : Cx y0 cc nL ret0 D cI cJ cZ p s m args meth c) (hq : cqI y bytes maxL n) (hlk : Cond.methodLink y0.cls index y ∈ aw) (hM : Met l y (wq y bytes maxL none) rm (Pq (.ref b :: As) D cI cJ cZ ws) Qc mc ms free) (hrc : rm.cells = mc) (hrs : rm.slots = ms) (hR : rm.frames + 1 ≤ R.frames ∧ 8 + (maxL + 11) + rm.locals ≤ R.locals) (hP : va_P D vwCl ws H) (hn : As.length = n) (hsize : ls.size = nL) (hstack : st = As.reverse ++ .ref b :: rest) (hW : (rest.map fun v => v.category).sum ≤ 8) (hdg : decode cc pc = .ok (.invokespecial index, 3)) (hf : cells + mc ≤ R.cells ∧ slots + ms ≤ R.slots) :
    va_Run p l e R s m args below meth c H locs cells slots mc ms (F0 m pc ls st) rest (Qc (Value.ref b :: As).toArray) free := by
  obtain ⟨hx, hb, hr, hml, hown, hts, hlk0, hK, hN⟩ := X
  exact va_runI ⟨hx, hb, hml, hown, hts⟩ hM ⟨cq_B hts hq.1 hlk hrc hrs hR, hq.2.2, hts _ hq.2.1⟩ ⟨Pq_blind, Pq_pre hP hK hN⟩ rfl hn hsize hstack (lv_room hW) hdg hf
theorem in_call {a : Array Value} {A : Nat → Prop} {H0 : Heap} {B : va_W → Prop} (hr : va_Run p l e R s m args below meth c H locs cells slots mc ms (F0 m pc ls st) rest (Qn D A B a) A) (hS : va_S A H0 H locs)
    (kk : ∀ (ws' : va_W) (H1 : Heap) (locs1 : List Loc), va_P D vwCl ws' H1 → va_D A ws' → B ws' → va_S A H0 H1 locs1 → W p l e R s m args below meth c H1 locs1 (cells + mc) (slots + ms) Q (F0 m (pc + 3) ls rest)) : W p l e R s m args below meth c H locs cells slots Q (F0 m pc ls st) := by
  intro T hT X
  obtain ⟨v', st₀, t, T', L, h0, X', hL, e1, e2, ⟨hv, ⟨ws', hP, hD, hB⟩, hz, hk⟩, sx⟩ := hr T hT X
  cases hv
  rw [h0] at hz hk
  obtain ⟨t2, a1, b1⟩ := kk ws' T'.heap (locs ++ L) (by rw [e1]; exact hP) hD hB
    ⟨Nat.le_trans hS.1 (by rw [e1]; exact hz), fun q h1 h2 => by rw [e1, hk q (Nat.lt_of_lt_of_le h1 hS.1) h2]; exact hS.2.1 q h1 h2, fun q hq => by
      rcases List.mem_append.mp hq with h | h
      · exact hS.2.2 q h
      · exact hL q h⟩ T' rfl X'
  exact ⟨t2, sx t2 a1, b1⟩
theorem rn_v {A : Nat → Prop} {H : Heap} {locs : List Loc} {B : va_W → Prop} (X : Cx y0 cc nL none D cI cJ cZ p s m args meth c) (hS : va_S A s.heap H locs) (hP : va_P D vwCl ws H) (hD : va_D A ws) (hB : B ws) (hdg : decode cc pc = .ok (.return_, 1)) : W p l e R s m args below meth c H locs cells slots (MQ below (Qn D A B) args s cells slots A) (F0 m pc ls []) := W.vret X.1 X.2.1 X.2.2.1 (fun t ht _ => ⟨rfl, ⟨ws, by rw [ht]; exact hP, hD, hB⟩, hS.F ht⟩) hS.2.2 hdg X.2.2.2.2.2.2.1
end RI
theorem lk_X6_3 : Cond.methodLink RX6 3 objectInit ∈ aw := aw_at 104 (by decide +kernel) (by decide +kernel)
theorem cq_X6_init : cqI yX6_init cX6_init 1 0 := ⟨⟨aw_at 103 (by decide +kernel) (by decide +kernel), aw_at 79 (by decide +kernel) (by decide +kernel), by decide +kernel, by decide +kernel, by decide +kernel⟩, aw_at 102 (by decide +kernel) (by decide +kernel), rfl⟩
def rm_X6_init : Room := { frames := 1, cells := 1, slots := 72, locals := 12 }
set_option maxHeartbeats 4000000 in
set_option maxRecDepth 100000 in
theorem c_X6_init (l : Launch) (D : va_G) (cI cJ cZ : ClassId) (ws0 : va_W) (k q0 base : Nat) (hn : ws0.length = k + 1) (z0 : ws0[k]? = some (q0, .inr (6, [.null, .int 0]))) (hD : va_D (fun q => base ≤ q) ws0) : Met l yX6_init (wq yX6_init cX6_init 1 none) rm_X6_init (Pq [.ref q0] D cI cJ cZ ws0) (Qn D (fun q => base ≤ q) (fun w => ∃ q1 : Nat, w.length = k + 2 ∧ (∀ j : Nat, j < k → w[j]? = ws0[j]?) ∧ w[k]? = some (q0, .inr (6, [.ref q1, .int 0])) ∧ w[k + 1]? = some (q1, .inl (cI, 72, .inl (fun _ => 0))))) 1 72 (fun q => base ≤ q) := by
  refine mq_of (by decide) (Nat.le_of_ble_eq_true rfl) (fun p e s m args below meth c ls Q hQ X hin0 hP hl => ?_)
  obtain ⟨hx, hb, hr, hml, hown, hts, hlk, hK, hN⟩ := id X
  have hown : s.vm.findClass RX6 = some m.cls := hown
  have hin : meth.name = "<init>" := hin0 rfl
  have hl : lv_has ls 1 [(0, .ref q0)] := hl
  have hA : ∀ q : Nat, s.heap.size ≤ q → (fun q => base ≤ q) q := ba_le hP hD z0
  have hS : va_S (fun q => base ≤ q) s.heap s.heap [] := va_S.rf
  have hk : ∀ j : Nat, j < k → ws0[j]? = ws0[j]? := fun _ _ => rfl
  refine lv_aload_n hx hb dX6_init_0 rfl (lv_at hl 0 rfl) ?_
  refine W.objInit hx hb hown (hts _ lk_X6_3) (hts _ oi_inst) (hts _ oi_code) rfl (by rw [hml]; exact hl.1) rfl dX6_init_1 (Nat.le_of_ble_eq_true rfl) (Nat.le_of_ble_eq_true rfl) ?_
  refine W.eq (g2 := F0 m 4 ls []) rfl ?_
  refine lv_aload_n hx hb dX6_init_4 rfl (lv_at hl 0 rfl) ?_
  refine lv_bipush (v := (72 : Int32)) hx hb dX6_init_5 (by decide) ?_
  refine na_i (N := 72) hx hb hts hK hP hD hS hA (by decide) (by decide) (Nat.le_of_ble_eq_true rfl) (Nat.le_of_ble_eq_true rfl) (Nat.le_of_ble_eq_true rfl) dX6_init_7 (fun q1 w1 H hP hD hw hS => ?_)
  have z1 : w1[k + 1]? = some (q1, .inl (cI, 72, .inl (fun _ => 0))) := ap_new hw hn
  replace z0 := (ap_old hw hn (Nat.lt_add_of_pos_right (by decide))).trans z0
  replace hk : ∀ j : Nat, j < k → w1[j]? = ws0[j]? := fun j hj => (ap_old hw hn (Nat.lt_of_lt_of_le hj (Nat.le_add_right k _))).trans (hk j hj)
  replace hn : w1.length = k + 2 := ap_len hw hn
  clear hw
  refine va_putF (ci := 6) (v := .ref q1) (ty := (.array .int)) (C := RX6) (T := TX6) (N := 2) hx hb hts inqX6 tyX6 tyX6_ok nmX6 hown hK hP hD hS (k) z0 rfl 0 (by decide) (hts _ fl_X6_9) (fun _ h9 => h9) rfl hin rfl (by decide +kernel) rfl rfl (Nat.le_of_ble_eq_true rfl) dX6_init_9 (fun H locs hP hD hS => ?_)
  obtain ⟨w2, hw⟩ : ∃ x, x = w1.set k (q0, .inr (6, [.ref q1, .int 0])) := ⟨_, rfl⟩
  replace hP : va_P D vwCl w2 H := by rw [hw]; exact hP
  replace hD : va_D (fun q => base ≤ q) w2 := by rw [hw]; exact hD
  replace z1 : w2[k + 1]? = some (q1, .inl (cI, 72, .inl (fun _ => 0))) := by rw [hw]; exact st_ne (Nat.ne_of_gt (Nat.lt_add_of_pos_right (by decide))) z1
  replace hk : ∀ j : Nat, j < k → w2[j]? = ws0[j]? := fun j hj => by rw [hw]; exact st_ne (Nat.ne_of_lt hj) (hk j hj)
  replace z0 : w2[k]? = some (q0, .inr (6, [.ref q1, .int 0])) := by rw [hw]; exact st_eq z0
  replace hn : w2.length = k + 2 := by rw [hw, List.length_set]; exact hn
  clear hw
  refine W.widen (k := 1) (n := 72) (Nat.le_of_ble_eq_true rfl) (Nat.le_of_ble_eq_true rfl) ?_
  rw [hQ]
  exact rn_v X hS hP hD ⟨q1, hn, hk, z0, z1⟩ dX6_init_12
theorem lk_X2_3 : Cond.methodLink RX2 3 objectInit ∈ aw := aw_at 126 (by decide +kernel) (by decide +kernel)
theorem cq_X2_init : cqI yX2_init cX2_init 1 0 := ⟨⟨aw_at 125 (by decide +kernel) (by decide +kernel), aw_at 81 (by decide +kernel) (by decide +kernel), by decide +kernel, by decide +kernel, by decide +kernel⟩, aw_at 124 (by decide +kernel) (by decide +kernel), rfl⟩
def rm_X2_init : Room := { frames := 1, cells := 2, slots := 24, locals := 12 }
set_option maxHeartbeats 4000000 in
set_option maxRecDepth 100000 in
theorem c_X2_init (l : Launch) (D : va_G) (cI cJ cZ : ClassId) (ws0 : va_W) (k q0 base : Nat) (hn : ws0.length = k + 1) (z0 : ws0[k]? = some (q0, .inr (2, [.null, .null, .long 0, .int 0, .int 0, .int 0, .int 0]))) (hD : va_D (fun q => base ≤ q) ws0) : Met l yX2_init (wq yX2_init cX2_init 1 none) rm_X2_init (Pq [.ref q0] D cI cJ cZ ws0) (Qn D (fun q => base ≤ q) (fun w => ∃ q1 q2 : Nat, w.length = k + 3 ∧ (∀ j : Nat, j < k → w[j]? = ws0[j]?) ∧ w[k]? = some (q0, .inr (2, [.ref q1, .ref q2, .long 0, .int 0, .int 0, .int 0, .int 0])) ∧ w[k + 1]? = some (q1, .inl (cI, 12, .inl (fun _ => 0))) ∧ w[k + 2]? = some (q2, .inl (cI, 12, .inl (fun _ => 0))))) 2 24 (fun q => base ≤ q) := by
  refine mq_of (by decide) (Nat.le_of_ble_eq_true rfl) (fun p e s m args below meth c ls Q hQ X hin0 hP hl => ?_)
  obtain ⟨hx, hb, hr, hml, hown, hts, hlk, hK, hN⟩ := id X
  have hown : s.vm.findClass RX2 = some m.cls := hown
  have hin : meth.name = "<init>" := hin0 rfl
  have hl : lv_has ls 1 [(0, .ref q0)] := hl
  have hA : ∀ q : Nat, s.heap.size ≤ q → (fun q => base ≤ q) q := ba_le hP hD z0
  have hS : va_S (fun q => base ≤ q) s.heap s.heap [] := va_S.rf
  have hk : ∀ j : Nat, j < k → ws0[j]? = ws0[j]? := fun _ _ => rfl
  refine lv_aload_n hx hb dX2_init_0 rfl (lv_at hl 0 rfl) ?_
  refine W.objInit hx hb hown (hts _ lk_X2_3) (hts _ oi_inst) (hts _ oi_code) rfl (by rw [hml]; exact hl.1) rfl dX2_init_1 (Nat.le_of_ble_eq_true rfl) (Nat.le_of_ble_eq_true rfl) ?_
  refine W.eq (g2 := F0 m 4 ls []) rfl ?_
  refine lv_aload_n hx hb dX2_init_4 rfl (lv_at hl 0 rfl) ?_
  refine lv_bipush (v := (12 : Int32)) hx hb dX2_init_5 (by decide) ?_
  refine na_i (N := 12) hx hb hts hK hP hD hS hA (by decide) (by decide) (Nat.le_of_ble_eq_true rfl) (Nat.le_of_ble_eq_true rfl) (Nat.le_of_ble_eq_true rfl) dX2_init_7 (fun q1 w1 H hP hD hw hS => ?_)
  have z1 : w1[k + 1]? = some (q1, .inl (cI, 12, .inl (fun _ => 0))) := ap_new hw hn
  replace z0 := (ap_old hw hn (Nat.lt_add_of_pos_right (by decide))).trans z0
  replace hk : ∀ j : Nat, j < k → w1[j]? = ws0[j]? := fun j hj => (ap_old hw hn (Nat.lt_of_lt_of_le hj (Nat.le_add_right k _))).trans (hk j hj)
  replace hn : w1.length = k + 2 := ap_len hw hn
  clear hw
  refine va_putF (ci := 2) (v := .ref q1) (ty := (.array .int)) (C := RX2) (T := TX2) (N := 7) hx hb hts inqX2 tyX2 tyX2_ok nmX2 hown hK hP hD hS (k) z0 rfl 0 (by decide) (hts _ fl_X2_9) (fun _ h9 => h9) rfl hin rfl (by decide +kernel) rfl rfl (Nat.le_of_ble_eq_true rfl) dX2_init_9 (fun H locs hP hD hS => ?_)
  obtain ⟨w2, hw⟩ : ∃ x, x = w1.set k (q0, .inr (2, [.ref q1, .null, .long 0, .int 0, .int 0, .int 0, .int 0])) := ⟨_, rfl⟩
  replace hP : va_P D vwCl w2 H := by rw [hw]; exact hP
  replace hD : va_D (fun q => base ≤ q) w2 := by rw [hw]; exact hD
  replace z1 : w2[k + 1]? = some (q1, .inl (cI, 12, .inl (fun _ => 0))) := by rw [hw]; exact st_ne (Nat.ne_of_gt (Nat.lt_add_of_pos_right (by decide))) z1
  replace hk : ∀ j : Nat, j < k → w2[j]? = ws0[j]? := fun j hj => by rw [hw]; exact st_ne (Nat.ne_of_lt hj) (hk j hj)
  replace z0 : w2[k]? = some (q0, .inr (2, [.ref q1, .null, .long 0, .int 0, .int 0, .int 0, .int 0])) := by rw [hw]; exact st_eq z0
  replace hn : w2.length = k + 2 := by rw [hw, List.length_set]; exact hn
  clear hw
  refine lv_aload_n hx hb dX2_init_12 rfl (lv_at hl 0 rfl) ?_
  refine lv_bipush (v := (12 : Int32)) hx hb dX2_init_13 (by decide) ?_
  refine na_i (N := 12) hx hb hts hK hP hD hS hA (by decide) (by decide) (Nat.le_of_ble_eq_true rfl) (Nat.le_of_ble_eq_true rfl) (Nat.le_of_ble_eq_true rfl) dX2_init_15 (fun q2 w3 H hP hD hw hS => ?_)
  have z2 : w3[k + 2]? = some (q2, .inl (cI, 12, .inl (fun _ => 0))) := ap_new hw hn
  replace z0 := (ap_old hw hn (Nat.lt_add_of_pos_right (by decide))).trans z0
  replace z1 := (ap_old hw hn (Nat.add_lt_add_left (by decide) k)).trans z1
  replace hk : ∀ j : Nat, j < k → w3[j]? = ws0[j]? := fun j hj => (ap_old hw hn (Nat.lt_of_lt_of_le hj (Nat.le_add_right k _))).trans (hk j hj)
  replace hn : w3.length = k + 3 := ap_len hw hn
  clear hw
  refine va_putF (ci := 2) (v := .ref q2) (ty := (.array .int)) (C := RX2) (T := TX2) (N := 7) hx hb hts inqX2 tyX2 tyX2_ok nmX2 hown hK hP hD hS (k) z0 rfl 1 (by decide) (hts _ fl_X2_15) (fun _ h9 => h9) rfl hin rfl (by decide +kernel) rfl rfl (Nat.le_of_ble_eq_true rfl) dX2_init_17 (fun H locs hP hD hS => ?_)
  obtain ⟨w4, hw⟩ : ∃ x, x = w3.set k (q0, .inr (2, [.ref q1, .ref q2, .long 0, .int 0, .int 0, .int 0, .int 0])) := ⟨_, rfl⟩
  replace hP : va_P D vwCl w4 H := by rw [hw]; exact hP
  replace hD : va_D (fun q => base ≤ q) w4 := by rw [hw]; exact hD
  replace z1 : w4[k + 1]? = some (q1, .inl (cI, 12, .inl (fun _ => 0))) := by rw [hw]; exact st_ne (Nat.ne_of_gt (Nat.lt_add_of_pos_right (by decide))) z1
  replace z2 : w4[k + 2]? = some (q2, .inl (cI, 12, .inl (fun _ => 0))) := by rw [hw]; exact st_ne (Nat.ne_of_gt (Nat.lt_add_of_pos_right (by decide))) z2
  replace hk : ∀ j : Nat, j < k → w4[j]? = ws0[j]? := fun j hj => by rw [hw]; exact st_ne (Nat.ne_of_lt hj) (hk j hj)
  replace z0 : w4[k]? = some (q0, .inr (2, [.ref q1, .ref q2, .long 0, .int 0, .int 0, .int 0, .int 0])) := by rw [hw]; exact st_eq z0
  replace hn : w4.length = k + 3 := by rw [hw, List.length_set]; exact hn
  clear hw
  refine W.widen (k := 2) (n := 24) (Nat.le_of_ble_eq_true rfl) (Nat.le_of_ble_eq_true rfl) ?_
  rw [hQ]
  exact rn_v X hS hP hD ⟨q1, q2, hn, hk, z0, z1, z2⟩ dX2_init_20
theorem lk_X3_3 : Cond.methodLink RX3 3 objectInit ∈ aw := aw_at 120 (by decide +kernel) (by decide +kernel)
theorem cl_X3_30 : Cond.classLink RX3 30 RX2 ∈ aw := aw_at 121 (by decide +kernel) (by decide +kernel)
theorem ib_X2 : Cond.instantiable RX2 7 ∈ aw := aw_at 122 (by decide +kernel) (by decide +kernel)
theorem ii_X2 : Cond.initialized RX2 ∈ aw := aw_at 81 (by decide +kernel) (by decide +kernel)
theorem lk_X3_32 : Cond.methodLinkNest RX3 32 yX2_init "AHandGoesUp" ∈ lw_tbl := List.mem_of_getElem? (i := 123) (by decide +kernel)
theorem cq_X3_init : cqI yX3_init cX3_init 1 0 := ⟨⟨aw_at 119 (by decide +kernel) (by decide +kernel), aw_at 80 (by decide +kernel) (by decide +kernel), by decide +kernel, by decide +kernel, by decide +kernel⟩, aw_at 118 (by decide +kernel) (by decide +kernel), rfl⟩
def rm_X3_init : Room := { frames := 2, cells := 9, slots := 103, locals := 32 }
set_option maxHeartbeats 4000000 in
set_option maxRecDepth 100000 in
theorem c_X3_init (l : Launch) (D : va_G) (cI cJ cZ : ClassId) (ws0 : va_W) (k q0 base : Nat) (hn : ws0.length = k + 1) (z0 : ws0[k]? = some (q0, .inr (3, [.null, .null, .null, .null, .null, .null, .null, .int 0, .int 0]))) (hD : va_D (fun q => base ≤ q) ws0) : Met l yX3_init (wq yX3_init cX3_init 1 none) rm_X3_init (Pq [.ref q0] D cI cJ cZ ws0) (Qn D (fun q => base ≤ q) (fun w => ∃ q1 q2 q3 q4 q5 q6 q7 q8 q9 : Nat, w.length = k + 10 ∧ (∀ j : Nat, j < k → w[j]? = ws0[j]?) ∧ w[k]? = some (q0, .inr (3, [.ref q1, .ref q2, .ref q3, .ref q4, .ref q5, .ref q6, .ref q7, .int 0, .int 5])) ∧ w[k + 1]? = some (q1, .inl (cI, 12, .inl (fun _ => 0))) ∧ w[k + 2]? = some (q2, .inl (cI, 12, .inl (fun _ => 0))) ∧ w[k + 3]? = some (q3, .inl (cI, 12, .inl (fun _ => 0))) ∧ w[k + 4]? = some (q4, .inl (cI, 12, .inl (fun _ => 0))) ∧ w[k + 5]? = some (q5, .inl (cI, 12, .inl (fun _ => 0))) ∧ w[k + 6]? = some (q6, .inl (cI, 12, .inl (fun _ => 0))) ∧ w[k + 7]? = some (q7, .inr (2, [.ref q8, .ref q9, .long 0, .int 0, .int 0, .int 0, .int 0])) ∧ w[k + 8]? = some (q8, .inl (cI, 12, .inl (fun _ => 0))) ∧ w[k + 9]? = some (q9, .inl (cI, 12, .inl (fun _ => 0))))) 9 103 (fun q => base ≤ q) := by
  refine mq_of (by decide) (Nat.le_of_ble_eq_true rfl) (fun p e s m args below meth c ls Q hQ X hin0 hP hl => ?_)
  obtain ⟨hx, hb, hr, hml, hown, hts, hlk, hK, hN⟩ := id X
  have hown : s.vm.findClass RX3 = some m.cls := hown
  have hin : meth.name = "<init>" := hin0 rfl
  have hl : lv_has ls 1 [(0, .ref q0)] := hl
  have hA : ∀ q : Nat, s.heap.size ≤ q → (fun q => base ≤ q) q := ba_le hP hD z0
  have hS : va_S (fun q => base ≤ q) s.heap s.heap [] := va_S.rf
  have hk : ∀ j : Nat, j < k → ws0[j]? = ws0[j]? := fun _ _ => rfl
  refine lv_aload_n hx hb dX3_init_0 rfl (lv_at hl 0 rfl) ?_
  refine W.objInit hx hb hown (hts _ lk_X3_3) (hts _ oi_inst) (hts _ oi_code) rfl (by rw [hml]; exact hl.1) rfl dX3_init_1 (Nat.le_of_ble_eq_true rfl) (Nat.le_of_ble_eq_true rfl) ?_
  refine W.eq (g2 := F0 m 4 ls []) rfl ?_
  refine lv_aload_n hx hb dX3_init_4 rfl (lv_at hl 0 rfl) ?_
  refine lv_bipush (v := (12 : Int32)) hx hb dX3_init_5 (by decide) ?_
  refine na_i (N := 12) hx hb hts hK hP hD hS hA (by decide) (by decide) (Nat.le_of_ble_eq_true rfl) (Nat.le_of_ble_eq_true rfl) (Nat.le_of_ble_eq_true rfl) dX3_init_7 (fun q1 w1 H hP hD hw hS => ?_)
  have z1 : w1[k + 1]? = some (q1, .inl (cI, 12, .inl (fun _ => 0))) := ap_new hw hn
  replace z0 := (ap_old hw hn (Nat.lt_add_of_pos_right (by decide))).trans z0
  replace hk : ∀ j : Nat, j < k → w1[j]? = ws0[j]? := fun j hj => (ap_old hw hn (Nat.lt_of_lt_of_le hj (Nat.le_add_right k _))).trans (hk j hj)
  replace hn : w1.length = k + 2 := ap_len hw hn
  clear hw
  refine va_putF (ci := 3) (v := .ref q1) (ty := (.array .int)) (C := RX3) (T := TX3) (N := 9) hx hb hts inqX3 tyX3 tyX3_ok nmX3 hown hK hP hD hS (k) z0 rfl 0 (by decide) (hts _ fl_X3_9) (fun _ h9 => h9) rfl hin rfl (by decide +kernel) rfl rfl (Nat.le_of_ble_eq_true rfl) dX3_init_9 (fun H locs hP hD hS => ?_)
  obtain ⟨w2, hw⟩ : ∃ x, x = w1.set k (q0, .inr (3, [.ref q1, .null, .null, .null, .null, .null, .null, .int 0, .int 0])) := ⟨_, rfl⟩
  replace hP : va_P D vwCl w2 H := by rw [hw]; exact hP
  replace hD : va_D (fun q => base ≤ q) w2 := by rw [hw]; exact hD
  replace z1 : w2[k + 1]? = some (q1, .inl (cI, 12, .inl (fun _ => 0))) := by rw [hw]; exact st_ne (Nat.ne_of_gt (Nat.lt_add_of_pos_right (by decide))) z1
  replace hk : ∀ j : Nat, j < k → w2[j]? = ws0[j]? := fun j hj => by rw [hw]; exact st_ne (Nat.ne_of_lt hj) (hk j hj)
  replace z0 : w2[k]? = some (q0, .inr (3, [.ref q1, .null, .null, .null, .null, .null, .null, .int 0, .int 0])) := by rw [hw]; exact st_eq z0
  replace hn : w2.length = k + 2 := by rw [hw, List.length_set]; exact hn
  clear hw
  refine lv_aload_n hx hb dX3_init_12 rfl (lv_at hl 0 rfl) ?_
  refine lv_bipush (v := (12 : Int32)) hx hb dX3_init_13 (by decide) ?_
  refine na_i (N := 12) hx hb hts hK hP hD hS hA (by decide) (by decide) (Nat.le_of_ble_eq_true rfl) (Nat.le_of_ble_eq_true rfl) (Nat.le_of_ble_eq_true rfl) dX3_init_15 (fun q2 w3 H hP hD hw hS => ?_)
  have z2 : w3[k + 2]? = some (q2, .inl (cI, 12, .inl (fun _ => 0))) := ap_new hw hn
  replace z0 := (ap_old hw hn (Nat.lt_add_of_pos_right (by decide))).trans z0
  replace z1 := (ap_old hw hn (Nat.add_lt_add_left (by decide) k)).trans z1
  replace hk : ∀ j : Nat, j < k → w3[j]? = ws0[j]? := fun j hj => (ap_old hw hn (Nat.lt_of_lt_of_le hj (Nat.le_add_right k _))).trans (hk j hj)
  replace hn : w3.length = k + 3 := ap_len hw hn
  clear hw
  refine va_putF (ci := 3) (v := .ref q2) (ty := (.array .int)) (C := RX3) (T := TX3) (N := 9) hx hb hts inqX3 tyX3 tyX3_ok nmX3 hown hK hP hD hS (k) z0 rfl 1 (by decide) (hts _ fl_X3_15) (fun _ h9 => h9) rfl hin rfl (by decide +kernel) rfl rfl (Nat.le_of_ble_eq_true rfl) dX3_init_17 (fun H locs hP hD hS => ?_)
  obtain ⟨w4, hw⟩ : ∃ x, x = w3.set k (q0, .inr (3, [.ref q1, .ref q2, .null, .null, .null, .null, .null, .int 0, .int 0])) := ⟨_, rfl⟩
  replace hP : va_P D vwCl w4 H := by rw [hw]; exact hP
  replace hD : va_D (fun q => base ≤ q) w4 := by rw [hw]; exact hD
  replace z1 : w4[k + 1]? = some (q1, .inl (cI, 12, .inl (fun _ => 0))) := by rw [hw]; exact st_ne (Nat.ne_of_gt (Nat.lt_add_of_pos_right (by decide))) z1
  replace z2 : w4[k + 2]? = some (q2, .inl (cI, 12, .inl (fun _ => 0))) := by rw [hw]; exact st_ne (Nat.ne_of_gt (Nat.lt_add_of_pos_right (by decide))) z2
  replace hk : ∀ j : Nat, j < k → w4[j]? = ws0[j]? := fun j hj => by rw [hw]; exact st_ne (Nat.ne_of_lt hj) (hk j hj)
  replace z0 : w4[k]? = some (q0, .inr (3, [.ref q1, .ref q2, .null, .null, .null, .null, .null, .int 0, .int 0])) := by rw [hw]; exact st_eq z0
  replace hn : w4.length = k + 3 := by rw [hw, List.length_set]; exact hn
  clear hw
  refine lv_aload_n hx hb dX3_init_20 rfl (lv_at hl 0 rfl) ?_
  refine lv_bipush (v := (12 : Int32)) hx hb dX3_init_21 (by decide) ?_
  refine na_i (N := 12) hx hb hts hK hP hD hS hA (by decide) (by decide) (Nat.le_of_ble_eq_true rfl) (Nat.le_of_ble_eq_true rfl) (Nat.le_of_ble_eq_true rfl) dX3_init_23 (fun q3 w5 H hP hD hw hS => ?_)
  have z3 : w5[k + 3]? = some (q3, .inl (cI, 12, .inl (fun _ => 0))) := ap_new hw hn
  replace z0 := (ap_old hw hn (Nat.lt_add_of_pos_right (by decide))).trans z0
  replace z1 := (ap_old hw hn (Nat.add_lt_add_left (by decide) k)).trans z1
  replace z2 := (ap_old hw hn (Nat.add_lt_add_left (by decide) k)).trans z2
  replace hk : ∀ j : Nat, j < k → w5[j]? = ws0[j]? := fun j hj => (ap_old hw hn (Nat.lt_of_lt_of_le hj (Nat.le_add_right k _))).trans (hk j hj)
  replace hn : w5.length = k + 4 := ap_len hw hn
  clear hw
  refine va_putF (ci := 3) (v := .ref q3) (ty := (.array .int)) (C := RX3) (T := TX3) (N := 9) hx hb hts inqX3 tyX3 tyX3_ok nmX3 hown hK hP hD hS (k) z0 rfl 2 (by decide) (hts _ fl_X3_18) (fun _ h9 => h9) rfl hin rfl (by decide +kernel) rfl rfl (Nat.le_of_ble_eq_true rfl) dX3_init_25 (fun H locs hP hD hS => ?_)
  obtain ⟨w6, hw⟩ : ∃ x, x = w5.set k (q0, .inr (3, [.ref q1, .ref q2, .ref q3, .null, .null, .null, .null, .int 0, .int 0])) := ⟨_, rfl⟩
  replace hP : va_P D vwCl w6 H := by rw [hw]; exact hP
  replace hD : va_D (fun q => base ≤ q) w6 := by rw [hw]; exact hD
  replace z1 : w6[k + 1]? = some (q1, .inl (cI, 12, .inl (fun _ => 0))) := by rw [hw]; exact st_ne (Nat.ne_of_gt (Nat.lt_add_of_pos_right (by decide))) z1
  replace z2 : w6[k + 2]? = some (q2, .inl (cI, 12, .inl (fun _ => 0))) := by rw [hw]; exact st_ne (Nat.ne_of_gt (Nat.lt_add_of_pos_right (by decide))) z2
  replace z3 : w6[k + 3]? = some (q3, .inl (cI, 12, .inl (fun _ => 0))) := by rw [hw]; exact st_ne (Nat.ne_of_gt (Nat.lt_add_of_pos_right (by decide))) z3
  replace hk : ∀ j : Nat, j < k → w6[j]? = ws0[j]? := fun j hj => by rw [hw]; exact st_ne (Nat.ne_of_lt hj) (hk j hj)
  replace z0 : w6[k]? = some (q0, .inr (3, [.ref q1, .ref q2, .ref q3, .null, .null, .null, .null, .int 0, .int 0])) := by rw [hw]; exact st_eq z0
  replace hn : w6.length = k + 4 := by rw [hw, List.length_set]; exact hn
  clear hw
  refine lv_aload_n hx hb dX3_init_28 rfl (lv_at hl 0 rfl) ?_
  refine lv_bipush (v := (12 : Int32)) hx hb dX3_init_29 (by decide) ?_
  refine na_i (N := 12) hx hb hts hK hP hD hS hA (by decide) (by decide) (Nat.le_of_ble_eq_true rfl) (Nat.le_of_ble_eq_true rfl) (Nat.le_of_ble_eq_true rfl) dX3_init_31 (fun q4 w7 H hP hD hw hS => ?_)
  have z4 : w7[k + 4]? = some (q4, .inl (cI, 12, .inl (fun _ => 0))) := ap_new hw hn
  replace z0 := (ap_old hw hn (Nat.lt_add_of_pos_right (by decide))).trans z0
  replace z1 := (ap_old hw hn (Nat.add_lt_add_left (by decide) k)).trans z1
  replace z2 := (ap_old hw hn (Nat.add_lt_add_left (by decide) k)).trans z2
  replace z3 := (ap_old hw hn (Nat.add_lt_add_left (by decide) k)).trans z3
  replace hk : ∀ j : Nat, j < k → w7[j]? = ws0[j]? := fun j hj => (ap_old hw hn (Nat.lt_of_lt_of_le hj (Nat.le_add_right k _))).trans (hk j hj)
  replace hn : w7.length = k + 5 := ap_len hw hn
  clear hw
  refine va_putF (ci := 3) (v := .ref q4) (ty := (.array .int)) (C := RX3) (T := TX3) (N := 9) hx hb hts inqX3 tyX3 tyX3_ok nmX3 hown hK hP hD hS (k) z0 rfl 3 (by decide) (hts _ fl_X3_21) (fun _ h9 => h9) rfl hin rfl (by decide +kernel) rfl rfl (Nat.le_of_ble_eq_true rfl) dX3_init_33 (fun H locs hP hD hS => ?_)
  obtain ⟨w8, hw⟩ : ∃ x, x = w7.set k (q0, .inr (3, [.ref q1, .ref q2, .ref q3, .ref q4, .null, .null, .null, .int 0, .int 0])) := ⟨_, rfl⟩
  replace hP : va_P D vwCl w8 H := by rw [hw]; exact hP
  replace hD : va_D (fun q => base ≤ q) w8 := by rw [hw]; exact hD
  replace z1 : w8[k + 1]? = some (q1, .inl (cI, 12, .inl (fun _ => 0))) := by rw [hw]; exact st_ne (Nat.ne_of_gt (Nat.lt_add_of_pos_right (by decide))) z1
  replace z2 : w8[k + 2]? = some (q2, .inl (cI, 12, .inl (fun _ => 0))) := by rw [hw]; exact st_ne (Nat.ne_of_gt (Nat.lt_add_of_pos_right (by decide))) z2
  replace z3 : w8[k + 3]? = some (q3, .inl (cI, 12, .inl (fun _ => 0))) := by rw [hw]; exact st_ne (Nat.ne_of_gt (Nat.lt_add_of_pos_right (by decide))) z3
  replace z4 : w8[k + 4]? = some (q4, .inl (cI, 12, .inl (fun _ => 0))) := by rw [hw]; exact st_ne (Nat.ne_of_gt (Nat.lt_add_of_pos_right (by decide))) z4
  replace hk : ∀ j : Nat, j < k → w8[j]? = ws0[j]? := fun j hj => by rw [hw]; exact st_ne (Nat.ne_of_lt hj) (hk j hj)
  replace z0 : w8[k]? = some (q0, .inr (3, [.ref q1, .ref q2, .ref q3, .ref q4, .null, .null, .null, .int 0, .int 0])) := by rw [hw]; exact st_eq z0
  replace hn : w8.length = k + 5 := by rw [hw, List.length_set]; exact hn
  clear hw
  refine lv_aload_n hx hb dX3_init_36 rfl (lv_at hl 0 rfl) ?_
  refine lv_bipush (v := (12 : Int32)) hx hb dX3_init_37 (by decide) ?_
  refine na_i (N := 12) hx hb hts hK hP hD hS hA (by decide) (by decide) (Nat.le_of_ble_eq_true rfl) (Nat.le_of_ble_eq_true rfl) (Nat.le_of_ble_eq_true rfl) dX3_init_39 (fun q5 w9 H hP hD hw hS => ?_)
  have z5 : w9[k + 5]? = some (q5, .inl (cI, 12, .inl (fun _ => 0))) := ap_new hw hn
  replace z0 := (ap_old hw hn (Nat.lt_add_of_pos_right (by decide))).trans z0
  replace z1 := (ap_old hw hn (Nat.add_lt_add_left (by decide) k)).trans z1
  replace z2 := (ap_old hw hn (Nat.add_lt_add_left (by decide) k)).trans z2
  replace z3 := (ap_old hw hn (Nat.add_lt_add_left (by decide) k)).trans z3
  replace z4 := (ap_old hw hn (Nat.add_lt_add_left (by decide) k)).trans z4
  replace hk : ∀ j : Nat, j < k → w9[j]? = ws0[j]? := fun j hj => (ap_old hw hn (Nat.lt_of_lt_of_le hj (Nat.le_add_right k _))).trans (hk j hj)
  replace hn : w9.length = k + 6 := ap_len hw hn
  clear hw
  refine va_putF (ci := 3) (v := .ref q5) (ty := (.array .int)) (C := RX3) (T := TX3) (N := 9) hx hb hts inqX3 tyX3 tyX3_ok nmX3 hown hK hP hD hS (k) z0 rfl 4 (by decide) (hts _ fl_X3_24) (fun _ h9 => h9) rfl hin rfl (by decide +kernel) rfl rfl (Nat.le_of_ble_eq_true rfl) dX3_init_41 (fun H locs hP hD hS => ?_)
  obtain ⟨w10, hw⟩ : ∃ x, x = w9.set k (q0, .inr (3, [.ref q1, .ref q2, .ref q3, .ref q4, .ref q5, .null, .null, .int 0, .int 0])) := ⟨_, rfl⟩
  replace hP : va_P D vwCl w10 H := by rw [hw]; exact hP
  replace hD : va_D (fun q => base ≤ q) w10 := by rw [hw]; exact hD
  replace z1 : w10[k + 1]? = some (q1, .inl (cI, 12, .inl (fun _ => 0))) := by rw [hw]; exact st_ne (Nat.ne_of_gt (Nat.lt_add_of_pos_right (by decide))) z1
  replace z2 : w10[k + 2]? = some (q2, .inl (cI, 12, .inl (fun _ => 0))) := by rw [hw]; exact st_ne (Nat.ne_of_gt (Nat.lt_add_of_pos_right (by decide))) z2
  replace z3 : w10[k + 3]? = some (q3, .inl (cI, 12, .inl (fun _ => 0))) := by rw [hw]; exact st_ne (Nat.ne_of_gt (Nat.lt_add_of_pos_right (by decide))) z3
  replace z4 : w10[k + 4]? = some (q4, .inl (cI, 12, .inl (fun _ => 0))) := by rw [hw]; exact st_ne (Nat.ne_of_gt (Nat.lt_add_of_pos_right (by decide))) z4
  replace z5 : w10[k + 5]? = some (q5, .inl (cI, 12, .inl (fun _ => 0))) := by rw [hw]; exact st_ne (Nat.ne_of_gt (Nat.lt_add_of_pos_right (by decide))) z5
  replace hk : ∀ j : Nat, j < k → w10[j]? = ws0[j]? := fun j hj => by rw [hw]; exact st_ne (Nat.ne_of_lt hj) (hk j hj)
  replace z0 : w10[k]? = some (q0, .inr (3, [.ref q1, .ref q2, .ref q3, .ref q4, .ref q5, .null, .null, .int 0, .int 0])) := by rw [hw]; exact st_eq z0
  replace hn : w10.length = k + 6 := by rw [hw, List.length_set]; exact hn
  clear hw
  refine lv_aload_n hx hb dX3_init_44 rfl (lv_at hl 0 rfl) ?_
  refine lv_bipush (v := (12 : Int32)) hx hb dX3_init_45 (by decide) ?_
  refine na_i (N := 12) hx hb hts hK hP hD hS hA (by decide) (by decide) (Nat.le_of_ble_eq_true rfl) (Nat.le_of_ble_eq_true rfl) (Nat.le_of_ble_eq_true rfl) dX3_init_47 (fun q6 w11 H hP hD hw hS => ?_)
  have z6 : w11[k + 6]? = some (q6, .inl (cI, 12, .inl (fun _ => 0))) := ap_new hw hn
  replace z0 := (ap_old hw hn (Nat.lt_add_of_pos_right (by decide))).trans z0
  replace z1 := (ap_old hw hn (Nat.add_lt_add_left (by decide) k)).trans z1
  replace z2 := (ap_old hw hn (Nat.add_lt_add_left (by decide) k)).trans z2
  replace z3 := (ap_old hw hn (Nat.add_lt_add_left (by decide) k)).trans z3
  replace z4 := (ap_old hw hn (Nat.add_lt_add_left (by decide) k)).trans z4
  replace z5 := (ap_old hw hn (Nat.add_lt_add_left (by decide) k)).trans z5
  replace hk : ∀ j : Nat, j < k → w11[j]? = ws0[j]? := fun j hj => (ap_old hw hn (Nat.lt_of_lt_of_le hj (Nat.le_add_right k _))).trans (hk j hj)
  replace hn : w11.length = k + 7 := ap_len hw hn
  clear hw
  refine va_putF (ci := 3) (v := .ref q6) (ty := (.array .int)) (C := RX3) (T := TX3) (N := 9) hx hb hts inqX3 tyX3 tyX3_ok nmX3 hown hK hP hD hS (k) z0 rfl 5 (by decide) (hts _ fl_X3_27) (fun _ h9 => h9) rfl hin rfl (by decide +kernel) rfl rfl (Nat.le_of_ble_eq_true rfl) dX3_init_49 (fun H locs hP hD hS => ?_)
  obtain ⟨w12, hw⟩ : ∃ x, x = w11.set k (q0, .inr (3, [.ref q1, .ref q2, .ref q3, .ref q4, .ref q5, .ref q6, .null, .int 0, .int 0])) := ⟨_, rfl⟩
  replace hP : va_P D vwCl w12 H := by rw [hw]; exact hP
  replace hD : va_D (fun q => base ≤ q) w12 := by rw [hw]; exact hD
  replace z1 : w12[k + 1]? = some (q1, .inl (cI, 12, .inl (fun _ => 0))) := by rw [hw]; exact st_ne (Nat.ne_of_gt (Nat.lt_add_of_pos_right (by decide))) z1
  replace z2 : w12[k + 2]? = some (q2, .inl (cI, 12, .inl (fun _ => 0))) := by rw [hw]; exact st_ne (Nat.ne_of_gt (Nat.lt_add_of_pos_right (by decide))) z2
  replace z3 : w12[k + 3]? = some (q3, .inl (cI, 12, .inl (fun _ => 0))) := by rw [hw]; exact st_ne (Nat.ne_of_gt (Nat.lt_add_of_pos_right (by decide))) z3
  replace z4 : w12[k + 4]? = some (q4, .inl (cI, 12, .inl (fun _ => 0))) := by rw [hw]; exact st_ne (Nat.ne_of_gt (Nat.lt_add_of_pos_right (by decide))) z4
  replace z5 : w12[k + 5]? = some (q5, .inl (cI, 12, .inl (fun _ => 0))) := by rw [hw]; exact st_ne (Nat.ne_of_gt (Nat.lt_add_of_pos_right (by decide))) z5
  replace z6 : w12[k + 6]? = some (q6, .inl (cI, 12, .inl (fun _ => 0))) := by rw [hw]; exact st_ne (Nat.ne_of_gt (Nat.lt_add_of_pos_right (by decide))) z6
  replace hk : ∀ j : Nat, j < k → w12[j]? = ws0[j]? := fun j hj => by rw [hw]; exact st_ne (Nat.ne_of_lt hj) (hk j hj)
  replace z0 : w12[k]? = some (q0, .inr (3, [.ref q1, .ref q2, .ref q3, .ref q4, .ref q5, .ref q6, .null, .int 0, .int 0])) := by rw [hw]; exact st_eq z0
  replace hn : w12.length = k + 7 := by rw [hw, List.length_set]; exact hn
  clear hw
  refine lv_aload_n hx hb dX3_init_52 rfl (lv_at hl 0 rfl) ?_
  refine va_new (ci := 2) (fs := [.null, .null, .long 0, .int 0, .int 0, .int 0, .int 0]) (C := RX2) (T := TX2) (N := 7) hx hb hts inqX2 tyX2 tyX2_ok hown (hts _ cl_X3_30) (hts _ ib_X2) (hts _ ii_X2) hK hP hD hS hA rfl (fun j hj => by rcases (show j = 0 ∨ j = 1 ∨ j = 2 ∨ j = 3 ∨ j = 4 ∨ j = 5 ∨ j = 6 by omega) with rfl | rfl | rfl | rfl | rfl | rfl | rfl <;> rfl) (Nat.le_of_ble_eq_true rfl) (Nat.le_of_ble_eq_true rfl) dX3_init_53 (fun q7 H hP hD hS => ?_)
  obtain ⟨w13, hw⟩ : ∃ x, x = w12 ++ [(q7, .inr (2, [.null, .null, .long 0, .int 0, .int 0, .int 0, .int 0]))] := ⟨_, rfl⟩
  rw [← hw] at hP hD
  have z7 : w13[k + 7]? = some (q7, .inr (2, [.null, .null, .long 0, .int 0, .int 0, .int 0, .int 0])) := ap_new hw hn
  replace z0 := (ap_old hw hn (Nat.lt_add_of_pos_right (by decide))).trans z0
  replace z1 := (ap_old hw hn (Nat.add_lt_add_left (by decide) k)).trans z1
  replace z2 := (ap_old hw hn (Nat.add_lt_add_left (by decide) k)).trans z2
  replace z3 := (ap_old hw hn (Nat.add_lt_add_left (by decide) k)).trans z3
  replace z4 := (ap_old hw hn (Nat.add_lt_add_left (by decide) k)).trans z4
  replace z5 := (ap_old hw hn (Nat.add_lt_add_left (by decide) k)).trans z5
  replace z6 := (ap_old hw hn (Nat.add_lt_add_left (by decide) k)).trans z6
  replace hk : ∀ j : Nat, j < k → w13[j]? = ws0[j]? := fun j hj => (ap_old hw hn (Nat.lt_of_lt_of_le hj (Nat.le_add_right k _))).trans (hk j hj)
  replace hn : w13.length = k + 8 := ap_len hw hn
  clear hw
  refine lv_dup hx hb dX3_init_56 rfl ?_
  refine in_call (runIN (As := []) (rest := [.ref q7, .ref q0]) X cq_X2_init lk_X3_32 (c_X2_init l D cI cJ cZ w13 (k + 7) q7 base hn z7 hD) rfl rfl ⟨Nat.le_of_ble_eq_true rfl, Nat.le_of_ble_eq_true rfl⟩ hP rfl hl.1 rfl (Nat.le_of_ble_eq_true rfl) dX3_init_57 ⟨Nat.le_of_ble_eq_true rfl, Nat.le_of_ble_eq_true rfl⟩) hS (fun w14 H locs hP hD hB hS => ?_)
  obtain ⟨q8, q9, hn2, hk2, y0, y1, y2⟩ := hB
  replace z0 := (hk2 _ (Nat.lt_add_of_pos_right (by decide))).trans z0
  replace z1 := (hk2 _ (Nat.add_lt_add_left (by decide) k)).trans z1
  replace z2 := (hk2 _ (Nat.add_lt_add_left (by decide) k)).trans z2
  replace z3 := (hk2 _ (Nat.add_lt_add_left (by decide) k)).trans z3
  replace z4 := (hk2 _ (Nat.add_lt_add_left (by decide) k)).trans z4
  replace z5 := (hk2 _ (Nat.add_lt_add_left (by decide) k)).trans z5
  replace z6 := (hk2 _ (Nat.add_lt_add_left (by decide) k)).trans z6
  replace hk : ∀ j : Nat, j < k → w14[j]? = ws0[j]? := fun j hj => (hk2 j (Nat.lt_of_lt_of_le hj (Nat.le_add_right k _))).trans (hk j hj)
  have z7 : w14[k + 7]? = some (q7, .inr (2, [.ref q8, .ref q9, .long 0, .int 0, .int 0, .int 0, .int 0])) := y0
  have z8 : w14[k + 8]? = some (q8, .inl (cI, 12, .inl (fun _ => 0))) := y1
  have z9 : w14[k + 9]? = some (q9, .inl (cI, 12, .inl (fun _ => 0))) := y2
  clear hn
  have hn : w14.length = k + 10 := hn2
  clear hn2 hk2 y0 y1 y2
  refine va_putF (ci := 3) (v := .ref q7) (ty := (.object "AHandGoesUp$Lessons")) (C := RX3) (T := TX3) (N := 9) hx hb hts inqX3 tyX3 tyX3_ok nmX3 hown hK hP hD hS (k) z0 rfl 6 (by decide) (hts _ fl_X3_33) (fun _ h9 => h9) rfl hin rfl (by decide +kernel) rfl rfl (Nat.le_of_ble_eq_true rfl) dX3_init_60 (fun H locs hP hD hS => ?_)
  obtain ⟨w15, hw⟩ : ∃ x, x = w14.set k (q0, .inr (3, [.ref q1, .ref q2, .ref q3, .ref q4, .ref q5, .ref q6, .ref q7, .int 0, .int 0])) := ⟨_, rfl⟩
  replace hP : va_P D vwCl w15 H := by rw [hw]; exact hP
  replace hD : va_D (fun q => base ≤ q) w15 := by rw [hw]; exact hD
  replace z1 : w15[k + 1]? = some (q1, .inl (cI, 12, .inl (fun _ => 0))) := by rw [hw]; exact st_ne (Nat.ne_of_gt (Nat.lt_add_of_pos_right (by decide))) z1
  replace z2 : w15[k + 2]? = some (q2, .inl (cI, 12, .inl (fun _ => 0))) := by rw [hw]; exact st_ne (Nat.ne_of_gt (Nat.lt_add_of_pos_right (by decide))) z2
  replace z3 : w15[k + 3]? = some (q3, .inl (cI, 12, .inl (fun _ => 0))) := by rw [hw]; exact st_ne (Nat.ne_of_gt (Nat.lt_add_of_pos_right (by decide))) z3
  replace z4 : w15[k + 4]? = some (q4, .inl (cI, 12, .inl (fun _ => 0))) := by rw [hw]; exact st_ne (Nat.ne_of_gt (Nat.lt_add_of_pos_right (by decide))) z4
  replace z5 : w15[k + 5]? = some (q5, .inl (cI, 12, .inl (fun _ => 0))) := by rw [hw]; exact st_ne (Nat.ne_of_gt (Nat.lt_add_of_pos_right (by decide))) z5
  replace z6 : w15[k + 6]? = some (q6, .inl (cI, 12, .inl (fun _ => 0))) := by rw [hw]; exact st_ne (Nat.ne_of_gt (Nat.lt_add_of_pos_right (by decide))) z6
  replace z7 : w15[k + 7]? = some (q7, .inr (2, [.ref q8, .ref q9, .long 0, .int 0, .int 0, .int 0, .int 0])) := by rw [hw]; exact st_ne (Nat.ne_of_gt (Nat.lt_add_of_pos_right (by decide))) z7
  replace z8 : w15[k + 8]? = some (q8, .inl (cI, 12, .inl (fun _ => 0))) := by rw [hw]; exact st_ne (Nat.ne_of_gt (Nat.lt_add_of_pos_right (by decide))) z8
  replace z9 : w15[k + 9]? = some (q9, .inl (cI, 12, .inl (fun _ => 0))) := by rw [hw]; exact st_ne (Nat.ne_of_gt (Nat.lt_add_of_pos_right (by decide))) z9
  replace hk : ∀ j : Nat, j < k → w15[j]? = ws0[j]? := fun j hj => by rw [hw]; exact st_ne (Nat.ne_of_lt hj) (hk j hj)
  replace z0 : w15[k]? = some (q0, .inr (3, [.ref q1, .ref q2, .ref q3, .ref q4, .ref q5, .ref q6, .ref q7, .int 0, .int 0])) := by rw [hw]; exact st_eq z0
  replace hn : w15.length = k + 10 := by rw [hw, List.length_set]; exact hn
  clear hw
  refine lv_aload_n hx hb dX3_init_63 rfl (lv_at hl 0 rfl) ?_
  refine lv_iconst (v := (5 : Int32)) hx hb dX3_init_64 (by decide) ?_
  refine va_put (ci := 3) (v := .int 5) (ty := .int) (C := RX3) (T := TX3) (N := 9) hx hb hts inqX3 tyX3 tyX3_ok nmX3 hown hK hP hD hS (k) z0 rfl 8 (by decide) (hts _ fl_X3_37) (fun _ h9 => h9) rfl (by decide +kernel) rfl rfl (Nat.le_of_ble_eq_true rfl) dX3_init_65 (fun H locs hP hD hS => ?_)
  obtain ⟨w16, hw⟩ : ∃ x, x = w15.set k (q0, .inr (3, [.ref q1, .ref q2, .ref q3, .ref q4, .ref q5, .ref q6, .ref q7, .int 0, .int 5])) := ⟨_, rfl⟩
  replace hP : va_P D vwCl w16 H := by rw [hw]; exact hP
  replace hD : va_D (fun q => base ≤ q) w16 := by rw [hw]; exact hD
  replace z1 : w16[k + 1]? = some (q1, .inl (cI, 12, .inl (fun _ => 0))) := by rw [hw]; exact st_ne (Nat.ne_of_gt (Nat.lt_add_of_pos_right (by decide))) z1
  replace z2 : w16[k + 2]? = some (q2, .inl (cI, 12, .inl (fun _ => 0))) := by rw [hw]; exact st_ne (Nat.ne_of_gt (Nat.lt_add_of_pos_right (by decide))) z2
  replace z3 : w16[k + 3]? = some (q3, .inl (cI, 12, .inl (fun _ => 0))) := by rw [hw]; exact st_ne (Nat.ne_of_gt (Nat.lt_add_of_pos_right (by decide))) z3
  replace z4 : w16[k + 4]? = some (q4, .inl (cI, 12, .inl (fun _ => 0))) := by rw [hw]; exact st_ne (Nat.ne_of_gt (Nat.lt_add_of_pos_right (by decide))) z4
  replace z5 : w16[k + 5]? = some (q5, .inl (cI, 12, .inl (fun _ => 0))) := by rw [hw]; exact st_ne (Nat.ne_of_gt (Nat.lt_add_of_pos_right (by decide))) z5
  replace z6 : w16[k + 6]? = some (q6, .inl (cI, 12, .inl (fun _ => 0))) := by rw [hw]; exact st_ne (Nat.ne_of_gt (Nat.lt_add_of_pos_right (by decide))) z6
  replace z7 : w16[k + 7]? = some (q7, .inr (2, [.ref q8, .ref q9, .long 0, .int 0, .int 0, .int 0, .int 0])) := by rw [hw]; exact st_ne (Nat.ne_of_gt (Nat.lt_add_of_pos_right (by decide))) z7
  replace z8 : w16[k + 8]? = some (q8, .inl (cI, 12, .inl (fun _ => 0))) := by rw [hw]; exact st_ne (Nat.ne_of_gt (Nat.lt_add_of_pos_right (by decide))) z8
  replace z9 : w16[k + 9]? = some (q9, .inl (cI, 12, .inl (fun _ => 0))) := by rw [hw]; exact st_ne (Nat.ne_of_gt (Nat.lt_add_of_pos_right (by decide))) z9
  replace hk : ∀ j : Nat, j < k → w16[j]? = ws0[j]? := fun j hj => by rw [hw]; exact st_ne (Nat.ne_of_lt hj) (hk j hj)
  replace z0 : w16[k]? = some (q0, .inr (3, [.ref q1, .ref q2, .ref q3, .ref q4, .ref q5, .ref q6, .ref q7, .int 0, .int 5])) := by rw [hw]; exact st_eq z0
  replace hn : w16.length = k + 10 := by rw [hw, List.length_set]; exact hn
  clear hw
  refine W.widen (k := 9) (n := 103) (Nat.le_of_ble_eq_true rfl) (Nat.le_of_ble_eq_true rfl) ?_
  rw [hQ]
  exact rn_v X hS hP hD ⟨q1, q2, q3, q4, q5, q6, q7, q8, q9, hn, hk, z0, z1, z2, z3, z4, z5, z6, z7, z8, z9⟩ dX3_init_68
theorem lk_X4_3 : Cond.methodLink RX4 3 objectInit ∈ aw := aw_at 200 (by decide +kernel) (by decide +kernel)
theorem cq_X4_init : cqI yX4_init cX4_init 1 0 := ⟨⟨aw_at 199 (by decide +kernel) (by decide +kernel), aw_at 83 (by decide +kernel) (by decide +kernel), by decide +kernel, by decide +kernel, by decide +kernel⟩, aw_at 198 (by decide +kernel) (by decide +kernel), rfl⟩
def rm_X4_init : Room := { frames := 1, cells := 1, slots := 169, locals := 12 }
set_option maxHeartbeats 4000000 in
set_option maxRecDepth 100000 in
theorem c_X4_init (l : Launch) (D : va_G) (cI cJ cZ : ClassId) (ws0 : va_W) (k q0 base : Nat) (hn : ws0.length = k + 1) (z0 : ws0[k]? = some (q0, .inr (4, [.null]))) (hD : va_D (fun q => base ≤ q) ws0) : Met l yX4_init (wq yX4_init cX4_init 1 none) rm_X4_init (Pq [.ref q0] D cI cJ cZ ws0) (Qn D (fun q => base ≤ q) (fun w => ∃ q1 : Nat, w.length = k + 2 ∧ (∀ j : Nat, j < k → w[j]? = ws0[j]?) ∧ w[k]? = some (q0, .inr (4, [.ref q1])) ∧ w[k + 1]? = some (q1, .inl (cJ, 169, .inr (.inl (fun _ => 0)))))) 1 169 (fun q => base ≤ q) := by
  refine mq_of (by decide) (Nat.le_of_ble_eq_true rfl) (fun p e s m args below meth c ls Q hQ X hin0 hP hl => ?_)
  obtain ⟨hx, hb, hr, hml, hown, hts, hlk, hK, hN⟩ := id X
  have hown : s.vm.findClass RX4 = some m.cls := hown
  have hin : meth.name = "<init>" := hin0 rfl
  have hl : lv_has ls 1 [(0, .ref q0)] := hl
  have hA : ∀ q : Nat, s.heap.size ≤ q → (fun q => base ≤ q) q := ba_le hP hD z0
  have hS : va_S (fun q => base ≤ q) s.heap s.heap [] := va_S.rf
  have hk : ∀ j : Nat, j < k → ws0[j]? = ws0[j]? := fun _ _ => rfl
  refine lv_aload_n hx hb dX4_init_0 rfl (lv_at hl 0 rfl) ?_
  refine W.objInit hx hb hown (hts _ lk_X4_3) (hts _ oi_inst) (hts _ oi_code) rfl (by rw [hml]; exact hl.1) rfl dX4_init_1 (Nat.le_of_ble_eq_true rfl) (Nat.le_of_ble_eq_true rfl) ?_
  refine W.eq (g2 := F0 m 4 ls []) rfl ?_
  refine lv_aload_n hx hb dX4_init_4 rfl (lv_at hl 0 rfl) ?_
  refine lv_sipush (v := (169 : Int32)) hx hb dX4_init_5 (by decide) ?_
  refine na_l (N := 169) hx hb hts hK hP hD hS hA (by decide) (by decide) (Nat.le_of_ble_eq_true rfl) (Nat.le_of_ble_eq_true rfl) (Nat.le_of_ble_eq_true rfl) dX4_init_8 (fun q1 w1 H hP hD hw hS => ?_)
  have z1 : w1[k + 1]? = some (q1, .inl (cJ, 169, .inr (.inl (fun _ => 0)))) := ap_new hw hn
  replace z0 := (ap_old hw hn (Nat.lt_add_of_pos_right (by decide))).trans z0
  replace hk : ∀ j : Nat, j < k → w1[j]? = ws0[j]? := fun j hj => (ap_old hw hn (Nat.lt_of_lt_of_le hj (Nat.le_add_right k _))).trans (hk j hj)
  replace hn : w1.length = k + 2 := ap_len hw hn
  clear hw
  refine va_putF (ci := 4) (v := .ref q1) (ty := (.array .long)) (C := RX4) (T := TX4) (N := 1) hx hb hts inqX4 tyX4 tyX4_ok nmX4 hown hK hP hD hS (k) z0 rfl 0 (by decide) (hts _ fl_X4_11) (fun _ h9 => h9) rfl hin rfl (by decide +kernel) rfl rfl (Nat.le_of_ble_eq_true rfl) dX4_init_10 (fun H locs hP hD hS => ?_)
  obtain ⟨w2, hw⟩ : ∃ x, x = w1.set k (q0, .inr (4, [.ref q1])) := ⟨_, rfl⟩
  replace hP : va_P D vwCl w2 H := by rw [hw]; exact hP
  replace hD : va_D (fun q => base ≤ q) w2 := by rw [hw]; exact hD
  replace z1 : w2[k + 1]? = some (q1, .inl (cJ, 169, .inr (.inl (fun _ => 0)))) := by rw [hw]; exact st_ne (Nat.ne_of_gt (Nat.lt_add_of_pos_right (by decide))) z1
  replace hk : ∀ j : Nat, j < k → w2[j]? = ws0[j]? := fun j hj => by rw [hw]; exact st_ne (Nat.ne_of_lt hj) (hk j hj)
  replace z0 : w2[k]? = some (q0, .inr (4, [.ref q1])) := by rw [hw]; exact st_eq z0
  replace hn : w2.length = k + 2 := by rw [hw, List.length_set]; exact hn
  clear hw
  refine W.widen (k := 1) (n := 169) (Nat.le_of_ble_eq_true rfl) (Nat.le_of_ble_eq_true rfl) ?_
  rw [hQ]
  exact rn_v X hS hP hD ⟨q1, hn, hk, z0, z1⟩ dX4_init_13
theorem lk_X1_3 : Cond.methodLink RX1 3 objectInit ∈ aw := aw_at 194 (by decide +kernel) (by decide +kernel)
theorem cl_X1_9 : Cond.classLink RX1 9 RX4 ∈ aw := aw_at 195 (by decide +kernel) (by decide +kernel)
theorem ib_X4 : Cond.instantiable RX4 1 ∈ aw := aw_at 196 (by decide +kernel) (by decide +kernel)
theorem ii_X4 : Cond.initialized RX4 ∈ aw := aw_at 83 (by decide +kernel) (by decide +kernel)
theorem lk_X1_11 : Cond.methodLinkNest RX1 11 yX4_init "AHandGoesUp" ∈ lw_tbl := List.mem_of_getElem? (i := 197) (by decide +kernel)
theorem cq_X1_init : cqI yX1_init cX1_init 1 0 := ⟨⟨aw_at 193 (by decide +kernel) (by decide +kernel), aw_at 82 (by decide +kernel) (by decide +kernel), by decide +kernel, by decide +kernel, by decide +kernel⟩, aw_at 192 (by decide +kernel) (by decide +kernel), rfl⟩
def rm_X1_init : Room := { frames := 2, cells := 2, slots := 170, locals := 32 }
set_option maxHeartbeats 4000000 in
set_option maxRecDepth 100000 in
theorem c_X1_init (l : Launch) (D : va_G) (cI cJ cZ : ClassId) (ws0 : va_W) (k q0 base : Nat) (hn : ws0.length = k + 1) (z0 : ws0[k]? = some (q0, .inr (1, [.null]))) (hD : va_D (fun q => base ≤ q) ws0) : Met l yX1_init (wq yX1_init cX1_init 1 none) rm_X1_init (Pq [.ref q0] D cI cJ cZ ws0) (Qn D (fun q => base ≤ q) (fun w => ∃ q1 q2 : Nat, w.length = k + 3 ∧ (∀ j : Nat, j < k → w[j]? = ws0[j]?) ∧ w[k]? = some (q0, .inr (1, [.ref q1])) ∧ w[k + 1]? = some (q1, .inr (4, [.ref q2])) ∧ w[k + 2]? = some (q2, .inl (cJ, 169, .inr (.inl (fun _ => 0)))))) 2 170 (fun q => base ≤ q) := by
  refine mq_of (by decide) (Nat.le_of_ble_eq_true rfl) (fun p e s m args below meth c ls Q hQ X hin0 hP hl => ?_)
  obtain ⟨hx, hb, hr, hml, hown, hts, hlk, hK, hN⟩ := id X
  have hown : s.vm.findClass RX1 = some m.cls := hown
  have hin : meth.name = "<init>" := hin0 rfl
  have hl : lv_has ls 1 [(0, .ref q0)] := hl
  have hA : ∀ q : Nat, s.heap.size ≤ q → (fun q => base ≤ q) q := ba_le hP hD z0
  have hS : va_S (fun q => base ≤ q) s.heap s.heap [] := va_S.rf
  have hk : ∀ j : Nat, j < k → ws0[j]? = ws0[j]? := fun _ _ => rfl
  refine lv_aload_n hx hb dX1_init_0 rfl (lv_at hl 0 rfl) ?_
  refine W.objInit hx hb hown (hts _ lk_X1_3) (hts _ oi_inst) (hts _ oi_code) rfl (by rw [hml]; exact hl.1) rfl dX1_init_1 (Nat.le_of_ble_eq_true rfl) (Nat.le_of_ble_eq_true rfl) ?_
  refine W.eq (g2 := F0 m 4 ls []) rfl ?_
  refine lv_aload_n hx hb dX1_init_4 rfl (lv_at hl 0 rfl) ?_
  refine va_new (ci := 4) (fs := [.null]) (C := RX4) (T := TX4) (N := 1) hx hb hts inqX4 tyX4 tyX4_ok hown (hts _ cl_X1_9) (hts _ ib_X4) (hts _ ii_X4) hK hP hD hS hA rfl (fun j hj => by cases (show j = 0 by omega); rfl) (Nat.le_of_ble_eq_true rfl) (Nat.le_of_ble_eq_true rfl) dX1_init_5 (fun q1 H hP hD hS => ?_)
  obtain ⟨w1, hw⟩ : ∃ x, x = ws0 ++ [(q1, .inr (4, [.null]))] := ⟨_, rfl⟩
  rw [← hw] at hP hD
  have z1 : w1[k + 1]? = some (q1, .inr (4, [.null])) := ap_new hw hn
  replace z0 := (ap_old hw hn (Nat.lt_add_of_pos_right (by decide))).trans z0
  replace hk : ∀ j : Nat, j < k → w1[j]? = ws0[j]? := fun j hj => (ap_old hw hn (Nat.lt_of_lt_of_le hj (Nat.le_add_right k _))).trans (hk j hj)
  replace hn : w1.length = k + 2 := ap_len hw hn
  clear hw
  refine lv_dup hx hb dX1_init_8 rfl ?_
  refine in_call (runIN (As := []) (rest := [.ref q1, .ref q0]) X cq_X4_init lk_X1_11 (c_X4_init l D cI cJ cZ w1 (k + 1) q1 base hn z1 hD) rfl rfl ⟨Nat.le_of_ble_eq_true rfl, Nat.le_of_ble_eq_true rfl⟩ hP rfl hl.1 rfl (Nat.le_of_ble_eq_true rfl) dX1_init_9 ⟨Nat.le_of_ble_eq_true rfl, Nat.le_of_ble_eq_true rfl⟩) hS (fun w2 H locs hP hD hB hS => ?_)
  obtain ⟨q2, hn2, hk2, y0, y1⟩ := hB
  replace z0 := (hk2 _ (Nat.lt_add_of_pos_right (by decide))).trans z0
  replace hk : ∀ j : Nat, j < k → w2[j]? = ws0[j]? := fun j hj => (hk2 j (Nat.lt_of_lt_of_le hj (Nat.le_add_right k _))).trans (hk j hj)
  have z1 : w2[k + 1]? = some (q1, .inr (4, [.ref q2])) := y0
  have z2 : w2[k + 2]? = some (q2, .inl (cJ, 169, .inr (.inl (fun _ => 0)))) := y1
  clear hn
  have hn : w2.length = k + 3 := hn2
  clear hn2 hk2 y0 y1
  refine va_putF (ci := 1) (v := .ref q1) (ty := (.object "AHandGoesUp$Spread")) (C := RX1) (T := TX1) (N := 1) hx hb hts inqX1 tyX1 tyX1_ok nmX1 hown hK hP hD hS (k) z0 rfl 0 (by decide) (hts _ fl_X1_12) (fun _ h9 => h9) rfl hin rfl (by decide +kernel) rfl rfl (Nat.le_of_ble_eq_true rfl) dX1_init_12 (fun H locs hP hD hS => ?_)
  obtain ⟨w3, hw⟩ : ∃ x, x = w2.set k (q0, .inr (1, [.ref q1])) := ⟨_, rfl⟩
  replace hP : va_P D vwCl w3 H := by rw [hw]; exact hP
  replace hD : va_D (fun q => base ≤ q) w3 := by rw [hw]; exact hD
  replace z1 : w3[k + 1]? = some (q1, .inr (4, [.ref q2])) := by rw [hw]; exact st_ne (Nat.ne_of_gt (Nat.lt_add_of_pos_right (by decide))) z1
  replace z2 : w3[k + 2]? = some (q2, .inl (cJ, 169, .inr (.inl (fun _ => 0)))) := by rw [hw]; exact st_ne (Nat.ne_of_gt (Nat.lt_add_of_pos_right (by decide))) z2
  replace hk : ∀ j : Nat, j < k → w3[j]? = ws0[j]? := fun j hj => by rw [hw]; exact st_ne (Nat.ne_of_lt hj) (hk j hj)
  replace z0 : w3[k]? = some (q0, .inr (1, [.ref q1])) := by rw [hw]; exact st_eq z0
  replace hn : w3.length = k + 3 := by rw [hw, List.length_set]; exact hn
  clear hw
  refine W.widen (k := 2) (n := 170) (Nat.le_of_ble_eq_true rfl) (Nat.le_of_ble_eq_true rfl) ?_
  rw [hQ]
  exact rn_v X hS hP hD ⟨q1, q2, hn, hk, z0, z1, z2⟩ dX1_init_15
theorem lk_X0_3 : Cond.methodLink RX0 3 objectInit ∈ aw := aw_at 216 (by decide +kernel) (by decide +kernel)
theorem cl_X0_21 : Cond.classLink RX0 21 RX4 ∈ aw := aw_at 217 (by decide +kernel) (by decide +kernel)
theorem lk_X0_23 : Cond.methodLinkNest RX0 23 yX4_init "AHandGoesUp" ∈ lw_tbl := List.mem_of_getElem? (i := 218) (by decide +kernel)
theorem cq_X0_init : cqI yX0_init cX0_init 1 0 := ⟨⟨aw_at 215 (by decide +kernel) (by decide +kernel), aw_at 84 (by decide +kernel) (by decide +kernel), by decide +kernel, by decide +kernel, by decide +kernel⟩, aw_at 214 (by decide +kernel) (by decide +kernel), rfl⟩
def rm_X0_init : Room := { frames := 2, cells := 5, slots := 206, locals := 32 }
set_option maxHeartbeats 4000000 in
set_option maxRecDepth 100000 in
theorem c_X0_init (l : Launch) (D : va_G) (cI cJ cZ : ClassId) (ws0 : va_W) (k q0 base : Nat) (hn : ws0.length = k + 1) (z0 : ws0[k]? = some (q0, .inr (0, [.null, .null, .null, .null, .int 0, .int 0]))) (hD : va_D (fun q => base ≤ q) ws0) : Met l yX0_init (wq yX0_init cX0_init 1 none) rm_X0_init (Pq [.ref q0] D cI cJ cZ ws0) (Qn D (fun q => base ≤ q) (fun w => ∃ q1 q2 q3 q4 q5 : Nat, w.length = k + 6 ∧ (∀ j : Nat, j < k → w[j]? = ws0[j]?) ∧ w[k]? = some (q0, .inr (0, [.ref q1, .ref q2, .ref q3, .ref q4, .int 0, .int 0])) ∧ w[k + 1]? = some (q1, .inl (cI, 12, .inl (fun _ => 0))) ∧ w[k + 2]? = some (q2, .inl (cI, 12, .inl (fun _ => 0))) ∧ w[k + 3]? = some (q3, .inl (cI, 12, .inl (fun _ => 0))) ∧ w[k + 4]? = some (q4, .inr (4, [.ref q5])) ∧ w[k + 5]? = some (q5, .inl (cJ, 169, .inr (.inl (fun _ => 0)))))) 5 206 (fun q => base ≤ q) := by
  refine mq_of (by decide) (Nat.le_of_ble_eq_true rfl) (fun p e s m args below meth c ls Q hQ X hin0 hP hl => ?_)
  obtain ⟨hx, hb, hr, hml, hown, hts, hlk, hK, hN⟩ := id X
  have hown : s.vm.findClass RX0 = some m.cls := hown
  have hin : meth.name = "<init>" := hin0 rfl
  have hl : lv_has ls 1 [(0, .ref q0)] := hl
  have hA : ∀ q : Nat, s.heap.size ≤ q → (fun q => base ≤ q) q := ba_le hP hD z0
  have hS : va_S (fun q => base ≤ q) s.heap s.heap [] := va_S.rf
  have hk : ∀ j : Nat, j < k → ws0[j]? = ws0[j]? := fun _ _ => rfl
  refine lv_aload_n hx hb dX0_init_0 rfl (lv_at hl 0 rfl) ?_
  refine W.objInit hx hb hown (hts _ lk_X0_3) (hts _ oi_inst) (hts _ oi_code) rfl (by rw [hml]; exact hl.1) rfl dX0_init_1 (Nat.le_of_ble_eq_true rfl) (Nat.le_of_ble_eq_true rfl) ?_
  refine W.eq (g2 := F0 m 4 ls []) rfl ?_
  refine lv_aload_n hx hb dX0_init_4 rfl (lv_at hl 0 rfl) ?_
  refine lv_bipush (v := (12 : Int32)) hx hb dX0_init_5 (by decide) ?_
  refine na_i (N := 12) hx hb hts hK hP hD hS hA (by decide) (by decide) (Nat.le_of_ble_eq_true rfl) (Nat.le_of_ble_eq_true rfl) (Nat.le_of_ble_eq_true rfl) dX0_init_7 (fun q1 w1 H hP hD hw hS => ?_)
  have z1 : w1[k + 1]? = some (q1, .inl (cI, 12, .inl (fun _ => 0))) := ap_new hw hn
  replace z0 := (ap_old hw hn (Nat.lt_add_of_pos_right (by decide))).trans z0
  replace hk : ∀ j : Nat, j < k → w1[j]? = ws0[j]? := fun j hj => (ap_old hw hn (Nat.lt_of_lt_of_le hj (Nat.le_add_right k _))).trans (hk j hj)
  replace hn : w1.length = k + 2 := ap_len hw hn
  clear hw
  refine va_putF (ci := 0) (v := .ref q1) (ty := (.array .int)) (C := RX0) (T := TX0) (N := 6) hx hb hts inqX0 tyX0 tyX0_ok nmX0 hown hK hP hD hS (k) z0 rfl 0 (by decide) (hts _ fl_X0_9) (fun _ h9 => h9) rfl hin rfl (by decide +kernel) rfl rfl (Nat.le_of_ble_eq_true rfl) dX0_init_9 (fun H locs hP hD hS => ?_)
  obtain ⟨w2, hw⟩ : ∃ x, x = w1.set k (q0, .inr (0, [.ref q1, .null, .null, .null, .int 0, .int 0])) := ⟨_, rfl⟩
  replace hP : va_P D vwCl w2 H := by rw [hw]; exact hP
  replace hD : va_D (fun q => base ≤ q) w2 := by rw [hw]; exact hD
  replace z1 : w2[k + 1]? = some (q1, .inl (cI, 12, .inl (fun _ => 0))) := by rw [hw]; exact st_ne (Nat.ne_of_gt (Nat.lt_add_of_pos_right (by decide))) z1
  replace hk : ∀ j : Nat, j < k → w2[j]? = ws0[j]? := fun j hj => by rw [hw]; exact st_ne (Nat.ne_of_lt hj) (hk j hj)
  replace z0 : w2[k]? = some (q0, .inr (0, [.ref q1, .null, .null, .null, .int 0, .int 0])) := by rw [hw]; exact st_eq z0
  replace hn : w2.length = k + 2 := by rw [hw, List.length_set]; exact hn
  clear hw
  refine lv_aload_n hx hb dX0_init_12 rfl (lv_at hl 0 rfl) ?_
  refine lv_bipush (v := (12 : Int32)) hx hb dX0_init_13 (by decide) ?_
  refine na_i (N := 12) hx hb hts hK hP hD hS hA (by decide) (by decide) (Nat.le_of_ble_eq_true rfl) (Nat.le_of_ble_eq_true rfl) (Nat.le_of_ble_eq_true rfl) dX0_init_15 (fun q2 w3 H hP hD hw hS => ?_)
  have z2 : w3[k + 2]? = some (q2, .inl (cI, 12, .inl (fun _ => 0))) := ap_new hw hn
  replace z0 := (ap_old hw hn (Nat.lt_add_of_pos_right (by decide))).trans z0
  replace z1 := (ap_old hw hn (Nat.add_lt_add_left (by decide) k)).trans z1
  replace hk : ∀ j : Nat, j < k → w3[j]? = ws0[j]? := fun j hj => (ap_old hw hn (Nat.lt_of_lt_of_le hj (Nat.le_add_right k _))).trans (hk j hj)
  replace hn : w3.length = k + 3 := ap_len hw hn
  clear hw
  refine va_putF (ci := 0) (v := .ref q2) (ty := (.array .int)) (C := RX0) (T := TX0) (N := 6) hx hb hts inqX0 tyX0 tyX0_ok nmX0 hown hK hP hD hS (k) z0 rfl 1 (by decide) (hts _ fl_X0_15) (fun _ h9 => h9) rfl hin rfl (by decide +kernel) rfl rfl (Nat.le_of_ble_eq_true rfl) dX0_init_17 (fun H locs hP hD hS => ?_)
  obtain ⟨w4, hw⟩ : ∃ x, x = w3.set k (q0, .inr (0, [.ref q1, .ref q2, .null, .null, .int 0, .int 0])) := ⟨_, rfl⟩
  replace hP : va_P D vwCl w4 H := by rw [hw]; exact hP
  replace hD : va_D (fun q => base ≤ q) w4 := by rw [hw]; exact hD
  replace z1 : w4[k + 1]? = some (q1, .inl (cI, 12, .inl (fun _ => 0))) := by rw [hw]; exact st_ne (Nat.ne_of_gt (Nat.lt_add_of_pos_right (by decide))) z1
  replace z2 : w4[k + 2]? = some (q2, .inl (cI, 12, .inl (fun _ => 0))) := by rw [hw]; exact st_ne (Nat.ne_of_gt (Nat.lt_add_of_pos_right (by decide))) z2
  replace hk : ∀ j : Nat, j < k → w4[j]? = ws0[j]? := fun j hj => by rw [hw]; exact st_ne (Nat.ne_of_lt hj) (hk j hj)
  replace z0 : w4[k]? = some (q0, .inr (0, [.ref q1, .ref q2, .null, .null, .int 0, .int 0])) := by rw [hw]; exact st_eq z0
  replace hn : w4.length = k + 3 := by rw [hw, List.length_set]; exact hn
  clear hw
  refine lv_aload_n hx hb dX0_init_20 rfl (lv_at hl 0 rfl) ?_
  refine lv_bipush (v := (12 : Int32)) hx hb dX0_init_21 (by decide) ?_
  refine na_i (N := 12) hx hb hts hK hP hD hS hA (by decide) (by decide) (Nat.le_of_ble_eq_true rfl) (Nat.le_of_ble_eq_true rfl) (Nat.le_of_ble_eq_true rfl) dX0_init_23 (fun q3 w5 H hP hD hw hS => ?_)
  have z3 : w5[k + 3]? = some (q3, .inl (cI, 12, .inl (fun _ => 0))) := ap_new hw hn
  replace z0 := (ap_old hw hn (Nat.lt_add_of_pos_right (by decide))).trans z0
  replace z1 := (ap_old hw hn (Nat.add_lt_add_left (by decide) k)).trans z1
  replace z2 := (ap_old hw hn (Nat.add_lt_add_left (by decide) k)).trans z2
  replace hk : ∀ j : Nat, j < k → w5[j]? = ws0[j]? := fun j hj => (ap_old hw hn (Nat.lt_of_lt_of_le hj (Nat.le_add_right k _))).trans (hk j hj)
  replace hn : w5.length = k + 4 := ap_len hw hn
  clear hw
  refine va_putF (ci := 0) (v := .ref q3) (ty := (.array .int)) (C := RX0) (T := TX0) (N := 6) hx hb hts inqX0 tyX0 tyX0_ok nmX0 hown hK hP hD hS (k) z0 rfl 2 (by decide) (hts _ fl_X0_18) (fun _ h9 => h9) rfl hin rfl (by decide +kernel) rfl rfl (Nat.le_of_ble_eq_true rfl) dX0_init_25 (fun H locs hP hD hS => ?_)
  obtain ⟨w6, hw⟩ : ∃ x, x = w5.set k (q0, .inr (0, [.ref q1, .ref q2, .ref q3, .null, .int 0, .int 0])) := ⟨_, rfl⟩
  replace hP : va_P D vwCl w6 H := by rw [hw]; exact hP
  replace hD : va_D (fun q => base ≤ q) w6 := by rw [hw]; exact hD
  replace z1 : w6[k + 1]? = some (q1, .inl (cI, 12, .inl (fun _ => 0))) := by rw [hw]; exact st_ne (Nat.ne_of_gt (Nat.lt_add_of_pos_right (by decide))) z1
  replace z2 : w6[k + 2]? = some (q2, .inl (cI, 12, .inl (fun _ => 0))) := by rw [hw]; exact st_ne (Nat.ne_of_gt (Nat.lt_add_of_pos_right (by decide))) z2
  replace z3 : w6[k + 3]? = some (q3, .inl (cI, 12, .inl (fun _ => 0))) := by rw [hw]; exact st_ne (Nat.ne_of_gt (Nat.lt_add_of_pos_right (by decide))) z3
  replace hk : ∀ j : Nat, j < k → w6[j]? = ws0[j]? := fun j hj => by rw [hw]; exact st_ne (Nat.ne_of_lt hj) (hk j hj)
  replace z0 : w6[k]? = some (q0, .inr (0, [.ref q1, .ref q2, .ref q3, .null, .int 0, .int 0])) := by rw [hw]; exact st_eq z0
  replace hn : w6.length = k + 4 := by rw [hw, List.length_set]; exact hn
  clear hw
  refine lv_aload_n hx hb dX0_init_28 rfl (lv_at hl 0 rfl) ?_
  refine va_new (ci := 4) (fs := [.null]) (C := RX4) (T := TX4) (N := 1) hx hb hts inqX4 tyX4 tyX4_ok hown (hts _ cl_X0_21) (hts _ ib_X4) (hts _ ii_X4) hK hP hD hS hA rfl (fun j hj => by cases (show j = 0 by omega); rfl) (Nat.le_of_ble_eq_true rfl) (Nat.le_of_ble_eq_true rfl) dX0_init_29 (fun q4 H hP hD hS => ?_)
  obtain ⟨w7, hw⟩ : ∃ x, x = w6 ++ [(q4, .inr (4, [.null]))] := ⟨_, rfl⟩
  rw [← hw] at hP hD
  have z4 : w7[k + 4]? = some (q4, .inr (4, [.null])) := ap_new hw hn
  replace z0 := (ap_old hw hn (Nat.lt_add_of_pos_right (by decide))).trans z0
  replace z1 := (ap_old hw hn (Nat.add_lt_add_left (by decide) k)).trans z1
  replace z2 := (ap_old hw hn (Nat.add_lt_add_left (by decide) k)).trans z2
  replace z3 := (ap_old hw hn (Nat.add_lt_add_left (by decide) k)).trans z3
  replace hk : ∀ j : Nat, j < k → w7[j]? = ws0[j]? := fun j hj => (ap_old hw hn (Nat.lt_of_lt_of_le hj (Nat.le_add_right k _))).trans (hk j hj)
  replace hn : w7.length = k + 5 := ap_len hw hn
  clear hw
  refine lv_dup hx hb dX0_init_32 rfl ?_
  refine in_call (runIN (As := []) (rest := [.ref q4, .ref q0]) X cq_X4_init lk_X0_23 (c_X4_init l D cI cJ cZ w7 (k + 4) q4 base hn z4 hD) rfl rfl ⟨Nat.le_of_ble_eq_true rfl, Nat.le_of_ble_eq_true rfl⟩ hP rfl hl.1 rfl (Nat.le_of_ble_eq_true rfl) dX0_init_33 ⟨Nat.le_of_ble_eq_true rfl, Nat.le_of_ble_eq_true rfl⟩) hS (fun w8 H locs hP hD hB hS => ?_)
  obtain ⟨q5, hn2, hk2, y0, y1⟩ := hB
  replace z0 := (hk2 _ (Nat.lt_add_of_pos_right (by decide))).trans z0
  replace z1 := (hk2 _ (Nat.add_lt_add_left (by decide) k)).trans z1
  replace z2 := (hk2 _ (Nat.add_lt_add_left (by decide) k)).trans z2
  replace z3 := (hk2 _ (Nat.add_lt_add_left (by decide) k)).trans z3
  replace hk : ∀ j : Nat, j < k → w8[j]? = ws0[j]? := fun j hj => (hk2 j (Nat.lt_of_lt_of_le hj (Nat.le_add_right k _))).trans (hk j hj)
  have z4 : w8[k + 4]? = some (q4, .inr (4, [.ref q5])) := y0
  have z5 : w8[k + 5]? = some (q5, .inl (cJ, 169, .inr (.inl (fun _ => 0)))) := y1
  clear hn
  have hn : w8.length = k + 6 := hn2
  clear hn2 hk2 y0 y1
  refine va_putF (ci := 0) (v := .ref q4) (ty := (.object "AHandGoesUp$Spread")) (C := RX0) (T := TX0) (N := 6) hx hb hts inqX0 tyX0 tyX0_ok nmX0 hown hK hP hD hS (k) z0 rfl 3 (by decide) (hts _ fl_X0_24) (fun _ h9 => h9) rfl hin rfl (by decide +kernel) rfl rfl (Nat.le_of_ble_eq_true rfl) dX0_init_36 (fun H locs hP hD hS => ?_)
  obtain ⟨w9, hw⟩ : ∃ x, x = w8.set k (q0, .inr (0, [.ref q1, .ref q2, .ref q3, .ref q4, .int 0, .int 0])) := ⟨_, rfl⟩
  replace hP : va_P D vwCl w9 H := by rw [hw]; exact hP
  replace hD : va_D (fun q => base ≤ q) w9 := by rw [hw]; exact hD
  replace z1 : w9[k + 1]? = some (q1, .inl (cI, 12, .inl (fun _ => 0))) := by rw [hw]; exact st_ne (Nat.ne_of_gt (Nat.lt_add_of_pos_right (by decide))) z1
  replace z2 : w9[k + 2]? = some (q2, .inl (cI, 12, .inl (fun _ => 0))) := by rw [hw]; exact st_ne (Nat.ne_of_gt (Nat.lt_add_of_pos_right (by decide))) z2
  replace z3 : w9[k + 3]? = some (q3, .inl (cI, 12, .inl (fun _ => 0))) := by rw [hw]; exact st_ne (Nat.ne_of_gt (Nat.lt_add_of_pos_right (by decide))) z3
  replace z4 : w9[k + 4]? = some (q4, .inr (4, [.ref q5])) := by rw [hw]; exact st_ne (Nat.ne_of_gt (Nat.lt_add_of_pos_right (by decide))) z4
  replace z5 : w9[k + 5]? = some (q5, .inl (cJ, 169, .inr (.inl (fun _ => 0)))) := by rw [hw]; exact st_ne (Nat.ne_of_gt (Nat.lt_add_of_pos_right (by decide))) z5
  replace hk : ∀ j : Nat, j < k → w9[j]? = ws0[j]? := fun j hj => by rw [hw]; exact st_ne (Nat.ne_of_lt hj) (hk j hj)
  replace z0 : w9[k]? = some (q0, .inr (0, [.ref q1, .ref q2, .ref q3, .ref q4, .int 0, .int 0])) := by rw [hw]; exact st_eq z0
  replace hn : w9.length = k + 6 := by rw [hw, List.length_set]; exact hn
  clear hw
  refine W.widen (k := 5) (n := 206) (Nat.le_of_ble_eq_true rfl) (Nat.le_of_ble_eq_true rfl) ?_
  rw [hQ]
  exact rn_v X hS hP hD ⟨q1, q2, q3, q4, q5, hn, hk, z0, z1, z2, z3, z4, z5⟩ dX0_init_39
theorem lk_X5_3 : Cond.methodLink RX5 3 objectInit ∈ aw := aw_at 245 (by decide +kernel) (by decide +kernel)
theorem cl_X5_18 : Cond.classLink RX5 18 RX4 ∈ aw := aw_at 246 (by decide +kernel) (by decide +kernel)
theorem lk_X5_20 : Cond.methodLinkNest RX5 20 yX4_init "AHandGoesUp" ∈ lw_tbl := List.mem_of_getElem? (i := 247) (by decide +kernel)
theorem cq_X5_init : cqI yX5_init cX5_init 1 0 := ⟨⟨aw_at 244 (by decide +kernel) (by decide +kernel), aw_at 85 (by decide +kernel) (by decide +kernel), by decide +kernel, by decide +kernel, by decide +kernel⟩, aw_at 243 (by decide +kernel) (by decide +kernel), rfl⟩
def rm_X5_init : Room := { frames := 2, cells := 4, slots := 194, locals := 32 }
set_option maxHeartbeats 4000000 in
set_option maxRecDepth 100000 in
theorem c_X5_init (l : Launch) (D : va_G) (cI cJ cZ : ClassId) (ws0 : va_W) (k q0 base : Nat) (hn : ws0.length = k + 1) (z0 : ws0[k]? = some (q0, .inr (5, [.null, .null, .null, .int 0]))) (hD : va_D (fun q => base ≤ q) ws0) : Met l yX5_init (wq yX5_init cX5_init 1 none) rm_X5_init (Pq [.ref q0] D cI cJ cZ ws0) (Qn D (fun q => base ≤ q) (fun w => ∃ q1 q2 q3 q4 : Nat, w.length = k + 5 ∧ (∀ j : Nat, j < k → w[j]? = ws0[j]?) ∧ w[k]? = some (q0, .inr (5, [.ref q1, .ref q2, .ref q3, .int 0])) ∧ w[k + 1]? = some (q1, .inl (cI, 12, .inl (fun _ => 0))) ∧ w[k + 2]? = some (q2, .inl (cI, 12, .inl (fun _ => 0))) ∧ w[k + 3]? = some (q3, .inr (4, [.ref q4])) ∧ w[k + 4]? = some (q4, .inl (cJ, 169, .inr (.inl (fun _ => 0)))))) 4 194 (fun q => base ≤ q) := by
  refine mq_of (by decide) (Nat.le_of_ble_eq_true rfl) (fun p e s m args below meth c ls Q hQ X hin0 hP hl => ?_)
  obtain ⟨hx, hb, hr, hml, hown, hts, hlk, hK, hN⟩ := id X
  have hown : s.vm.findClass RX5 = some m.cls := hown
  have hin : meth.name = "<init>" := hin0 rfl
  have hl : lv_has ls 1 [(0, .ref q0)] := hl
  have hA : ∀ q : Nat, s.heap.size ≤ q → (fun q => base ≤ q) q := ba_le hP hD z0
  have hS : va_S (fun q => base ≤ q) s.heap s.heap [] := va_S.rf
  have hk : ∀ j : Nat, j < k → ws0[j]? = ws0[j]? := fun _ _ => rfl
  refine lv_aload_n hx hb dX5_init_0 rfl (lv_at hl 0 rfl) ?_
  refine W.objInit hx hb hown (hts _ lk_X5_3) (hts _ oi_inst) (hts _ oi_code) rfl (by rw [hml]; exact hl.1) rfl dX5_init_1 (Nat.le_of_ble_eq_true rfl) (Nat.le_of_ble_eq_true rfl) ?_
  refine W.eq (g2 := F0 m 4 ls []) rfl ?_
  refine lv_aload_n hx hb dX5_init_4 rfl (lv_at hl 0 rfl) ?_
  refine lv_bipush (v := (12 : Int32)) hx hb dX5_init_5 (by decide) ?_
  refine na_i (N := 12) hx hb hts hK hP hD hS hA (by decide) (by decide) (Nat.le_of_ble_eq_true rfl) (Nat.le_of_ble_eq_true rfl) (Nat.le_of_ble_eq_true rfl) dX5_init_7 (fun q1 w1 H hP hD hw hS => ?_)
  have z1 : w1[k + 1]? = some (q1, .inl (cI, 12, .inl (fun _ => 0))) := ap_new hw hn
  replace z0 := (ap_old hw hn (Nat.lt_add_of_pos_right (by decide))).trans z0
  replace hk : ∀ j : Nat, j < k → w1[j]? = ws0[j]? := fun j hj => (ap_old hw hn (Nat.lt_of_lt_of_le hj (Nat.le_add_right k _))).trans (hk j hj)
  replace hn : w1.length = k + 2 := ap_len hw hn
  clear hw
  refine va_putF (ci := 5) (v := .ref q1) (ty := (.array .int)) (C := RX5) (T := TX5) (N := 4) hx hb hts inqX5 tyX5 tyX5_ok nmX5 hown hK hP hD hS (k) z0 rfl 0 (by decide) (hts _ fl_X5_9) (fun _ h9 => h9) rfl hin rfl (by decide +kernel) rfl rfl (Nat.le_of_ble_eq_true rfl) dX5_init_9 (fun H locs hP hD hS => ?_)
  obtain ⟨w2, hw⟩ : ∃ x, x = w1.set k (q0, .inr (5, [.ref q1, .null, .null, .int 0])) := ⟨_, rfl⟩
  replace hP : va_P D vwCl w2 H := by rw [hw]; exact hP
  replace hD : va_D (fun q => base ≤ q) w2 := by rw [hw]; exact hD
  replace z1 : w2[k + 1]? = some (q1, .inl (cI, 12, .inl (fun _ => 0))) := by rw [hw]; exact st_ne (Nat.ne_of_gt (Nat.lt_add_of_pos_right (by decide))) z1
  replace hk : ∀ j : Nat, j < k → w2[j]? = ws0[j]? := fun j hj => by rw [hw]; exact st_ne (Nat.ne_of_lt hj) (hk j hj)
  replace z0 : w2[k]? = some (q0, .inr (5, [.ref q1, .null, .null, .int 0])) := by rw [hw]; exact st_eq z0
  replace hn : w2.length = k + 2 := by rw [hw, List.length_set]; exact hn
  clear hw
  refine lv_aload_n hx hb dX5_init_12 rfl (lv_at hl 0 rfl) ?_
  refine lv_bipush (v := (12 : Int32)) hx hb dX5_init_13 (by decide) ?_
  refine na_i (N := 12) hx hb hts hK hP hD hS hA (by decide) (by decide) (Nat.le_of_ble_eq_true rfl) (Nat.le_of_ble_eq_true rfl) (Nat.le_of_ble_eq_true rfl) dX5_init_15 (fun q2 w3 H hP hD hw hS => ?_)
  have z2 : w3[k + 2]? = some (q2, .inl (cI, 12, .inl (fun _ => 0))) := ap_new hw hn
  replace z0 := (ap_old hw hn (Nat.lt_add_of_pos_right (by decide))).trans z0
  replace z1 := (ap_old hw hn (Nat.add_lt_add_left (by decide) k)).trans z1
  replace hk : ∀ j : Nat, j < k → w3[j]? = ws0[j]? := fun j hj => (ap_old hw hn (Nat.lt_of_lt_of_le hj (Nat.le_add_right k _))).trans (hk j hj)
  replace hn : w3.length = k + 3 := ap_len hw hn
  clear hw
  refine va_putF (ci := 5) (v := .ref q2) (ty := (.array .int)) (C := RX5) (T := TX5) (N := 4) hx hb hts inqX5 tyX5 tyX5_ok nmX5 hown hK hP hD hS (k) z0 rfl 1 (by decide) (hts _ fl_X5_15) (fun _ h9 => h9) rfl hin rfl (by decide +kernel) rfl rfl (Nat.le_of_ble_eq_true rfl) dX5_init_17 (fun H locs hP hD hS => ?_)
  obtain ⟨w4, hw⟩ : ∃ x, x = w3.set k (q0, .inr (5, [.ref q1, .ref q2, .null, .int 0])) := ⟨_, rfl⟩
  replace hP : va_P D vwCl w4 H := by rw [hw]; exact hP
  replace hD : va_D (fun q => base ≤ q) w4 := by rw [hw]; exact hD
  replace z1 : w4[k + 1]? = some (q1, .inl (cI, 12, .inl (fun _ => 0))) := by rw [hw]; exact st_ne (Nat.ne_of_gt (Nat.lt_add_of_pos_right (by decide))) z1
  replace z2 : w4[k + 2]? = some (q2, .inl (cI, 12, .inl (fun _ => 0))) := by rw [hw]; exact st_ne (Nat.ne_of_gt (Nat.lt_add_of_pos_right (by decide))) z2
  replace hk : ∀ j : Nat, j < k → w4[j]? = ws0[j]? := fun j hj => by rw [hw]; exact st_ne (Nat.ne_of_lt hj) (hk j hj)
  replace z0 : w4[k]? = some (q0, .inr (5, [.ref q1, .ref q2, .null, .int 0])) := by rw [hw]; exact st_eq z0
  replace hn : w4.length = k + 3 := by rw [hw, List.length_set]; exact hn
  clear hw
  refine lv_aload_n hx hb dX5_init_20 rfl (lv_at hl 0 rfl) ?_
  refine va_new (ci := 4) (fs := [.null]) (C := RX4) (T := TX4) (N := 1) hx hb hts inqX4 tyX4 tyX4_ok hown (hts _ cl_X5_18) (hts _ ib_X4) (hts _ ii_X4) hK hP hD hS hA rfl (fun j hj => by cases (show j = 0 by omega); rfl) (Nat.le_of_ble_eq_true rfl) (Nat.le_of_ble_eq_true rfl) dX5_init_21 (fun q3 H hP hD hS => ?_)
  obtain ⟨w5, hw⟩ : ∃ x, x = w4 ++ [(q3, .inr (4, [.null]))] := ⟨_, rfl⟩
  rw [← hw] at hP hD
  have z3 : w5[k + 3]? = some (q3, .inr (4, [.null])) := ap_new hw hn
  replace z0 := (ap_old hw hn (Nat.lt_add_of_pos_right (by decide))).trans z0
  replace z1 := (ap_old hw hn (Nat.add_lt_add_left (by decide) k)).trans z1
  replace z2 := (ap_old hw hn (Nat.add_lt_add_left (by decide) k)).trans z2
  replace hk : ∀ j : Nat, j < k → w5[j]? = ws0[j]? := fun j hj => (ap_old hw hn (Nat.lt_of_lt_of_le hj (Nat.le_add_right k _))).trans (hk j hj)
  replace hn : w5.length = k + 4 := ap_len hw hn
  clear hw
  refine lv_dup hx hb dX5_init_24 rfl ?_
  refine in_call (runIN (As := []) (rest := [.ref q3, .ref q0]) X cq_X4_init lk_X5_20 (c_X4_init l D cI cJ cZ w5 (k + 3) q3 base hn z3 hD) rfl rfl ⟨Nat.le_of_ble_eq_true rfl, Nat.le_of_ble_eq_true rfl⟩ hP rfl hl.1 rfl (Nat.le_of_ble_eq_true rfl) dX5_init_25 ⟨Nat.le_of_ble_eq_true rfl, Nat.le_of_ble_eq_true rfl⟩) hS (fun w6 H locs hP hD hB hS => ?_)
  obtain ⟨q4, hn2, hk2, y0, y1⟩ := hB
  replace z0 := (hk2 _ (Nat.lt_add_of_pos_right (by decide))).trans z0
  replace z1 := (hk2 _ (Nat.add_lt_add_left (by decide) k)).trans z1
  replace z2 := (hk2 _ (Nat.add_lt_add_left (by decide) k)).trans z2
  replace hk : ∀ j : Nat, j < k → w6[j]? = ws0[j]? := fun j hj => (hk2 j (Nat.lt_of_lt_of_le hj (Nat.le_add_right k _))).trans (hk j hj)
  have z3 : w6[k + 3]? = some (q3, .inr (4, [.ref q4])) := y0
  have z4 : w6[k + 4]? = some (q4, .inl (cJ, 169, .inr (.inl (fun _ => 0)))) := y1
  clear hn
  have hn : w6.length = k + 5 := hn2
  clear hn2 hk2 y0 y1
  refine va_putF (ci := 5) (v := .ref q3) (ty := (.object "AHandGoesUp$Spread")) (C := RX5) (T := TX5) (N := 4) hx hb hts inqX5 tyX5 tyX5_ok nmX5 hown hK hP hD hS (k) z0 rfl 2 (by decide) (hts _ fl_X5_21) (fun _ h9 => h9) rfl hin rfl (by decide +kernel) rfl rfl (Nat.le_of_ble_eq_true rfl) dX5_init_28 (fun H locs hP hD hS => ?_)
  obtain ⟨w7, hw⟩ : ∃ x, x = w6.set k (q0, .inr (5, [.ref q1, .ref q2, .ref q3, .int 0])) := ⟨_, rfl⟩
  replace hP : va_P D vwCl w7 H := by rw [hw]; exact hP
  replace hD : va_D (fun q => base ≤ q) w7 := by rw [hw]; exact hD
  replace z1 : w7[k + 1]? = some (q1, .inl (cI, 12, .inl (fun _ => 0))) := by rw [hw]; exact st_ne (Nat.ne_of_gt (Nat.lt_add_of_pos_right (by decide))) z1
  replace z2 : w7[k + 2]? = some (q2, .inl (cI, 12, .inl (fun _ => 0))) := by rw [hw]; exact st_ne (Nat.ne_of_gt (Nat.lt_add_of_pos_right (by decide))) z2
  replace z3 : w7[k + 3]? = some (q3, .inr (4, [.ref q4])) := by rw [hw]; exact st_ne (Nat.ne_of_gt (Nat.lt_add_of_pos_right (by decide))) z3
  replace z4 : w7[k + 4]? = some (q4, .inl (cJ, 169, .inr (.inl (fun _ => 0)))) := by rw [hw]; exact st_ne (Nat.ne_of_gt (Nat.lt_add_of_pos_right (by decide))) z4
  replace hk : ∀ j : Nat, j < k → w7[j]? = ws0[j]? := fun j hj => by rw [hw]; exact st_ne (Nat.ne_of_lt hj) (hk j hj)
  replace z0 : w7[k]? = some (q0, .inr (5, [.ref q1, .ref q2, .ref q3, .int 0])) := by rw [hw]; exact st_eq z0
  replace hn : w7.length = k + 5 := by rw [hw, List.length_set]; exact hn
  clear hw
  refine W.widen (k := 4) (n := 194) (Nat.le_of_ble_eq_true rfl) (Nat.le_of_ble_eq_true rfl) ?_
  rw [hQ]
  exact rn_v X hS hP hD ⟨q1, q2, q3, q4, hn, hk, z0, z1, z2, z3, z4⟩ dX5_init_31
theorem lk_X7_3 : Cond.methodLink RX7 3 objectInit ∈ aw := aw_at 267 (by decide +kernel) (by decide +kernel)
theorem cq_X7_init : cqI yX7_init cX7_init 1 0 := ⟨⟨aw_at 266 (by decide +kernel) (by decide +kernel), aw_at 86 (by decide +kernel) (by decide +kernel), by decide +kernel, by decide +kernel, by decide +kernel⟩, aw_at 265 (by decide +kernel) (by decide +kernel), rfl⟩
def rm_X7_init : Room := { frames := 1, cells := 1, slots := 10, locals := 12 }
set_option maxHeartbeats 4000000 in
set_option maxRecDepth 100000 in
theorem c_X7_init (l : Launch) (D : va_G) (cI cJ cZ : ClassId) (ws0 : va_W) (k q0 base : Nat) (hn : ws0.length = k + 1) (z0 : ws0[k]? = some (q0, .inr (7, [.null, .int 0, .int 0]))) (hD : va_D (fun q => base ≤ q) ws0) : Met l yX7_init (wq yX7_init cX7_init 1 none) rm_X7_init (Pq [.ref q0] D cI cJ cZ ws0) (Qn D (fun q => base ≤ q) (fun w => ∃ q1 : Nat, w.length = k + 2 ∧ (∀ j : Nat, j < k → w[j]? = ws0[j]?) ∧ w[k]? = some (q0, .inr (7, [.ref q1, .int 0, .int 0])) ∧ w[k + 1]? = some (q1, .inl (cI, 10, .inl (fun _ => 0))))) 1 10 (fun q => base ≤ q) := by
  refine mq_of (by decide) (Nat.le_of_ble_eq_true rfl) (fun p e s m args below meth c ls Q hQ X hin0 hP hl => ?_)
  obtain ⟨hx, hb, hr, hml, hown, hts, hlk, hK, hN⟩ := id X
  have hown : s.vm.findClass RX7 = some m.cls := hown
  have hin : meth.name = "<init>" := hin0 rfl
  have hl : lv_has ls 1 [(0, .ref q0)] := hl
  have hA : ∀ q : Nat, s.heap.size ≤ q → (fun q => base ≤ q) q := ba_le hP hD z0
  have hS : va_S (fun q => base ≤ q) s.heap s.heap [] := va_S.rf
  have hk : ∀ j : Nat, j < k → ws0[j]? = ws0[j]? := fun _ _ => rfl
  refine lv_aload_n hx hb dX7_init_0 rfl (lv_at hl 0 rfl) ?_
  refine W.objInit hx hb hown (hts _ lk_X7_3) (hts _ oi_inst) (hts _ oi_code) rfl (by rw [hml]; exact hl.1) rfl dX7_init_1 (Nat.le_of_ble_eq_true rfl) (Nat.le_of_ble_eq_true rfl) ?_
  refine W.eq (g2 := F0 m 4 ls []) rfl ?_
  refine lv_aload_n hx hb dX7_init_4 rfl (lv_at hl 0 rfl) ?_
  refine lv_bipush (v := (10 : Int32)) hx hb dX7_init_5 (by decide) ?_
  refine na_i (N := 10) hx hb hts hK hP hD hS hA (by decide) (by decide) (Nat.le_of_ble_eq_true rfl) (Nat.le_of_ble_eq_true rfl) (Nat.le_of_ble_eq_true rfl) dX7_init_7 (fun q1 w1 H hP hD hw hS => ?_)
  have z1 : w1[k + 1]? = some (q1, .inl (cI, 10, .inl (fun _ => 0))) := ap_new hw hn
  replace z0 := (ap_old hw hn (Nat.lt_add_of_pos_right (by decide))).trans z0
  replace hk : ∀ j : Nat, j < k → w1[j]? = ws0[j]? := fun j hj => (ap_old hw hn (Nat.lt_of_lt_of_le hj (Nat.le_add_right k _))).trans (hk j hj)
  replace hn : w1.length = k + 2 := ap_len hw hn
  clear hw
  refine va_putF (ci := 7) (v := .ref q1) (ty := (.array .int)) (C := RX7) (T := TX7) (N := 3) hx hb hts inqX7 tyX7 tyX7_ok nmX7 hown hK hP hD hS (k) z0 rfl 0 (by decide) (hts _ fl_X7_9) (fun _ h9 => h9) rfl hin rfl (by decide +kernel) rfl rfl (Nat.le_of_ble_eq_true rfl) dX7_init_9 (fun H locs hP hD hS => ?_)
  obtain ⟨w2, hw⟩ : ∃ x, x = w1.set k (q0, .inr (7, [.ref q1, .int 0, .int 0])) := ⟨_, rfl⟩
  replace hP : va_P D vwCl w2 H := by rw [hw]; exact hP
  replace hD : va_D (fun q => base ≤ q) w2 := by rw [hw]; exact hD
  replace z1 : w2[k + 1]? = some (q1, .inl (cI, 10, .inl (fun _ => 0))) := by rw [hw]; exact st_ne (Nat.ne_of_gt (Nat.lt_add_of_pos_right (by decide))) z1
  replace hk : ∀ j : Nat, j < k → w2[j]? = ws0[j]? := fun j hj => by rw [hw]; exact st_ne (Nat.ne_of_lt hj) (hk j hj)
  replace z0 : w2[k]? = some (q0, .inr (7, [.ref q1, .int 0, .int 0])) := by rw [hw]; exact st_eq z0
  replace hn : w2.length = k + 2 := by rw [hw, List.length_set]; exact hn
  clear hw
  refine W.widen (k := 1) (n := 10) (Nat.le_of_ble_eq_true rfl) (Nat.le_of_ble_eq_true rfl) ?_
  rw [hQ]
  exact rn_v X hS hP hD ⟨q1, hn, hk, z0, z1⟩ dX7_init_12
theorem lk_X8_1 : Cond.methodLink RX8 1 objectInit ∈ aw := aw_at 96 (by decide +kernel) (by decide +kernel)
theorem cl_X8_7 : Cond.classLink RX8 7 RX6 ∈ aw := aw_at 99 (by decide +kernel) (by decide +kernel)
theorem ib_X6 : Cond.instantiable RX6 2 ∈ aw := aw_at 100 (by decide +kernel) (by decide +kernel)
theorem ii_X6 : Cond.initialized RX6 ∈ aw := aw_at 79 (by decide +kernel) (by decide +kernel)
theorem lk_X8_9 : Cond.methodLinkNest RX8 9 yX6_init "AHandGoesUp" ∈ lw_tbl := List.mem_of_getElem? (i := 101) (by decide +kernel)
theorem cl_X8_16 : Cond.classLink RX8 16 RX3 ∈ aw := aw_at 115 (by decide +kernel) (by decide +kernel)
theorem ib_X3 : Cond.instantiable RX3 9 ∈ aw := aw_at 116 (by decide +kernel) (by decide +kernel)
theorem ii_X3 : Cond.initialized RX3 ∈ aw := aw_at 80 (by decide +kernel) (by decide +kernel)
theorem lk_X8_18 : Cond.methodLinkNest RX8 18 yX3_init "AHandGoesUp" ∈ lw_tbl := List.mem_of_getElem? (i := 117) (by decide +kernel)
theorem cl_X8_23 : Cond.classLink RX8 23 RX1 ∈ aw := aw_at 189 (by decide +kernel) (by decide +kernel)
theorem ib_X1 : Cond.instantiable RX1 1 ∈ aw := aw_at 190 (by decide +kernel) (by decide +kernel)
theorem ii_X1 : Cond.initialized RX1 ∈ aw := aw_at 82 (by decide +kernel) (by decide +kernel)
theorem lk_X8_25 : Cond.methodLinkNest RX8 25 yX1_init "AHandGoesUp" ∈ lw_tbl := List.mem_of_getElem? (i := 191) (by decide +kernel)
theorem cl_X8_30 : Cond.classLink RX8 30 RX0 ∈ aw := aw_at 211 (by decide +kernel) (by decide +kernel)
theorem ib_X0 : Cond.instantiable RX0 6 ∈ aw := aw_at 212 (by decide +kernel) (by decide +kernel)
theorem ii_X0 : Cond.initialized RX0 ∈ aw := aw_at 84 (by decide +kernel) (by decide +kernel)
theorem lk_X8_32 : Cond.methodLinkNest RX8 32 yX0_init "AHandGoesUp" ∈ lw_tbl := List.mem_of_getElem? (i := 213) (by decide +kernel)
theorem cl_X8_37 : Cond.classLink RX8 37 RX2 ∈ aw := aw_at 238 (by decide +kernel) (by decide +kernel)
theorem lk_X8_39 : Cond.methodLinkNest RX8 39 yX2_init "AHandGoesUp" ∈ lw_tbl := List.mem_of_getElem? (i := 239) (by decide +kernel)
theorem cl_X8_47 : Cond.classLink RX8 47 RX5 ∈ aw := aw_at 240 (by decide +kernel) (by decide +kernel)
theorem ib_X5 : Cond.instantiable RX5 4 ∈ aw := aw_at 241 (by decide +kernel) (by decide +kernel)
theorem ii_X5 : Cond.initialized RX5 ∈ aw := aw_at 85 (by decide +kernel) (by decide +kernel)
theorem lk_X8_49 : Cond.methodLinkNest RX8 49 yX5_init "AHandGoesUp" ∈ lw_tbl := List.mem_of_getElem? (i := 242) (by decide +kernel)
theorem cl_X8_54 : Cond.classLink RX8 54 RX7 ∈ aw := aw_at 262 (by decide +kernel) (by decide +kernel)
theorem ib_X7 : Cond.instantiable RX7 3 ∈ aw := aw_at 263 (by decide +kernel) (by decide +kernel)
theorem ii_X7 : Cond.initialized RX7 ∈ aw := aw_at 86 (by decide +kernel) (by decide +kernel)
theorem lk_X8_56 : Cond.methodLinkNest RX8 56 yX7_init "AHandGoesUp" ∈ lw_tbl := List.mem_of_getElem? (i := 264) (by decide +kernel)
theorem cq_X8_init : cqI yX8_init cX8_init 1 0 := ⟨⟨aw_at 95 (by decide +kernel) (by decide +kernel), aw_at 78 (by decide +kernel) (by decide +kernel), by decide +kernel, by decide +kernel, by decide +kernel⟩, aw_at 94 (by decide +kernel) (by decide +kernel), rfl⟩
def rm_X8_init : Room := { frames := 3, cells := 34, slots := 842, locals := 52 }
set_option maxHeartbeats 4000000 in
set_option maxRecDepth 100000 in
theorem c_X8_init (l : Launch) (D : va_G) (cI cJ cZ : ClassId) (ws0 : va_W) (k q0 base : Nat) (hn : ws0.length = k + 1) (z0 : ws0[k]? = some (q0, .inr (8, [.null, .null, .null, .null, .null, .null, .null, .null]))) (hD : va_D (fun q => base ≤ q) ws0) : Met l yX8_init (wq yX8_init cX8_init 1 none) rm_X8_init (Pq [.ref q0] D cI cJ cZ ws0) (Qn D (fun q => base ≤ q) (fun w => ∃ q1 q2 q3 q4 q5 q6 q7 q8 q9 q10 q11 q12 q13 q14 q15 q16 q17 q18 q19 q20 q21 q22 q23 q24 q25 q26 q27 q28 q29 q30 q31 q32 q33 q34 : Nat, w.length = k + 35 ∧ (∀ j : Nat, j < k → w[j]? = ws0[j]?) ∧ w[k]? = some (q0, .inr (8, [.ref q1, .ref q3, .ref q13, .ref q16, .ref q22, .ref q25, .ref q28, .ref q33])) ∧ w[k + 1]? = some (q1, .inr (6, [.ref q2, .int 0])) ∧ w[k + 2]? = some (q2, .inl (cI, 72, .inl (fun _ => 0))) ∧ w[k + 3]? = some (q3, .inr (3, [.ref q4, .ref q5, .ref q6, .ref q7, .ref q8, .ref q9, .ref q10, .int 0, .int 5])) ∧ w[k + 4]? = some (q4, .inl (cI, 12, .inl (fun _ => 0))) ∧ w[k + 5]? = some (q5, .inl (cI, 12, .inl (fun _ => 0))) ∧ w[k + 6]? = some (q6, .inl (cI, 12, .inl (fun _ => 0))) ∧ w[k + 7]? = some (q7, .inl (cI, 12, .inl (fun _ => 0))) ∧ w[k + 8]? = some (q8, .inl (cI, 12, .inl (fun _ => 0))) ∧ w[k + 9]? = some (q9, .inl (cI, 12, .inl (fun _ => 0))) ∧ w[k + 10]? = some (q10, .inr (2, [.ref q11, .ref q12, .long 0, .int 0, .int 0, .int 0, .int 0])) ∧ w[k + 11]? = some (q11, .inl (cI, 12, .inl (fun _ => 0))) ∧ w[k + 12]? = some (q12, .inl (cI, 12, .inl (fun _ => 0))) ∧ w[k + 13]? = some (q13, .inr (1, [.ref q14])) ∧ w[k + 14]? = some (q14, .inr (4, [.ref q15])) ∧ w[k + 15]? = some (q15, .inl (cJ, 169, .inr (.inl (fun _ => 0)))) ∧ w[k + 16]? = some (q16, .inr (0, [.ref q17, .ref q18, .ref q19, .ref q20, .int 0, .int 0])) ∧ w[k + 17]? = some (q17, .inl (cI, 12, .inl (fun _ => 0))) ∧ w[k + 18]? = some (q18, .inl (cI, 12, .inl (fun _ => 0))) ∧ w[k + 19]? = some (q19, .inl (cI, 12, .inl (fun _ => 0))) ∧ w[k + 20]? = some (q20, .inr (4, [.ref q21])) ∧ w[k + 21]? = some (q21, .inl (cJ, 169, .inr (.inl (fun _ => 0)))) ∧ w[k + 22]? = some (q22, .inr (2, [.ref q23, .ref q24, .long 0, .int 0, .int 0, .int 0, .int 0])) ∧ w[k + 23]? = some (q23, .inl (cI, 12, .inl (fun _ => 0))) ∧ w[k + 24]? = some (q24, .inl (cI, 12, .inl (fun _ => 0))) ∧ w[k + 25]? = some (q25, .inr (2, [.ref q26, .ref q27, .long 0, .int 0, .int 0, .int 0, .int 0])) ∧ w[k + 26]? = some (q26, .inl (cI, 12, .inl (fun _ => 0))) ∧ w[k + 27]? = some (q27, .inl (cI, 12, .inl (fun _ => 0))) ∧ w[k + 28]? = some (q28, .inr (5, [.ref q29, .ref q30, .ref q31, .int 0])) ∧ w[k + 29]? = some (q29, .inl (cI, 12, .inl (fun _ => 0))) ∧ w[k + 30]? = some (q30, .inl (cI, 12, .inl (fun _ => 0))) ∧ w[k + 31]? = some (q31, .inr (4, [.ref q32])) ∧ w[k + 32]? = some (q32, .inl (cJ, 169, .inr (.inl (fun _ => 0)))) ∧ w[k + 33]? = some (q33, .inr (7, [.ref q34, .int 0, .int 0])) ∧ w[k + 34]? = some (q34, .inl (cI, 10, .inl (fun _ => 0))))) 34 842 (fun q => base ≤ q) := by
  refine mq_of (by decide) (Nat.le_of_ble_eq_true rfl) (fun p e s m args below meth c ls Q hQ X hin0 hP hl => ?_)
  obtain ⟨hx, hb, hr, hml, hown, hts, hlk, hK, hN⟩ := id X
  have hown : s.vm.findClass RX8 = some m.cls := hown
  have hin : meth.name = "<init>" := hin0 rfl
  have hl : lv_has ls 1 [(0, .ref q0)] := hl
  have hA : ∀ q : Nat, s.heap.size ≤ q → (fun q => base ≤ q) q := ba_le hP hD z0
  have hS : va_S (fun q => base ≤ q) s.heap s.heap [] := va_S.rf
  have hk : ∀ j : Nat, j < k → ws0[j]? = ws0[j]? := fun _ _ => rfl
  refine lv_aload_n hx hb dX8_init_0 rfl (lv_at hl 0 rfl) ?_
  refine W.objInit hx hb hown (hts _ lk_X8_1) (hts _ oi_inst) (hts _ oi_code) rfl (by rw [hml]; exact hl.1) rfl dX8_init_1 (Nat.le_of_ble_eq_true rfl) (Nat.le_of_ble_eq_true rfl) ?_
  refine W.eq (g2 := F0 m 4 ls []) rfl ?_
  refine lv_aload_n hx hb dX8_init_4 rfl (lv_at hl 0 rfl) ?_
  refine va_new (ci := 6) (fs := [.null, .int 0]) (C := RX6) (T := TX6) (N := 2) hx hb hts inqX6 tyX6 tyX6_ok hown (hts _ cl_X8_7) (hts _ ib_X6) (hts _ ii_X6) hK hP hD hS hA rfl (fun j hj => by rcases (show j = 0 ∨ j = 1 by omega) with rfl | rfl <;> rfl) (Nat.le_of_ble_eq_true rfl) (Nat.le_of_ble_eq_true rfl) dX8_init_5 (fun q1 H hP hD hS => ?_)
  obtain ⟨w1, hw⟩ : ∃ x, x = ws0 ++ [(q1, .inr (6, [.null, .int 0]))] := ⟨_, rfl⟩
  rw [← hw] at hP hD
  have z1 : w1[k + 1]? = some (q1, .inr (6, [.null, .int 0])) := ap_new hw hn
  replace z0 := (ap_old hw hn (Nat.lt_add_of_pos_right (by decide))).trans z0
  replace hk : ∀ j : Nat, j < k → w1[j]? = ws0[j]? := fun j hj => (ap_old hw hn (Nat.lt_of_lt_of_le hj (Nat.le_add_right k _))).trans (hk j hj)
  replace hn : w1.length = k + 2 := ap_len hw hn
  clear hw
  refine lv_dup hx hb dX8_init_8 rfl ?_
  refine in_call (runIN (As := []) (rest := [.ref q1, .ref q0]) X cq_X6_init lk_X8_9 (c_X6_init l D cI cJ cZ w1 (k + 1) q1 base hn z1 hD) rfl rfl ⟨Nat.le_of_ble_eq_true rfl, Nat.le_of_ble_eq_true rfl⟩ hP rfl hl.1 rfl (Nat.le_of_ble_eq_true rfl) dX8_init_9 ⟨Nat.le_of_ble_eq_true rfl, Nat.le_of_ble_eq_true rfl⟩) hS (fun w2 H locs hP hD hB hS => ?_)
  obtain ⟨q2, hn2, hk2, y0, y1⟩ := hB
  replace z0 := (hk2 _ (Nat.lt_add_of_pos_right (by decide))).trans z0
  replace hk : ∀ j : Nat, j < k → w2[j]? = ws0[j]? := fun j hj => (hk2 j (Nat.lt_of_lt_of_le hj (Nat.le_add_right k _))).trans (hk j hj)
  have z1 : w2[k + 1]? = some (q1, .inr (6, [.ref q2, .int 0])) := y0
  have z2 : w2[k + 2]? = some (q2, .inl (cI, 72, .inl (fun _ => 0))) := y1
  clear hn
  have hn : w2.length = k + 3 := hn2
  clear hn2 hk2 y0 y1
  refine va_putF (ci := 8) (v := .ref q1) (ty := (.object "AHandGoesUp$Text")) (C := RX8) (T := TX8) (N := 8) hx hb hts inqX8 tyX8 tyX8_ok nmX8 hown hK hP hD hS (k) z0 rfl 0 (by decide) (hts _ fl_X8_10) (fun _ h9 => h9) rfl hin rfl (by decide +kernel) rfl rfl (Nat.le_of_ble_eq_true rfl) dX8_init_12 (fun H locs hP hD hS => ?_)
  obtain ⟨w3, hw⟩ : ∃ x, x = w2.set k (q0, .inr (8, [.ref q1, .null, .null, .null, .null, .null, .null, .null])) := ⟨_, rfl⟩
  replace hP : va_P D vwCl w3 H := by rw [hw]; exact hP
  replace hD : va_D (fun q => base ≤ q) w3 := by rw [hw]; exact hD
  replace z1 : w3[k + 1]? = some (q1, .inr (6, [.ref q2, .int 0])) := by rw [hw]; exact st_ne (Nat.ne_of_gt (Nat.lt_add_of_pos_right (by decide))) z1
  replace z2 : w3[k + 2]? = some (q2, .inl (cI, 72, .inl (fun _ => 0))) := by rw [hw]; exact st_ne (Nat.ne_of_gt (Nat.lt_add_of_pos_right (by decide))) z2
  replace hk : ∀ j : Nat, j < k → w3[j]? = ws0[j]? := fun j hj => by rw [hw]; exact st_ne (Nat.ne_of_lt hj) (hk j hj)
  replace z0 : w3[k]? = some (q0, .inr (8, [.ref q1, .null, .null, .null, .null, .null, .null, .null])) := by rw [hw]; exact st_eq z0
  replace hn : w3.length = k + 3 := by rw [hw, List.length_set]; exact hn
  clear hw
  refine lv_aload_n hx hb dX8_init_15 rfl (lv_at hl 0 rfl) ?_
  refine va_new (ci := 3) (fs := [.null, .null, .null, .null, .null, .null, .null, .int 0, .int 0]) (C := RX3) (T := TX3) (N := 9) hx hb hts inqX3 tyX3 tyX3_ok hown (hts _ cl_X8_16) (hts _ ib_X3) (hts _ ii_X3) hK hP hD hS hA rfl (fun j hj => by rcases (show j = 0 ∨ j = 1 ∨ j = 2 ∨ j = 3 ∨ j = 4 ∨ j = 5 ∨ j = 6 ∨ j = 7 ∨ j = 8 by omega) with rfl | rfl | rfl | rfl | rfl | rfl | rfl | rfl | rfl <;> rfl) (Nat.le_of_ble_eq_true rfl) (Nat.le_of_ble_eq_true rfl) dX8_init_16 (fun q3 H hP hD hS => ?_)
  obtain ⟨w4, hw⟩ : ∃ x, x = w3 ++ [(q3, .inr (3, [.null, .null, .null, .null, .null, .null, .null, .int 0, .int 0]))] := ⟨_, rfl⟩
  rw [← hw] at hP hD
  have z3 : w4[k + 3]? = some (q3, .inr (3, [.null, .null, .null, .null, .null, .null, .null, .int 0, .int 0])) := ap_new hw hn
  replace z0 := (ap_old hw hn (Nat.lt_add_of_pos_right (by decide))).trans z0
  replace z1 := (ap_old hw hn (Nat.add_lt_add_left (by decide) k)).trans z1
  replace z2 := (ap_old hw hn (Nat.add_lt_add_left (by decide) k)).trans z2
  replace hk : ∀ j : Nat, j < k → w4[j]? = ws0[j]? := fun j hj => (ap_old hw hn (Nat.lt_of_lt_of_le hj (Nat.le_add_right k _))).trans (hk j hj)
  replace hn : w4.length = k + 4 := ap_len hw hn
  clear hw
  refine lv_dup hx hb dX8_init_19 rfl ?_
  refine in_call (runIN (As := []) (rest := [.ref q3, .ref q0]) X cq_X3_init lk_X8_18 (c_X3_init l D cI cJ cZ w4 (k + 3) q3 base hn z3 hD) rfl rfl ⟨Nat.le_of_ble_eq_true rfl, Nat.le_of_ble_eq_true rfl⟩ hP rfl hl.1 rfl (Nat.le_of_ble_eq_true rfl) dX8_init_20 ⟨Nat.le_of_ble_eq_true rfl, Nat.le_of_ble_eq_true rfl⟩) hS (fun w5 H locs hP hD hB hS => ?_)
  obtain ⟨q4, q5, q6, q7, q8, q9, q10, q11, q12, hn2, hk2, y0, y1, y2, y3, y4, y5, y6, y7, y8, y9⟩ := hB
  replace z0 := (hk2 _ (Nat.lt_add_of_pos_right (by decide))).trans z0
  replace z1 := (hk2 _ (Nat.add_lt_add_left (by decide) k)).trans z1
  replace z2 := (hk2 _ (Nat.add_lt_add_left (by decide) k)).trans z2
  replace hk : ∀ j : Nat, j < k → w5[j]? = ws0[j]? := fun j hj => (hk2 j (Nat.lt_of_lt_of_le hj (Nat.le_add_right k _))).trans (hk j hj)
  have z3 : w5[k + 3]? = some (q3, .inr (3, [.ref q4, .ref q5, .ref q6, .ref q7, .ref q8, .ref q9, .ref q10, .int 0, .int 5])) := y0
  have z4 : w5[k + 4]? = some (q4, .inl (cI, 12, .inl (fun _ => 0))) := y1
  have z5 : w5[k + 5]? = some (q5, .inl (cI, 12, .inl (fun _ => 0))) := y2
  have z6 : w5[k + 6]? = some (q6, .inl (cI, 12, .inl (fun _ => 0))) := y3
  have z7 : w5[k + 7]? = some (q7, .inl (cI, 12, .inl (fun _ => 0))) := y4
  have z8 : w5[k + 8]? = some (q8, .inl (cI, 12, .inl (fun _ => 0))) := y5
  have z9 : w5[k + 9]? = some (q9, .inl (cI, 12, .inl (fun _ => 0))) := y6
  have z10 : w5[k + 10]? = some (q10, .inr (2, [.ref q11, .ref q12, .long 0, .int 0, .int 0, .int 0, .int 0])) := y7
  have z11 : w5[k + 11]? = some (q11, .inl (cI, 12, .inl (fun _ => 0))) := y8
  have z12 : w5[k + 12]? = some (q12, .inl (cI, 12, .inl (fun _ => 0))) := y9
  clear hn
  have hn : w5.length = k + 13 := hn2
  clear hn2 hk2 y0 y1 y2 y3 y4 y5 y6 y7 y8 y9
  refine va_putF (ci := 8) (v := .ref q3) (ty := (.object "AHandGoesUp$Roster")) (C := RX8) (T := TX8) (N := 8) hx hb hts inqX8 tyX8 tyX8_ok nmX8 hown hK hP hD hS (k) z0 rfl 1 (by decide) (hts _ fl_X8_19) (fun _ h9 => h9) rfl hin rfl (by decide +kernel) rfl rfl (Nat.le_of_ble_eq_true rfl) dX8_init_23 (fun H locs hP hD hS => ?_)
  obtain ⟨w6, hw⟩ : ∃ x, x = w5.set k (q0, .inr (8, [.ref q1, .ref q3, .null, .null, .null, .null, .null, .null])) := ⟨_, rfl⟩
  replace hP : va_P D vwCl w6 H := by rw [hw]; exact hP
  replace hD : va_D (fun q => base ≤ q) w6 := by rw [hw]; exact hD
  replace z1 : w6[k + 1]? = some (q1, .inr (6, [.ref q2, .int 0])) := by rw [hw]; exact st_ne (Nat.ne_of_gt (Nat.lt_add_of_pos_right (by decide))) z1
  replace z2 : w6[k + 2]? = some (q2, .inl (cI, 72, .inl (fun _ => 0))) := by rw [hw]; exact st_ne (Nat.ne_of_gt (Nat.lt_add_of_pos_right (by decide))) z2
  replace z3 : w6[k + 3]? = some (q3, .inr (3, [.ref q4, .ref q5, .ref q6, .ref q7, .ref q8, .ref q9, .ref q10, .int 0, .int 5])) := by rw [hw]; exact st_ne (Nat.ne_of_gt (Nat.lt_add_of_pos_right (by decide))) z3
  replace z4 : w6[k + 4]? = some (q4, .inl (cI, 12, .inl (fun _ => 0))) := by rw [hw]; exact st_ne (Nat.ne_of_gt (Nat.lt_add_of_pos_right (by decide))) z4
  replace z5 : w6[k + 5]? = some (q5, .inl (cI, 12, .inl (fun _ => 0))) := by rw [hw]; exact st_ne (Nat.ne_of_gt (Nat.lt_add_of_pos_right (by decide))) z5
  replace z6 : w6[k + 6]? = some (q6, .inl (cI, 12, .inl (fun _ => 0))) := by rw [hw]; exact st_ne (Nat.ne_of_gt (Nat.lt_add_of_pos_right (by decide))) z6
  replace z7 : w6[k + 7]? = some (q7, .inl (cI, 12, .inl (fun _ => 0))) := by rw [hw]; exact st_ne (Nat.ne_of_gt (Nat.lt_add_of_pos_right (by decide))) z7
  replace z8 : w6[k + 8]? = some (q8, .inl (cI, 12, .inl (fun _ => 0))) := by rw [hw]; exact st_ne (Nat.ne_of_gt (Nat.lt_add_of_pos_right (by decide))) z8
  replace z9 : w6[k + 9]? = some (q9, .inl (cI, 12, .inl (fun _ => 0))) := by rw [hw]; exact st_ne (Nat.ne_of_gt (Nat.lt_add_of_pos_right (by decide))) z9
  replace z10 : w6[k + 10]? = some (q10, .inr (2, [.ref q11, .ref q12, .long 0, .int 0, .int 0, .int 0, .int 0])) := by rw [hw]; exact st_ne (Nat.ne_of_gt (Nat.lt_add_of_pos_right (by decide))) z10
  replace z11 : w6[k + 11]? = some (q11, .inl (cI, 12, .inl (fun _ => 0))) := by rw [hw]; exact st_ne (Nat.ne_of_gt (Nat.lt_add_of_pos_right (by decide))) z11
  replace z12 : w6[k + 12]? = some (q12, .inl (cI, 12, .inl (fun _ => 0))) := by rw [hw]; exact st_ne (Nat.ne_of_gt (Nat.lt_add_of_pos_right (by decide))) z12
  replace hk : ∀ j : Nat, j < k → w6[j]? = ws0[j]? := fun j hj => by rw [hw]; exact st_ne (Nat.ne_of_lt hj) (hk j hj)
  replace z0 : w6[k]? = some (q0, .inr (8, [.ref q1, .ref q3, .null, .null, .null, .null, .null, .null])) := by rw [hw]; exact st_eq z0
  replace hn : w6.length = k + 13 := by rw [hw, List.length_set]; exact hn
  clear hw
  refine lv_aload_n hx hb dX8_init_26 rfl (lv_at hl 0 rfl) ?_
  refine va_new (ci := 1) (fs := [.null]) (C := RX1) (T := TX1) (N := 1) hx hb hts inqX1 tyX1 tyX1_ok hown (hts _ cl_X8_23) (hts _ ib_X1) (hts _ ii_X1) hK hP hD hS hA rfl (fun j hj => by cases (show j = 0 by omega); rfl) (Nat.le_of_ble_eq_true rfl) (Nat.le_of_ble_eq_true rfl) dX8_init_27 (fun q13 H hP hD hS => ?_)
  obtain ⟨w7, hw⟩ : ∃ x, x = w6 ++ [(q13, .inr (1, [.null]))] := ⟨_, rfl⟩
  rw [← hw] at hP hD
  have z13 : w7[k + 13]? = some (q13, .inr (1, [.null])) := ap_new hw hn
  replace z0 := (ap_old hw hn (Nat.lt_add_of_pos_right (by decide))).trans z0
  replace z1 := (ap_old hw hn (Nat.add_lt_add_left (by decide) k)).trans z1
  replace z2 := (ap_old hw hn (Nat.add_lt_add_left (by decide) k)).trans z2
  replace z3 := (ap_old hw hn (Nat.add_lt_add_left (by decide) k)).trans z3
  replace z4 := (ap_old hw hn (Nat.add_lt_add_left (by decide) k)).trans z4
  replace z5 := (ap_old hw hn (Nat.add_lt_add_left (by decide) k)).trans z5
  replace z6 := (ap_old hw hn (Nat.add_lt_add_left (by decide) k)).trans z6
  replace z7 := (ap_old hw hn (Nat.add_lt_add_left (by decide) k)).trans z7
  replace z8 := (ap_old hw hn (Nat.add_lt_add_left (by decide) k)).trans z8
  replace z9 := (ap_old hw hn (Nat.add_lt_add_left (by decide) k)).trans z9
  replace z10 := (ap_old hw hn (Nat.add_lt_add_left (by decide) k)).trans z10
  replace z11 := (ap_old hw hn (Nat.add_lt_add_left (by decide) k)).trans z11
  replace z12 := (ap_old hw hn (Nat.add_lt_add_left (by decide) k)).trans z12
  replace hk : ∀ j : Nat, j < k → w7[j]? = ws0[j]? := fun j hj => (ap_old hw hn (Nat.lt_of_lt_of_le hj (Nat.le_add_right k _))).trans (hk j hj)
  replace hn : w7.length = k + 14 := ap_len hw hn
  clear hw
  refine lv_dup hx hb dX8_init_30 rfl ?_
  refine in_call (runIN (As := []) (rest := [.ref q13, .ref q0]) X cq_X1_init lk_X8_25 (c_X1_init l D cI cJ cZ w7 (k + 13) q13 base hn z13 hD) rfl rfl ⟨Nat.le_of_ble_eq_true rfl, Nat.le_of_ble_eq_true rfl⟩ hP rfl hl.1 rfl (Nat.le_of_ble_eq_true rfl) dX8_init_31 ⟨Nat.le_of_ble_eq_true rfl, Nat.le_of_ble_eq_true rfl⟩) hS (fun w8 H locs hP hD hB hS => ?_)
  obtain ⟨q14, q15, hn2, hk2, y0, y1, y2⟩ := hB
  replace z0 := (hk2 _ (Nat.lt_add_of_pos_right (by decide))).trans z0
  replace z1 := (hk2 _ (Nat.add_lt_add_left (by decide) k)).trans z1
  replace z2 := (hk2 _ (Nat.add_lt_add_left (by decide) k)).trans z2
  replace z3 := (hk2 _ (Nat.add_lt_add_left (by decide) k)).trans z3
  replace z4 := (hk2 _ (Nat.add_lt_add_left (by decide) k)).trans z4
  replace z5 := (hk2 _ (Nat.add_lt_add_left (by decide) k)).trans z5
  replace z6 := (hk2 _ (Nat.add_lt_add_left (by decide) k)).trans z6
  replace z7 := (hk2 _ (Nat.add_lt_add_left (by decide) k)).trans z7
  replace z8 := (hk2 _ (Nat.add_lt_add_left (by decide) k)).trans z8
  replace z9 := (hk2 _ (Nat.add_lt_add_left (by decide) k)).trans z9
  replace z10 := (hk2 _ (Nat.add_lt_add_left (by decide) k)).trans z10
  replace z11 := (hk2 _ (Nat.add_lt_add_left (by decide) k)).trans z11
  replace z12 := (hk2 _ (Nat.add_lt_add_left (by decide) k)).trans z12
  replace hk : ∀ j : Nat, j < k → w8[j]? = ws0[j]? := fun j hj => (hk2 j (Nat.lt_of_lt_of_le hj (Nat.le_add_right k _))).trans (hk j hj)
  have z13 : w8[k + 13]? = some (q13, .inr (1, [.ref q14])) := y0
  have z14 : w8[k + 14]? = some (q14, .inr (4, [.ref q15])) := y1
  have z15 : w8[k + 15]? = some (q15, .inl (cJ, 169, .inr (.inl (fun _ => 0)))) := y2
  clear hn
  have hn : w8.length = k + 16 := hn2
  clear hn2 hk2 y0 y1 y2
  refine va_putF (ci := 8) (v := .ref q13) (ty := (.object "AHandGoesUp$Hands")) (C := RX8) (T := TX8) (N := 8) hx hb hts inqX8 tyX8 tyX8_ok nmX8 hown hK hP hD hS (k) z0 rfl 2 (by decide) (hts _ fl_X8_26) (fun _ h9 => h9) rfl hin rfl (by decide +kernel) rfl rfl (Nat.le_of_ble_eq_true rfl) dX8_init_34 (fun H locs hP hD hS => ?_)
  obtain ⟨w9, hw⟩ : ∃ x, x = w8.set k (q0, .inr (8, [.ref q1, .ref q3, .ref q13, .null, .null, .null, .null, .null])) := ⟨_, rfl⟩
  replace hP : va_P D vwCl w9 H := by rw [hw]; exact hP
  replace hD : va_D (fun q => base ≤ q) w9 := by rw [hw]; exact hD
  replace z1 : w9[k + 1]? = some (q1, .inr (6, [.ref q2, .int 0])) := by rw [hw]; exact st_ne (Nat.ne_of_gt (Nat.lt_add_of_pos_right (by decide))) z1
  replace z2 : w9[k + 2]? = some (q2, .inl (cI, 72, .inl (fun _ => 0))) := by rw [hw]; exact st_ne (Nat.ne_of_gt (Nat.lt_add_of_pos_right (by decide))) z2
  replace z3 : w9[k + 3]? = some (q3, .inr (3, [.ref q4, .ref q5, .ref q6, .ref q7, .ref q8, .ref q9, .ref q10, .int 0, .int 5])) := by rw [hw]; exact st_ne (Nat.ne_of_gt (Nat.lt_add_of_pos_right (by decide))) z3
  replace z4 : w9[k + 4]? = some (q4, .inl (cI, 12, .inl (fun _ => 0))) := by rw [hw]; exact st_ne (Nat.ne_of_gt (Nat.lt_add_of_pos_right (by decide))) z4
  replace z5 : w9[k + 5]? = some (q5, .inl (cI, 12, .inl (fun _ => 0))) := by rw [hw]; exact st_ne (Nat.ne_of_gt (Nat.lt_add_of_pos_right (by decide))) z5
  replace z6 : w9[k + 6]? = some (q6, .inl (cI, 12, .inl (fun _ => 0))) := by rw [hw]; exact st_ne (Nat.ne_of_gt (Nat.lt_add_of_pos_right (by decide))) z6
  replace z7 : w9[k + 7]? = some (q7, .inl (cI, 12, .inl (fun _ => 0))) := by rw [hw]; exact st_ne (Nat.ne_of_gt (Nat.lt_add_of_pos_right (by decide))) z7
  replace z8 : w9[k + 8]? = some (q8, .inl (cI, 12, .inl (fun _ => 0))) := by rw [hw]; exact st_ne (Nat.ne_of_gt (Nat.lt_add_of_pos_right (by decide))) z8
  replace z9 : w9[k + 9]? = some (q9, .inl (cI, 12, .inl (fun _ => 0))) := by rw [hw]; exact st_ne (Nat.ne_of_gt (Nat.lt_add_of_pos_right (by decide))) z9
  replace z10 : w9[k + 10]? = some (q10, .inr (2, [.ref q11, .ref q12, .long 0, .int 0, .int 0, .int 0, .int 0])) := by rw [hw]; exact st_ne (Nat.ne_of_gt (Nat.lt_add_of_pos_right (by decide))) z10
  replace z11 : w9[k + 11]? = some (q11, .inl (cI, 12, .inl (fun _ => 0))) := by rw [hw]; exact st_ne (Nat.ne_of_gt (Nat.lt_add_of_pos_right (by decide))) z11
  replace z12 : w9[k + 12]? = some (q12, .inl (cI, 12, .inl (fun _ => 0))) := by rw [hw]; exact st_ne (Nat.ne_of_gt (Nat.lt_add_of_pos_right (by decide))) z12
  replace z13 : w9[k + 13]? = some (q13, .inr (1, [.ref q14])) := by rw [hw]; exact st_ne (Nat.ne_of_gt (Nat.lt_add_of_pos_right (by decide))) z13
  replace z14 : w9[k + 14]? = some (q14, .inr (4, [.ref q15])) := by rw [hw]; exact st_ne (Nat.ne_of_gt (Nat.lt_add_of_pos_right (by decide))) z14
  replace z15 : w9[k + 15]? = some (q15, .inl (cJ, 169, .inr (.inl (fun _ => 0)))) := by rw [hw]; exact st_ne (Nat.ne_of_gt (Nat.lt_add_of_pos_right (by decide))) z15
  replace hk : ∀ j : Nat, j < k → w9[j]? = ws0[j]? := fun j hj => by rw [hw]; exact st_ne (Nat.ne_of_lt hj) (hk j hj)
  replace z0 : w9[k]? = some (q0, .inr (8, [.ref q1, .ref q3, .ref q13, .null, .null, .null, .null, .null])) := by rw [hw]; exact st_eq z0
  replace hn : w9.length = k + 16 := by rw [hw, List.length_set]; exact hn
  clear hw
  refine lv_aload_n hx hb dX8_init_37 rfl (lv_at hl 0 rfl) ?_
  refine va_new (ci := 0) (fs := [.null, .null, .null, .null, .int 0, .int 0]) (C := RX0) (T := TX0) (N := 6) hx hb hts inqX0 tyX0 tyX0_ok hown (hts _ cl_X8_30) (hts _ ib_X0) (hts _ ii_X0) hK hP hD hS hA rfl (fun j hj => by rcases (show j = 0 ∨ j = 1 ∨ j = 2 ∨ j = 3 ∨ j = 4 ∨ j = 5 by omega) with rfl | rfl | rfl | rfl | rfl | rfl <;> rfl) (Nat.le_of_ble_eq_true rfl) (Nat.le_of_ble_eq_true rfl) dX8_init_38 (fun q16 H hP hD hS => ?_)
  obtain ⟨w10, hw⟩ : ∃ x, x = w9 ++ [(q16, .inr (0, [.null, .null, .null, .null, .int 0, .int 0]))] := ⟨_, rfl⟩
  rw [← hw] at hP hD
  have z16 : w10[k + 16]? = some (q16, .inr (0, [.null, .null, .null, .null, .int 0, .int 0])) := ap_new hw hn
  replace z0 := (ap_old hw hn (Nat.lt_add_of_pos_right (by decide))).trans z0
  replace z1 := (ap_old hw hn (Nat.add_lt_add_left (by decide) k)).trans z1
  replace z2 := (ap_old hw hn (Nat.add_lt_add_left (by decide) k)).trans z2
  replace z3 := (ap_old hw hn (Nat.add_lt_add_left (by decide) k)).trans z3
  replace z4 := (ap_old hw hn (Nat.add_lt_add_left (by decide) k)).trans z4
  replace z5 := (ap_old hw hn (Nat.add_lt_add_left (by decide) k)).trans z5
  replace z6 := (ap_old hw hn (Nat.add_lt_add_left (by decide) k)).trans z6
  replace z7 := (ap_old hw hn (Nat.add_lt_add_left (by decide) k)).trans z7
  replace z8 := (ap_old hw hn (Nat.add_lt_add_left (by decide) k)).trans z8
  replace z9 := (ap_old hw hn (Nat.add_lt_add_left (by decide) k)).trans z9
  replace z10 := (ap_old hw hn (Nat.add_lt_add_left (by decide) k)).trans z10
  replace z11 := (ap_old hw hn (Nat.add_lt_add_left (by decide) k)).trans z11
  replace z12 := (ap_old hw hn (Nat.add_lt_add_left (by decide) k)).trans z12
  replace z13 := (ap_old hw hn (Nat.add_lt_add_left (by decide) k)).trans z13
  replace z14 := (ap_old hw hn (Nat.add_lt_add_left (by decide) k)).trans z14
  replace z15 := (ap_old hw hn (Nat.add_lt_add_left (by decide) k)).trans z15
  replace hk : ∀ j : Nat, j < k → w10[j]? = ws0[j]? := fun j hj => (ap_old hw hn (Nat.lt_of_lt_of_le hj (Nat.le_add_right k _))).trans (hk j hj)
  replace hn : w10.length = k + 17 := ap_len hw hn
  clear hw
  refine lv_dup hx hb dX8_init_41 rfl ?_
  refine in_call (runIN (As := []) (rest := [.ref q16, .ref q0]) X cq_X0_init lk_X8_32 (c_X0_init l D cI cJ cZ w10 (k + 16) q16 base hn z16 hD) rfl rfl ⟨Nat.le_of_ble_eq_true rfl, Nat.le_of_ble_eq_true rfl⟩ hP rfl hl.1 rfl (Nat.le_of_ble_eq_true rfl) dX8_init_42 ⟨Nat.le_of_ble_eq_true rfl, Nat.le_of_ble_eq_true rfl⟩) hS (fun w11 H locs hP hD hB hS => ?_)
  obtain ⟨q17, q18, q19, q20, q21, hn2, hk2, y0, y1, y2, y3, y4, y5⟩ := hB
  replace z0 := (hk2 _ (Nat.lt_add_of_pos_right (by decide))).trans z0
  replace z1 := (hk2 _ (Nat.add_lt_add_left (by decide) k)).trans z1
  replace z2 := (hk2 _ (Nat.add_lt_add_left (by decide) k)).trans z2
  replace z3 := (hk2 _ (Nat.add_lt_add_left (by decide) k)).trans z3
  replace z4 := (hk2 _ (Nat.add_lt_add_left (by decide) k)).trans z4
  replace z5 := (hk2 _ (Nat.add_lt_add_left (by decide) k)).trans z5
  replace z6 := (hk2 _ (Nat.add_lt_add_left (by decide) k)).trans z6
  replace z7 := (hk2 _ (Nat.add_lt_add_left (by decide) k)).trans z7
  replace z8 := (hk2 _ (Nat.add_lt_add_left (by decide) k)).trans z8
  replace z9 := (hk2 _ (Nat.add_lt_add_left (by decide) k)).trans z9
  replace z10 := (hk2 _ (Nat.add_lt_add_left (by decide) k)).trans z10
  replace z11 := (hk2 _ (Nat.add_lt_add_left (by decide) k)).trans z11
  replace z12 := (hk2 _ (Nat.add_lt_add_left (by decide) k)).trans z12
  replace z13 := (hk2 _ (Nat.add_lt_add_left (by decide) k)).trans z13
  replace z14 := (hk2 _ (Nat.add_lt_add_left (by decide) k)).trans z14
  replace z15 := (hk2 _ (Nat.add_lt_add_left (by decide) k)).trans z15
  replace hk : ∀ j : Nat, j < k → w11[j]? = ws0[j]? := fun j hj => (hk2 j (Nat.lt_of_lt_of_le hj (Nat.le_add_right k _))).trans (hk j hj)
  have z16 : w11[k + 16]? = some (q16, .inr (0, [.ref q17, .ref q18, .ref q19, .ref q20, .int 0, .int 0])) := y0
  have z17 : w11[k + 17]? = some (q17, .inl (cI, 12, .inl (fun _ => 0))) := y1
  have z18 : w11[k + 18]? = some (q18, .inl (cI, 12, .inl (fun _ => 0))) := y2
  have z19 : w11[k + 19]? = some (q19, .inl (cI, 12, .inl (fun _ => 0))) := y3
  have z20 : w11[k + 20]? = some (q20, .inr (4, [.ref q21])) := y4
  have z21 : w11[k + 21]? = some (q21, .inl (cJ, 169, .inr (.inl (fun _ => 0)))) := y5
  clear hn
  have hn : w11.length = k + 22 := hn2
  clear hn2 hk2 y0 y1 y2 y3 y4 y5
  refine va_putF (ci := 8) (v := .ref q16) (ty := (.object "AHandGoesUp$Choice")) (C := RX8) (T := TX8) (N := 8) hx hb hts inqX8 tyX8 tyX8_ok nmX8 hown hK hP hD hS (k) z0 rfl 3 (by decide) (hts _ fl_X8_33) (fun _ h9 => h9) rfl hin rfl (by decide +kernel) rfl rfl (Nat.le_of_ble_eq_true rfl) dX8_init_45 (fun H locs hP hD hS => ?_)
  obtain ⟨w12, hw⟩ : ∃ x, x = w11.set k (q0, .inr (8, [.ref q1, .ref q3, .ref q13, .ref q16, .null, .null, .null, .null])) := ⟨_, rfl⟩
  replace hP : va_P D vwCl w12 H := by rw [hw]; exact hP
  replace hD : va_D (fun q => base ≤ q) w12 := by rw [hw]; exact hD
  replace z1 : w12[k + 1]? = some (q1, .inr (6, [.ref q2, .int 0])) := by rw [hw]; exact st_ne (Nat.ne_of_gt (Nat.lt_add_of_pos_right (by decide))) z1
  replace z2 : w12[k + 2]? = some (q2, .inl (cI, 72, .inl (fun _ => 0))) := by rw [hw]; exact st_ne (Nat.ne_of_gt (Nat.lt_add_of_pos_right (by decide))) z2
  replace z3 : w12[k + 3]? = some (q3, .inr (3, [.ref q4, .ref q5, .ref q6, .ref q7, .ref q8, .ref q9, .ref q10, .int 0, .int 5])) := by rw [hw]; exact st_ne (Nat.ne_of_gt (Nat.lt_add_of_pos_right (by decide))) z3
  replace z4 : w12[k + 4]? = some (q4, .inl (cI, 12, .inl (fun _ => 0))) := by rw [hw]; exact st_ne (Nat.ne_of_gt (Nat.lt_add_of_pos_right (by decide))) z4
  replace z5 : w12[k + 5]? = some (q5, .inl (cI, 12, .inl (fun _ => 0))) := by rw [hw]; exact st_ne (Nat.ne_of_gt (Nat.lt_add_of_pos_right (by decide))) z5
  replace z6 : w12[k + 6]? = some (q6, .inl (cI, 12, .inl (fun _ => 0))) := by rw [hw]; exact st_ne (Nat.ne_of_gt (Nat.lt_add_of_pos_right (by decide))) z6
  replace z7 : w12[k + 7]? = some (q7, .inl (cI, 12, .inl (fun _ => 0))) := by rw [hw]; exact st_ne (Nat.ne_of_gt (Nat.lt_add_of_pos_right (by decide))) z7
  replace z8 : w12[k + 8]? = some (q8, .inl (cI, 12, .inl (fun _ => 0))) := by rw [hw]; exact st_ne (Nat.ne_of_gt (Nat.lt_add_of_pos_right (by decide))) z8
  replace z9 : w12[k + 9]? = some (q9, .inl (cI, 12, .inl (fun _ => 0))) := by rw [hw]; exact st_ne (Nat.ne_of_gt (Nat.lt_add_of_pos_right (by decide))) z9
  replace z10 : w12[k + 10]? = some (q10, .inr (2, [.ref q11, .ref q12, .long 0, .int 0, .int 0, .int 0, .int 0])) := by rw [hw]; exact st_ne (Nat.ne_of_gt (Nat.lt_add_of_pos_right (by decide))) z10
  replace z11 : w12[k + 11]? = some (q11, .inl (cI, 12, .inl (fun _ => 0))) := by rw [hw]; exact st_ne (Nat.ne_of_gt (Nat.lt_add_of_pos_right (by decide))) z11
  replace z12 : w12[k + 12]? = some (q12, .inl (cI, 12, .inl (fun _ => 0))) := by rw [hw]; exact st_ne (Nat.ne_of_gt (Nat.lt_add_of_pos_right (by decide))) z12
  replace z13 : w12[k + 13]? = some (q13, .inr (1, [.ref q14])) := by rw [hw]; exact st_ne (Nat.ne_of_gt (Nat.lt_add_of_pos_right (by decide))) z13
  replace z14 : w12[k + 14]? = some (q14, .inr (4, [.ref q15])) := by rw [hw]; exact st_ne (Nat.ne_of_gt (Nat.lt_add_of_pos_right (by decide))) z14
  replace z15 : w12[k + 15]? = some (q15, .inl (cJ, 169, .inr (.inl (fun _ => 0)))) := by rw [hw]; exact st_ne (Nat.ne_of_gt (Nat.lt_add_of_pos_right (by decide))) z15
  replace z16 : w12[k + 16]? = some (q16, .inr (0, [.ref q17, .ref q18, .ref q19, .ref q20, .int 0, .int 0])) := by rw [hw]; exact st_ne (Nat.ne_of_gt (Nat.lt_add_of_pos_right (by decide))) z16
  replace z17 : w12[k + 17]? = some (q17, .inl (cI, 12, .inl (fun _ => 0))) := by rw [hw]; exact st_ne (Nat.ne_of_gt (Nat.lt_add_of_pos_right (by decide))) z17
  replace z18 : w12[k + 18]? = some (q18, .inl (cI, 12, .inl (fun _ => 0))) := by rw [hw]; exact st_ne (Nat.ne_of_gt (Nat.lt_add_of_pos_right (by decide))) z18
  replace z19 : w12[k + 19]? = some (q19, .inl (cI, 12, .inl (fun _ => 0))) := by rw [hw]; exact st_ne (Nat.ne_of_gt (Nat.lt_add_of_pos_right (by decide))) z19
  replace z20 : w12[k + 20]? = some (q20, .inr (4, [.ref q21])) := by rw [hw]; exact st_ne (Nat.ne_of_gt (Nat.lt_add_of_pos_right (by decide))) z20
  replace z21 : w12[k + 21]? = some (q21, .inl (cJ, 169, .inr (.inl (fun _ => 0)))) := by rw [hw]; exact st_ne (Nat.ne_of_gt (Nat.lt_add_of_pos_right (by decide))) z21
  replace hk : ∀ j : Nat, j < k → w12[j]? = ws0[j]? := fun j hj => by rw [hw]; exact st_ne (Nat.ne_of_lt hj) (hk j hj)
  replace z0 : w12[k]? = some (q0, .inr (8, [.ref q1, .ref q3, .ref q13, .ref q16, .null, .null, .null, .null])) := by rw [hw]; exact st_eq z0
  replace hn : w12.length = k + 22 := by rw [hw, List.length_set]; exact hn
  clear hw
  refine lv_aload_n hx hb dX8_init_48 rfl (lv_at hl 0 rfl) ?_
  refine va_new (ci := 2) (fs := [.null, .null, .long 0, .int 0, .int 0, .int 0, .int 0]) (C := RX2) (T := TX2) (N := 7) hx hb hts inqX2 tyX2 tyX2_ok hown (hts _ cl_X8_37) (hts _ ib_X2) (hts _ ii_X2) hK hP hD hS hA rfl (fun j hj => by rcases (show j = 0 ∨ j = 1 ∨ j = 2 ∨ j = 3 ∨ j = 4 ∨ j = 5 ∨ j = 6 by omega) with rfl | rfl | rfl | rfl | rfl | rfl | rfl <;> rfl) (Nat.le_of_ble_eq_true rfl) (Nat.le_of_ble_eq_true rfl) dX8_init_49 (fun q22 H hP hD hS => ?_)
  obtain ⟨w13, hw⟩ : ∃ x, x = w12 ++ [(q22, .inr (2, [.null, .null, .long 0, .int 0, .int 0, .int 0, .int 0]))] := ⟨_, rfl⟩
  rw [← hw] at hP hD
  have z22 : w13[k + 22]? = some (q22, .inr (2, [.null, .null, .long 0, .int 0, .int 0, .int 0, .int 0])) := ap_new hw hn
  replace z0 := (ap_old hw hn (Nat.lt_add_of_pos_right (by decide))).trans z0
  replace z1 := (ap_old hw hn (Nat.add_lt_add_left (by decide) k)).trans z1
  replace z2 := (ap_old hw hn (Nat.add_lt_add_left (by decide) k)).trans z2
  replace z3 := (ap_old hw hn (Nat.add_lt_add_left (by decide) k)).trans z3
  replace z4 := (ap_old hw hn (Nat.add_lt_add_left (by decide) k)).trans z4
  replace z5 := (ap_old hw hn (Nat.add_lt_add_left (by decide) k)).trans z5
  replace z6 := (ap_old hw hn (Nat.add_lt_add_left (by decide) k)).trans z6
  replace z7 := (ap_old hw hn (Nat.add_lt_add_left (by decide) k)).trans z7
  replace z8 := (ap_old hw hn (Nat.add_lt_add_left (by decide) k)).trans z8
  replace z9 := (ap_old hw hn (Nat.add_lt_add_left (by decide) k)).trans z9
  replace z10 := (ap_old hw hn (Nat.add_lt_add_left (by decide) k)).trans z10
  replace z11 := (ap_old hw hn (Nat.add_lt_add_left (by decide) k)).trans z11
  replace z12 := (ap_old hw hn (Nat.add_lt_add_left (by decide) k)).trans z12
  replace z13 := (ap_old hw hn (Nat.add_lt_add_left (by decide) k)).trans z13
  replace z14 := (ap_old hw hn (Nat.add_lt_add_left (by decide) k)).trans z14
  replace z15 := (ap_old hw hn (Nat.add_lt_add_left (by decide) k)).trans z15
  replace z16 := (ap_old hw hn (Nat.add_lt_add_left (by decide) k)).trans z16
  replace z17 := (ap_old hw hn (Nat.add_lt_add_left (by decide) k)).trans z17
  replace z18 := (ap_old hw hn (Nat.add_lt_add_left (by decide) k)).trans z18
  replace z19 := (ap_old hw hn (Nat.add_lt_add_left (by decide) k)).trans z19
  replace z20 := (ap_old hw hn (Nat.add_lt_add_left (by decide) k)).trans z20
  replace z21 := (ap_old hw hn (Nat.add_lt_add_left (by decide) k)).trans z21
  replace hk : ∀ j : Nat, j < k → w13[j]? = ws0[j]? := fun j hj => (ap_old hw hn (Nat.lt_of_lt_of_le hj (Nat.le_add_right k _))).trans (hk j hj)
  replace hn : w13.length = k + 23 := ap_len hw hn
  clear hw
  refine lv_dup hx hb dX8_init_52 rfl ?_
  refine in_call (runIN (As := []) (rest := [.ref q22, .ref q0]) X cq_X2_init lk_X8_39 (c_X2_init l D cI cJ cZ w13 (k + 22) q22 base hn z22 hD) rfl rfl ⟨Nat.le_of_ble_eq_true rfl, Nat.le_of_ble_eq_true rfl⟩ hP rfl hl.1 rfl (Nat.le_of_ble_eq_true rfl) dX8_init_53 ⟨Nat.le_of_ble_eq_true rfl, Nat.le_of_ble_eq_true rfl⟩) hS (fun w14 H locs hP hD hB hS => ?_)
  obtain ⟨q23, q24, hn2, hk2, y0, y1, y2⟩ := hB
  replace z0 := (hk2 _ (Nat.lt_add_of_pos_right (by decide))).trans z0
  replace z1 := (hk2 _ (Nat.add_lt_add_left (by decide) k)).trans z1
  replace z2 := (hk2 _ (Nat.add_lt_add_left (by decide) k)).trans z2
  replace z3 := (hk2 _ (Nat.add_lt_add_left (by decide) k)).trans z3
  replace z4 := (hk2 _ (Nat.add_lt_add_left (by decide) k)).trans z4
  replace z5 := (hk2 _ (Nat.add_lt_add_left (by decide) k)).trans z5
  replace z6 := (hk2 _ (Nat.add_lt_add_left (by decide) k)).trans z6
  replace z7 := (hk2 _ (Nat.add_lt_add_left (by decide) k)).trans z7
  replace z8 := (hk2 _ (Nat.add_lt_add_left (by decide) k)).trans z8
  replace z9 := (hk2 _ (Nat.add_lt_add_left (by decide) k)).trans z9
  replace z10 := (hk2 _ (Nat.add_lt_add_left (by decide) k)).trans z10
  replace z11 := (hk2 _ (Nat.add_lt_add_left (by decide) k)).trans z11
  replace z12 := (hk2 _ (Nat.add_lt_add_left (by decide) k)).trans z12
  replace z13 := (hk2 _ (Nat.add_lt_add_left (by decide) k)).trans z13
  replace z14 := (hk2 _ (Nat.add_lt_add_left (by decide) k)).trans z14
  replace z15 := (hk2 _ (Nat.add_lt_add_left (by decide) k)).trans z15
  replace z16 := (hk2 _ (Nat.add_lt_add_left (by decide) k)).trans z16
  replace z17 := (hk2 _ (Nat.add_lt_add_left (by decide) k)).trans z17
  replace z18 := (hk2 _ (Nat.add_lt_add_left (by decide) k)).trans z18
  replace z19 := (hk2 _ (Nat.add_lt_add_left (by decide) k)).trans z19
  replace z20 := (hk2 _ (Nat.add_lt_add_left (by decide) k)).trans z20
  replace z21 := (hk2 _ (Nat.add_lt_add_left (by decide) k)).trans z21
  replace hk : ∀ j : Nat, j < k → w14[j]? = ws0[j]? := fun j hj => (hk2 j (Nat.lt_of_lt_of_le hj (Nat.le_add_right k _))).trans (hk j hj)
  have z22 : w14[k + 22]? = some (q22, .inr (2, [.ref q23, .ref q24, .long 0, .int 0, .int 0, .int 0, .int 0])) := y0
  have z23 : w14[k + 23]? = some (q23, .inl (cI, 12, .inl (fun _ => 0))) := y1
  have z24 : w14[k + 24]? = some (q24, .inl (cI, 12, .inl (fun _ => 0))) := y2
  clear hn
  have hn : w14.length = k + 25 := hn2
  clear hn2 hk2 y0 y1 y2
  refine va_putF (ci := 8) (v := .ref q22) (ty := (.object "AHandGoesUp$Lessons")) (C := RX8) (T := TX8) (N := 8) hx hb hts inqX8 tyX8 tyX8_ok nmX8 hown hK hP hD hS (k) z0 rfl 4 (by decide) (hts _ fl_X8_40) (fun _ h9 => h9) rfl hin rfl (by decide +kernel) rfl rfl (Nat.le_of_ble_eq_true rfl) dX8_init_56 (fun H locs hP hD hS => ?_)
  obtain ⟨w15, hw⟩ : ∃ x, x = w14.set k (q0, .inr (8, [.ref q1, .ref q3, .ref q13, .ref q16, .ref q22, .null, .null, .null])) := ⟨_, rfl⟩
  replace hP : va_P D vwCl w15 H := by rw [hw]; exact hP
  replace hD : va_D (fun q => base ≤ q) w15 := by rw [hw]; exact hD
  replace z1 : w15[k + 1]? = some (q1, .inr (6, [.ref q2, .int 0])) := by rw [hw]; exact st_ne (Nat.ne_of_gt (Nat.lt_add_of_pos_right (by decide))) z1
  replace z2 : w15[k + 2]? = some (q2, .inl (cI, 72, .inl (fun _ => 0))) := by rw [hw]; exact st_ne (Nat.ne_of_gt (Nat.lt_add_of_pos_right (by decide))) z2
  replace z3 : w15[k + 3]? = some (q3, .inr (3, [.ref q4, .ref q5, .ref q6, .ref q7, .ref q8, .ref q9, .ref q10, .int 0, .int 5])) := by rw [hw]; exact st_ne (Nat.ne_of_gt (Nat.lt_add_of_pos_right (by decide))) z3
  replace z4 : w15[k + 4]? = some (q4, .inl (cI, 12, .inl (fun _ => 0))) := by rw [hw]; exact st_ne (Nat.ne_of_gt (Nat.lt_add_of_pos_right (by decide))) z4
  replace z5 : w15[k + 5]? = some (q5, .inl (cI, 12, .inl (fun _ => 0))) := by rw [hw]; exact st_ne (Nat.ne_of_gt (Nat.lt_add_of_pos_right (by decide))) z5
  replace z6 : w15[k + 6]? = some (q6, .inl (cI, 12, .inl (fun _ => 0))) := by rw [hw]; exact st_ne (Nat.ne_of_gt (Nat.lt_add_of_pos_right (by decide))) z6
  replace z7 : w15[k + 7]? = some (q7, .inl (cI, 12, .inl (fun _ => 0))) := by rw [hw]; exact st_ne (Nat.ne_of_gt (Nat.lt_add_of_pos_right (by decide))) z7
  replace z8 : w15[k + 8]? = some (q8, .inl (cI, 12, .inl (fun _ => 0))) := by rw [hw]; exact st_ne (Nat.ne_of_gt (Nat.lt_add_of_pos_right (by decide))) z8
  replace z9 : w15[k + 9]? = some (q9, .inl (cI, 12, .inl (fun _ => 0))) := by rw [hw]; exact st_ne (Nat.ne_of_gt (Nat.lt_add_of_pos_right (by decide))) z9
  replace z10 : w15[k + 10]? = some (q10, .inr (2, [.ref q11, .ref q12, .long 0, .int 0, .int 0, .int 0, .int 0])) := by rw [hw]; exact st_ne (Nat.ne_of_gt (Nat.lt_add_of_pos_right (by decide))) z10
  replace z11 : w15[k + 11]? = some (q11, .inl (cI, 12, .inl (fun _ => 0))) := by rw [hw]; exact st_ne (Nat.ne_of_gt (Nat.lt_add_of_pos_right (by decide))) z11
  replace z12 : w15[k + 12]? = some (q12, .inl (cI, 12, .inl (fun _ => 0))) := by rw [hw]; exact st_ne (Nat.ne_of_gt (Nat.lt_add_of_pos_right (by decide))) z12
  replace z13 : w15[k + 13]? = some (q13, .inr (1, [.ref q14])) := by rw [hw]; exact st_ne (Nat.ne_of_gt (Nat.lt_add_of_pos_right (by decide))) z13
  replace z14 : w15[k + 14]? = some (q14, .inr (4, [.ref q15])) := by rw [hw]; exact st_ne (Nat.ne_of_gt (Nat.lt_add_of_pos_right (by decide))) z14
  replace z15 : w15[k + 15]? = some (q15, .inl (cJ, 169, .inr (.inl (fun _ => 0)))) := by rw [hw]; exact st_ne (Nat.ne_of_gt (Nat.lt_add_of_pos_right (by decide))) z15
  replace z16 : w15[k + 16]? = some (q16, .inr (0, [.ref q17, .ref q18, .ref q19, .ref q20, .int 0, .int 0])) := by rw [hw]; exact st_ne (Nat.ne_of_gt (Nat.lt_add_of_pos_right (by decide))) z16
  replace z17 : w15[k + 17]? = some (q17, .inl (cI, 12, .inl (fun _ => 0))) := by rw [hw]; exact st_ne (Nat.ne_of_gt (Nat.lt_add_of_pos_right (by decide))) z17
  replace z18 : w15[k + 18]? = some (q18, .inl (cI, 12, .inl (fun _ => 0))) := by rw [hw]; exact st_ne (Nat.ne_of_gt (Nat.lt_add_of_pos_right (by decide))) z18
  replace z19 : w15[k + 19]? = some (q19, .inl (cI, 12, .inl (fun _ => 0))) := by rw [hw]; exact st_ne (Nat.ne_of_gt (Nat.lt_add_of_pos_right (by decide))) z19
  replace z20 : w15[k + 20]? = some (q20, .inr (4, [.ref q21])) := by rw [hw]; exact st_ne (Nat.ne_of_gt (Nat.lt_add_of_pos_right (by decide))) z20
  replace z21 : w15[k + 21]? = some (q21, .inl (cJ, 169, .inr (.inl (fun _ => 0)))) := by rw [hw]; exact st_ne (Nat.ne_of_gt (Nat.lt_add_of_pos_right (by decide))) z21
  replace z22 : w15[k + 22]? = some (q22, .inr (2, [.ref q23, .ref q24, .long 0, .int 0, .int 0, .int 0, .int 0])) := by rw [hw]; exact st_ne (Nat.ne_of_gt (Nat.lt_add_of_pos_right (by decide))) z22
  replace z23 : w15[k + 23]? = some (q23, .inl (cI, 12, .inl (fun _ => 0))) := by rw [hw]; exact st_ne (Nat.ne_of_gt (Nat.lt_add_of_pos_right (by decide))) z23
  replace z24 : w15[k + 24]? = some (q24, .inl (cI, 12, .inl (fun _ => 0))) := by rw [hw]; exact st_ne (Nat.ne_of_gt (Nat.lt_add_of_pos_right (by decide))) z24
  replace hk : ∀ j : Nat, j < k → w15[j]? = ws0[j]? := fun j hj => by rw [hw]; exact st_ne (Nat.ne_of_lt hj) (hk j hj)
  replace z0 : w15[k]? = some (q0, .inr (8, [.ref q1, .ref q3, .ref q13, .ref q16, .ref q22, .null, .null, .null])) := by rw [hw]; exact st_eq z0
  replace hn : w15.length = k + 25 := by rw [hw, List.length_set]; exact hn
  clear hw
  refine lv_aload_n hx hb dX8_init_59 rfl (lv_at hl 0 rfl) ?_
  refine va_new (ci := 2) (fs := [.null, .null, .long 0, .int 0, .int 0, .int 0, .int 0]) (C := RX2) (T := TX2) (N := 7) hx hb hts inqX2 tyX2 tyX2_ok hown (hts _ cl_X8_37) (hts _ ib_X2) (hts _ ii_X2) hK hP hD hS hA rfl (fun j hj => by rcases (show j = 0 ∨ j = 1 ∨ j = 2 ∨ j = 3 ∨ j = 4 ∨ j = 5 ∨ j = 6 by omega) with rfl | rfl | rfl | rfl | rfl | rfl | rfl <;> rfl) (Nat.le_of_ble_eq_true rfl) (Nat.le_of_ble_eq_true rfl) dX8_init_60 (fun q25 H hP hD hS => ?_)
  obtain ⟨w16, hw⟩ : ∃ x, x = w15 ++ [(q25, .inr (2, [.null, .null, .long 0, .int 0, .int 0, .int 0, .int 0]))] := ⟨_, rfl⟩
  rw [← hw] at hP hD
  have z25 : w16[k + 25]? = some (q25, .inr (2, [.null, .null, .long 0, .int 0, .int 0, .int 0, .int 0])) := ap_new hw hn
  replace z0 := (ap_old hw hn (Nat.lt_add_of_pos_right (by decide))).trans z0
  replace z1 := (ap_old hw hn (Nat.add_lt_add_left (by decide) k)).trans z1
  replace z2 := (ap_old hw hn (Nat.add_lt_add_left (by decide) k)).trans z2
  replace z3 := (ap_old hw hn (Nat.add_lt_add_left (by decide) k)).trans z3
  replace z4 := (ap_old hw hn (Nat.add_lt_add_left (by decide) k)).trans z4
  replace z5 := (ap_old hw hn (Nat.add_lt_add_left (by decide) k)).trans z5
  replace z6 := (ap_old hw hn (Nat.add_lt_add_left (by decide) k)).trans z6
  replace z7 := (ap_old hw hn (Nat.add_lt_add_left (by decide) k)).trans z7
  replace z8 := (ap_old hw hn (Nat.add_lt_add_left (by decide) k)).trans z8
  replace z9 := (ap_old hw hn (Nat.add_lt_add_left (by decide) k)).trans z9
  replace z10 := (ap_old hw hn (Nat.add_lt_add_left (by decide) k)).trans z10
  replace z11 := (ap_old hw hn (Nat.add_lt_add_left (by decide) k)).trans z11
  replace z12 := (ap_old hw hn (Nat.add_lt_add_left (by decide) k)).trans z12
  replace z13 := (ap_old hw hn (Nat.add_lt_add_left (by decide) k)).trans z13
  replace z14 := (ap_old hw hn (Nat.add_lt_add_left (by decide) k)).trans z14
  replace z15 := (ap_old hw hn (Nat.add_lt_add_left (by decide) k)).trans z15
  replace z16 := (ap_old hw hn (Nat.add_lt_add_left (by decide) k)).trans z16
  replace z17 := (ap_old hw hn (Nat.add_lt_add_left (by decide) k)).trans z17
  replace z18 := (ap_old hw hn (Nat.add_lt_add_left (by decide) k)).trans z18
  replace z19 := (ap_old hw hn (Nat.add_lt_add_left (by decide) k)).trans z19
  replace z20 := (ap_old hw hn (Nat.add_lt_add_left (by decide) k)).trans z20
  replace z21 := (ap_old hw hn (Nat.add_lt_add_left (by decide) k)).trans z21
  replace z22 := (ap_old hw hn (Nat.add_lt_add_left (by decide) k)).trans z22
  replace z23 := (ap_old hw hn (Nat.add_lt_add_left (by decide) k)).trans z23
  replace z24 := (ap_old hw hn (Nat.add_lt_add_left (by decide) k)).trans z24
  replace hk : ∀ j : Nat, j < k → w16[j]? = ws0[j]? := fun j hj => (ap_old hw hn (Nat.lt_of_lt_of_le hj (Nat.le_add_right k _))).trans (hk j hj)
  replace hn : w16.length = k + 26 := ap_len hw hn
  clear hw
  refine lv_dup hx hb dX8_init_63 rfl ?_
  refine in_call (runIN (As := []) (rest := [.ref q25, .ref q0]) X cq_X2_init lk_X8_39 (c_X2_init l D cI cJ cZ w16 (k + 25) q25 base hn z25 hD) rfl rfl ⟨Nat.le_of_ble_eq_true rfl, Nat.le_of_ble_eq_true rfl⟩ hP rfl hl.1 rfl (Nat.le_of_ble_eq_true rfl) dX8_init_64 ⟨Nat.le_of_ble_eq_true rfl, Nat.le_of_ble_eq_true rfl⟩) hS (fun w17 H locs hP hD hB hS => ?_)
  obtain ⟨q26, q27, hn2, hk2, y0, y1, y2⟩ := hB
  replace z0 := (hk2 _ (Nat.lt_add_of_pos_right (by decide))).trans z0
  replace z1 := (hk2 _ (Nat.add_lt_add_left (by decide) k)).trans z1
  replace z2 := (hk2 _ (Nat.add_lt_add_left (by decide) k)).trans z2
  replace z3 := (hk2 _ (Nat.add_lt_add_left (by decide) k)).trans z3
  replace z4 := (hk2 _ (Nat.add_lt_add_left (by decide) k)).trans z4
  replace z5 := (hk2 _ (Nat.add_lt_add_left (by decide) k)).trans z5
  replace z6 := (hk2 _ (Nat.add_lt_add_left (by decide) k)).trans z6
  replace z7 := (hk2 _ (Nat.add_lt_add_left (by decide) k)).trans z7
  replace z8 := (hk2 _ (Nat.add_lt_add_left (by decide) k)).trans z8
  replace z9 := (hk2 _ (Nat.add_lt_add_left (by decide) k)).trans z9
  replace z10 := (hk2 _ (Nat.add_lt_add_left (by decide) k)).trans z10
  replace z11 := (hk2 _ (Nat.add_lt_add_left (by decide) k)).trans z11
  replace z12 := (hk2 _ (Nat.add_lt_add_left (by decide) k)).trans z12
  replace z13 := (hk2 _ (Nat.add_lt_add_left (by decide) k)).trans z13
  replace z14 := (hk2 _ (Nat.add_lt_add_left (by decide) k)).trans z14
  replace z15 := (hk2 _ (Nat.add_lt_add_left (by decide) k)).trans z15
  replace z16 := (hk2 _ (Nat.add_lt_add_left (by decide) k)).trans z16
  replace z17 := (hk2 _ (Nat.add_lt_add_left (by decide) k)).trans z17
  replace z18 := (hk2 _ (Nat.add_lt_add_left (by decide) k)).trans z18
  replace z19 := (hk2 _ (Nat.add_lt_add_left (by decide) k)).trans z19
  replace z20 := (hk2 _ (Nat.add_lt_add_left (by decide) k)).trans z20
  replace z21 := (hk2 _ (Nat.add_lt_add_left (by decide) k)).trans z21
  replace z22 := (hk2 _ (Nat.add_lt_add_left (by decide) k)).trans z22
  replace z23 := (hk2 _ (Nat.add_lt_add_left (by decide) k)).trans z23
  replace z24 := (hk2 _ (Nat.add_lt_add_left (by decide) k)).trans z24
  replace hk : ∀ j : Nat, j < k → w17[j]? = ws0[j]? := fun j hj => (hk2 j (Nat.lt_of_lt_of_le hj (Nat.le_add_right k _))).trans (hk j hj)
  have z25 : w17[k + 25]? = some (q25, .inr (2, [.ref q26, .ref q27, .long 0, .int 0, .int 0, .int 0, .int 0])) := y0
  have z26 : w17[k + 26]? = some (q26, .inl (cI, 12, .inl (fun _ => 0))) := y1
  have z27 : w17[k + 27]? = some (q27, .inl (cI, 12, .inl (fun _ => 0))) := y2
  clear hn
  have hn : w17.length = k + 28 := hn2
  clear hn2 hk2 y0 y1 y2
  refine va_putF (ci := 8) (v := .ref q25) (ty := (.object "AHandGoesUp$Lessons")) (C := RX8) (T := TX8) (N := 8) hx hb hts inqX8 tyX8 tyX8_ok nmX8 hown hK hP hD hS (k) z0 rfl 5 (by decide) (hts _ fl_X8_44) (fun _ h9 => h9) rfl hin rfl (by decide +kernel) rfl rfl (Nat.le_of_ble_eq_true rfl) dX8_init_67 (fun H locs hP hD hS => ?_)
  obtain ⟨w18, hw⟩ : ∃ x, x = w17.set k (q0, .inr (8, [.ref q1, .ref q3, .ref q13, .ref q16, .ref q22, .ref q25, .null, .null])) := ⟨_, rfl⟩
  replace hP : va_P D vwCl w18 H := by rw [hw]; exact hP
  replace hD : va_D (fun q => base ≤ q) w18 := by rw [hw]; exact hD
  replace z1 : w18[k + 1]? = some (q1, .inr (6, [.ref q2, .int 0])) := by rw [hw]; exact st_ne (Nat.ne_of_gt (Nat.lt_add_of_pos_right (by decide))) z1
  replace z2 : w18[k + 2]? = some (q2, .inl (cI, 72, .inl (fun _ => 0))) := by rw [hw]; exact st_ne (Nat.ne_of_gt (Nat.lt_add_of_pos_right (by decide))) z2
  replace z3 : w18[k + 3]? = some (q3, .inr (3, [.ref q4, .ref q5, .ref q6, .ref q7, .ref q8, .ref q9, .ref q10, .int 0, .int 5])) := by rw [hw]; exact st_ne (Nat.ne_of_gt (Nat.lt_add_of_pos_right (by decide))) z3
  replace z4 : w18[k + 4]? = some (q4, .inl (cI, 12, .inl (fun _ => 0))) := by rw [hw]; exact st_ne (Nat.ne_of_gt (Nat.lt_add_of_pos_right (by decide))) z4
  replace z5 : w18[k + 5]? = some (q5, .inl (cI, 12, .inl (fun _ => 0))) := by rw [hw]; exact st_ne (Nat.ne_of_gt (Nat.lt_add_of_pos_right (by decide))) z5
  replace z6 : w18[k + 6]? = some (q6, .inl (cI, 12, .inl (fun _ => 0))) := by rw [hw]; exact st_ne (Nat.ne_of_gt (Nat.lt_add_of_pos_right (by decide))) z6
  replace z7 : w18[k + 7]? = some (q7, .inl (cI, 12, .inl (fun _ => 0))) := by rw [hw]; exact st_ne (Nat.ne_of_gt (Nat.lt_add_of_pos_right (by decide))) z7
  replace z8 : w18[k + 8]? = some (q8, .inl (cI, 12, .inl (fun _ => 0))) := by rw [hw]; exact st_ne (Nat.ne_of_gt (Nat.lt_add_of_pos_right (by decide))) z8
  replace z9 : w18[k + 9]? = some (q9, .inl (cI, 12, .inl (fun _ => 0))) := by rw [hw]; exact st_ne (Nat.ne_of_gt (Nat.lt_add_of_pos_right (by decide))) z9
  replace z10 : w18[k + 10]? = some (q10, .inr (2, [.ref q11, .ref q12, .long 0, .int 0, .int 0, .int 0, .int 0])) := by rw [hw]; exact st_ne (Nat.ne_of_gt (Nat.lt_add_of_pos_right (by decide))) z10
  replace z11 : w18[k + 11]? = some (q11, .inl (cI, 12, .inl (fun _ => 0))) := by rw [hw]; exact st_ne (Nat.ne_of_gt (Nat.lt_add_of_pos_right (by decide))) z11
  replace z12 : w18[k + 12]? = some (q12, .inl (cI, 12, .inl (fun _ => 0))) := by rw [hw]; exact st_ne (Nat.ne_of_gt (Nat.lt_add_of_pos_right (by decide))) z12
  replace z13 : w18[k + 13]? = some (q13, .inr (1, [.ref q14])) := by rw [hw]; exact st_ne (Nat.ne_of_gt (Nat.lt_add_of_pos_right (by decide))) z13
  replace z14 : w18[k + 14]? = some (q14, .inr (4, [.ref q15])) := by rw [hw]; exact st_ne (Nat.ne_of_gt (Nat.lt_add_of_pos_right (by decide))) z14
  replace z15 : w18[k + 15]? = some (q15, .inl (cJ, 169, .inr (.inl (fun _ => 0)))) := by rw [hw]; exact st_ne (Nat.ne_of_gt (Nat.lt_add_of_pos_right (by decide))) z15
  replace z16 : w18[k + 16]? = some (q16, .inr (0, [.ref q17, .ref q18, .ref q19, .ref q20, .int 0, .int 0])) := by rw [hw]; exact st_ne (Nat.ne_of_gt (Nat.lt_add_of_pos_right (by decide))) z16
  replace z17 : w18[k + 17]? = some (q17, .inl (cI, 12, .inl (fun _ => 0))) := by rw [hw]; exact st_ne (Nat.ne_of_gt (Nat.lt_add_of_pos_right (by decide))) z17
  replace z18 : w18[k + 18]? = some (q18, .inl (cI, 12, .inl (fun _ => 0))) := by rw [hw]; exact st_ne (Nat.ne_of_gt (Nat.lt_add_of_pos_right (by decide))) z18
  replace z19 : w18[k + 19]? = some (q19, .inl (cI, 12, .inl (fun _ => 0))) := by rw [hw]; exact st_ne (Nat.ne_of_gt (Nat.lt_add_of_pos_right (by decide))) z19
  replace z20 : w18[k + 20]? = some (q20, .inr (4, [.ref q21])) := by rw [hw]; exact st_ne (Nat.ne_of_gt (Nat.lt_add_of_pos_right (by decide))) z20
  replace z21 : w18[k + 21]? = some (q21, .inl (cJ, 169, .inr (.inl (fun _ => 0)))) := by rw [hw]; exact st_ne (Nat.ne_of_gt (Nat.lt_add_of_pos_right (by decide))) z21
  replace z22 : w18[k + 22]? = some (q22, .inr (2, [.ref q23, .ref q24, .long 0, .int 0, .int 0, .int 0, .int 0])) := by rw [hw]; exact st_ne (Nat.ne_of_gt (Nat.lt_add_of_pos_right (by decide))) z22
  replace z23 : w18[k + 23]? = some (q23, .inl (cI, 12, .inl (fun _ => 0))) := by rw [hw]; exact st_ne (Nat.ne_of_gt (Nat.lt_add_of_pos_right (by decide))) z23
  replace z24 : w18[k + 24]? = some (q24, .inl (cI, 12, .inl (fun _ => 0))) := by rw [hw]; exact st_ne (Nat.ne_of_gt (Nat.lt_add_of_pos_right (by decide))) z24
  replace z25 : w18[k + 25]? = some (q25, .inr (2, [.ref q26, .ref q27, .long 0, .int 0, .int 0, .int 0, .int 0])) := by rw [hw]; exact st_ne (Nat.ne_of_gt (Nat.lt_add_of_pos_right (by decide))) z25
  replace z26 : w18[k + 26]? = some (q26, .inl (cI, 12, .inl (fun _ => 0))) := by rw [hw]; exact st_ne (Nat.ne_of_gt (Nat.lt_add_of_pos_right (by decide))) z26
  replace z27 : w18[k + 27]? = some (q27, .inl (cI, 12, .inl (fun _ => 0))) := by rw [hw]; exact st_ne (Nat.ne_of_gt (Nat.lt_add_of_pos_right (by decide))) z27
  replace hk : ∀ j : Nat, j < k → w18[j]? = ws0[j]? := fun j hj => by rw [hw]; exact st_ne (Nat.ne_of_lt hj) (hk j hj)
  replace z0 : w18[k]? = some (q0, .inr (8, [.ref q1, .ref q3, .ref q13, .ref q16, .ref q22, .ref q25, .null, .null])) := by rw [hw]; exact st_eq z0
  replace hn : w18.length = k + 28 := by rw [hw, List.length_set]; exact hn
  clear hw
  refine lv_aload_n hx hb dX8_init_70 rfl (lv_at hl 0 rfl) ?_
  refine va_new (ci := 5) (fs := [.null, .null, .null, .int 0]) (C := RX5) (T := TX5) (N := 4) hx hb hts inqX5 tyX5 tyX5_ok hown (hts _ cl_X8_47) (hts _ ib_X5) (hts _ ii_X5) hK hP hD hS hA rfl (fun j hj => by rcases (show j = 0 ∨ j = 1 ∨ j = 2 ∨ j = 3 by omega) with rfl | rfl | rfl | rfl <;> rfl) (Nat.le_of_ble_eq_true rfl) (Nat.le_of_ble_eq_true rfl) dX8_init_71 (fun q28 H hP hD hS => ?_)
  obtain ⟨w19, hw⟩ : ∃ x, x = w18 ++ [(q28, .inr (5, [.null, .null, .null, .int 0]))] := ⟨_, rfl⟩
  rw [← hw] at hP hD
  have z28 : w19[k + 28]? = some (q28, .inr (5, [.null, .null, .null, .int 0])) := ap_new hw hn
  replace z0 := (ap_old hw hn (Nat.lt_add_of_pos_right (by decide))).trans z0
  replace z1 := (ap_old hw hn (Nat.add_lt_add_left (by decide) k)).trans z1
  replace z2 := (ap_old hw hn (Nat.add_lt_add_left (by decide) k)).trans z2
  replace z3 := (ap_old hw hn (Nat.add_lt_add_left (by decide) k)).trans z3
  replace z4 := (ap_old hw hn (Nat.add_lt_add_left (by decide) k)).trans z4
  replace z5 := (ap_old hw hn (Nat.add_lt_add_left (by decide) k)).trans z5
  replace z6 := (ap_old hw hn (Nat.add_lt_add_left (by decide) k)).trans z6
  replace z7 := (ap_old hw hn (Nat.add_lt_add_left (by decide) k)).trans z7
  replace z8 := (ap_old hw hn (Nat.add_lt_add_left (by decide) k)).trans z8
  replace z9 := (ap_old hw hn (Nat.add_lt_add_left (by decide) k)).trans z9
  replace z10 := (ap_old hw hn (Nat.add_lt_add_left (by decide) k)).trans z10
  replace z11 := (ap_old hw hn (Nat.add_lt_add_left (by decide) k)).trans z11
  replace z12 := (ap_old hw hn (Nat.add_lt_add_left (by decide) k)).trans z12
  replace z13 := (ap_old hw hn (Nat.add_lt_add_left (by decide) k)).trans z13
  replace z14 := (ap_old hw hn (Nat.add_lt_add_left (by decide) k)).trans z14
  replace z15 := (ap_old hw hn (Nat.add_lt_add_left (by decide) k)).trans z15
  replace z16 := (ap_old hw hn (Nat.add_lt_add_left (by decide) k)).trans z16
  replace z17 := (ap_old hw hn (Nat.add_lt_add_left (by decide) k)).trans z17
  replace z18 := (ap_old hw hn (Nat.add_lt_add_left (by decide) k)).trans z18
  replace z19 := (ap_old hw hn (Nat.add_lt_add_left (by decide) k)).trans z19
  replace z20 := (ap_old hw hn (Nat.add_lt_add_left (by decide) k)).trans z20
  replace z21 := (ap_old hw hn (Nat.add_lt_add_left (by decide) k)).trans z21
  replace z22 := (ap_old hw hn (Nat.add_lt_add_left (by decide) k)).trans z22
  replace z23 := (ap_old hw hn (Nat.add_lt_add_left (by decide) k)).trans z23
  replace z24 := (ap_old hw hn (Nat.add_lt_add_left (by decide) k)).trans z24
  replace z25 := (ap_old hw hn (Nat.add_lt_add_left (by decide) k)).trans z25
  replace z26 := (ap_old hw hn (Nat.add_lt_add_left (by decide) k)).trans z26
  replace z27 := (ap_old hw hn (Nat.add_lt_add_left (by decide) k)).trans z27
  replace hk : ∀ j : Nat, j < k → w19[j]? = ws0[j]? := fun j hj => (ap_old hw hn (Nat.lt_of_lt_of_le hj (Nat.le_add_right k _))).trans (hk j hj)
  replace hn : w19.length = k + 29 := ap_len hw hn
  clear hw
  refine lv_dup hx hb dX8_init_74 rfl ?_
  refine in_call (runIN (As := []) (rest := [.ref q28, .ref q0]) X cq_X5_init lk_X8_49 (c_X5_init l D cI cJ cZ w19 (k + 28) q28 base hn z28 hD) rfl rfl ⟨Nat.le_of_ble_eq_true rfl, Nat.le_of_ble_eq_true rfl⟩ hP rfl hl.1 rfl (Nat.le_of_ble_eq_true rfl) dX8_init_75 ⟨Nat.le_of_ble_eq_true rfl, Nat.le_of_ble_eq_true rfl⟩) hS (fun w20 H locs hP hD hB hS => ?_)
  obtain ⟨q29, q30, q31, q32, hn2, hk2, y0, y1, y2, y3, y4⟩ := hB
  replace z0 := (hk2 _ (Nat.lt_add_of_pos_right (by decide))).trans z0
  replace z1 := (hk2 _ (Nat.add_lt_add_left (by decide) k)).trans z1
  replace z2 := (hk2 _ (Nat.add_lt_add_left (by decide) k)).trans z2
  replace z3 := (hk2 _ (Nat.add_lt_add_left (by decide) k)).trans z3
  replace z4 := (hk2 _ (Nat.add_lt_add_left (by decide) k)).trans z4
  replace z5 := (hk2 _ (Nat.add_lt_add_left (by decide) k)).trans z5
  replace z6 := (hk2 _ (Nat.add_lt_add_left (by decide) k)).trans z6
  replace z7 := (hk2 _ (Nat.add_lt_add_left (by decide) k)).trans z7
  replace z8 := (hk2 _ (Nat.add_lt_add_left (by decide) k)).trans z8
  replace z9 := (hk2 _ (Nat.add_lt_add_left (by decide) k)).trans z9
  replace z10 := (hk2 _ (Nat.add_lt_add_left (by decide) k)).trans z10
  replace z11 := (hk2 _ (Nat.add_lt_add_left (by decide) k)).trans z11
  replace z12 := (hk2 _ (Nat.add_lt_add_left (by decide) k)).trans z12
  replace z13 := (hk2 _ (Nat.add_lt_add_left (by decide) k)).trans z13
  replace z14 := (hk2 _ (Nat.add_lt_add_left (by decide) k)).trans z14
  replace z15 := (hk2 _ (Nat.add_lt_add_left (by decide) k)).trans z15
  replace z16 := (hk2 _ (Nat.add_lt_add_left (by decide) k)).trans z16
  replace z17 := (hk2 _ (Nat.add_lt_add_left (by decide) k)).trans z17
  replace z18 := (hk2 _ (Nat.add_lt_add_left (by decide) k)).trans z18
  replace z19 := (hk2 _ (Nat.add_lt_add_left (by decide) k)).trans z19
  replace z20 := (hk2 _ (Nat.add_lt_add_left (by decide) k)).trans z20
  replace z21 := (hk2 _ (Nat.add_lt_add_left (by decide) k)).trans z21
  replace z22 := (hk2 _ (Nat.add_lt_add_left (by decide) k)).trans z22
  replace z23 := (hk2 _ (Nat.add_lt_add_left (by decide) k)).trans z23
  replace z24 := (hk2 _ (Nat.add_lt_add_left (by decide) k)).trans z24
  replace z25 := (hk2 _ (Nat.add_lt_add_left (by decide) k)).trans z25
  replace z26 := (hk2 _ (Nat.add_lt_add_left (by decide) k)).trans z26
  replace z27 := (hk2 _ (Nat.add_lt_add_left (by decide) k)).trans z27
  replace hk : ∀ j : Nat, j < k → w20[j]? = ws0[j]? := fun j hj => (hk2 j (Nat.lt_of_lt_of_le hj (Nat.le_add_right k _))).trans (hk j hj)
  have z28 : w20[k + 28]? = some (q28, .inr (5, [.ref q29, .ref q30, .ref q31, .int 0])) := y0
  have z29 : w20[k + 29]? = some (q29, .inl (cI, 12, .inl (fun _ => 0))) := y1
  have z30 : w20[k + 30]? = some (q30, .inl (cI, 12, .inl (fun _ => 0))) := y2
  have z31 : w20[k + 31]? = some (q31, .inr (4, [.ref q32])) := y3
  have z32 : w20[k + 32]? = some (q32, .inl (cJ, 169, .inr (.inl (fun _ => 0)))) := y4
  clear hn
  have hn : w20.length = k + 33 := hn2
  clear hn2 hk2 y0 y1 y2 y3 y4
  refine va_putF (ci := 8) (v := .ref q28) (ty := (.object "AHandGoesUp$Tapes")) (C := RX8) (T := TX8) (N := 8) hx hb hts inqX8 tyX8 tyX8_ok nmX8 hown hK hP hD hS (k) z0 rfl 6 (by decide) (hts _ fl_X8_50) (fun _ h9 => h9) rfl hin rfl (by decide +kernel) rfl rfl (Nat.le_of_ble_eq_true rfl) dX8_init_78 (fun H locs hP hD hS => ?_)
  obtain ⟨w21, hw⟩ : ∃ x, x = w20.set k (q0, .inr (8, [.ref q1, .ref q3, .ref q13, .ref q16, .ref q22, .ref q25, .ref q28, .null])) := ⟨_, rfl⟩
  replace hP : va_P D vwCl w21 H := by rw [hw]; exact hP
  replace hD : va_D (fun q => base ≤ q) w21 := by rw [hw]; exact hD
  replace z1 : w21[k + 1]? = some (q1, .inr (6, [.ref q2, .int 0])) := by rw [hw]; exact st_ne (Nat.ne_of_gt (Nat.lt_add_of_pos_right (by decide))) z1
  replace z2 : w21[k + 2]? = some (q2, .inl (cI, 72, .inl (fun _ => 0))) := by rw [hw]; exact st_ne (Nat.ne_of_gt (Nat.lt_add_of_pos_right (by decide))) z2
  replace z3 : w21[k + 3]? = some (q3, .inr (3, [.ref q4, .ref q5, .ref q6, .ref q7, .ref q8, .ref q9, .ref q10, .int 0, .int 5])) := by rw [hw]; exact st_ne (Nat.ne_of_gt (Nat.lt_add_of_pos_right (by decide))) z3
  replace z4 : w21[k + 4]? = some (q4, .inl (cI, 12, .inl (fun _ => 0))) := by rw [hw]; exact st_ne (Nat.ne_of_gt (Nat.lt_add_of_pos_right (by decide))) z4
  replace z5 : w21[k + 5]? = some (q5, .inl (cI, 12, .inl (fun _ => 0))) := by rw [hw]; exact st_ne (Nat.ne_of_gt (Nat.lt_add_of_pos_right (by decide))) z5
  replace z6 : w21[k + 6]? = some (q6, .inl (cI, 12, .inl (fun _ => 0))) := by rw [hw]; exact st_ne (Nat.ne_of_gt (Nat.lt_add_of_pos_right (by decide))) z6
  replace z7 : w21[k + 7]? = some (q7, .inl (cI, 12, .inl (fun _ => 0))) := by rw [hw]; exact st_ne (Nat.ne_of_gt (Nat.lt_add_of_pos_right (by decide))) z7
  replace z8 : w21[k + 8]? = some (q8, .inl (cI, 12, .inl (fun _ => 0))) := by rw [hw]; exact st_ne (Nat.ne_of_gt (Nat.lt_add_of_pos_right (by decide))) z8
  replace z9 : w21[k + 9]? = some (q9, .inl (cI, 12, .inl (fun _ => 0))) := by rw [hw]; exact st_ne (Nat.ne_of_gt (Nat.lt_add_of_pos_right (by decide))) z9
  replace z10 : w21[k + 10]? = some (q10, .inr (2, [.ref q11, .ref q12, .long 0, .int 0, .int 0, .int 0, .int 0])) := by rw [hw]; exact st_ne (Nat.ne_of_gt (Nat.lt_add_of_pos_right (by decide))) z10
  replace z11 : w21[k + 11]? = some (q11, .inl (cI, 12, .inl (fun _ => 0))) := by rw [hw]; exact st_ne (Nat.ne_of_gt (Nat.lt_add_of_pos_right (by decide))) z11
  replace z12 : w21[k + 12]? = some (q12, .inl (cI, 12, .inl (fun _ => 0))) := by rw [hw]; exact st_ne (Nat.ne_of_gt (Nat.lt_add_of_pos_right (by decide))) z12
  replace z13 : w21[k + 13]? = some (q13, .inr (1, [.ref q14])) := by rw [hw]; exact st_ne (Nat.ne_of_gt (Nat.lt_add_of_pos_right (by decide))) z13
  replace z14 : w21[k + 14]? = some (q14, .inr (4, [.ref q15])) := by rw [hw]; exact st_ne (Nat.ne_of_gt (Nat.lt_add_of_pos_right (by decide))) z14
  replace z15 : w21[k + 15]? = some (q15, .inl (cJ, 169, .inr (.inl (fun _ => 0)))) := by rw [hw]; exact st_ne (Nat.ne_of_gt (Nat.lt_add_of_pos_right (by decide))) z15
  replace z16 : w21[k + 16]? = some (q16, .inr (0, [.ref q17, .ref q18, .ref q19, .ref q20, .int 0, .int 0])) := by rw [hw]; exact st_ne (Nat.ne_of_gt (Nat.lt_add_of_pos_right (by decide))) z16
  replace z17 : w21[k + 17]? = some (q17, .inl (cI, 12, .inl (fun _ => 0))) := by rw [hw]; exact st_ne (Nat.ne_of_gt (Nat.lt_add_of_pos_right (by decide))) z17
  replace z18 : w21[k + 18]? = some (q18, .inl (cI, 12, .inl (fun _ => 0))) := by rw [hw]; exact st_ne (Nat.ne_of_gt (Nat.lt_add_of_pos_right (by decide))) z18
  replace z19 : w21[k + 19]? = some (q19, .inl (cI, 12, .inl (fun _ => 0))) := by rw [hw]; exact st_ne (Nat.ne_of_gt (Nat.lt_add_of_pos_right (by decide))) z19
  replace z20 : w21[k + 20]? = some (q20, .inr (4, [.ref q21])) := by rw [hw]; exact st_ne (Nat.ne_of_gt (Nat.lt_add_of_pos_right (by decide))) z20
  replace z21 : w21[k + 21]? = some (q21, .inl (cJ, 169, .inr (.inl (fun _ => 0)))) := by rw [hw]; exact st_ne (Nat.ne_of_gt (Nat.lt_add_of_pos_right (by decide))) z21
  replace z22 : w21[k + 22]? = some (q22, .inr (2, [.ref q23, .ref q24, .long 0, .int 0, .int 0, .int 0, .int 0])) := by rw [hw]; exact st_ne (Nat.ne_of_gt (Nat.lt_add_of_pos_right (by decide))) z22
  replace z23 : w21[k + 23]? = some (q23, .inl (cI, 12, .inl (fun _ => 0))) := by rw [hw]; exact st_ne (Nat.ne_of_gt (Nat.lt_add_of_pos_right (by decide))) z23
  replace z24 : w21[k + 24]? = some (q24, .inl (cI, 12, .inl (fun _ => 0))) := by rw [hw]; exact st_ne (Nat.ne_of_gt (Nat.lt_add_of_pos_right (by decide))) z24
  replace z25 : w21[k + 25]? = some (q25, .inr (2, [.ref q26, .ref q27, .long 0, .int 0, .int 0, .int 0, .int 0])) := by rw [hw]; exact st_ne (Nat.ne_of_gt (Nat.lt_add_of_pos_right (by decide))) z25
  replace z26 : w21[k + 26]? = some (q26, .inl (cI, 12, .inl (fun _ => 0))) := by rw [hw]; exact st_ne (Nat.ne_of_gt (Nat.lt_add_of_pos_right (by decide))) z26
  replace z27 : w21[k + 27]? = some (q27, .inl (cI, 12, .inl (fun _ => 0))) := by rw [hw]; exact st_ne (Nat.ne_of_gt (Nat.lt_add_of_pos_right (by decide))) z27
  replace z28 : w21[k + 28]? = some (q28, .inr (5, [.ref q29, .ref q30, .ref q31, .int 0])) := by rw [hw]; exact st_ne (Nat.ne_of_gt (Nat.lt_add_of_pos_right (by decide))) z28
  replace z29 : w21[k + 29]? = some (q29, .inl (cI, 12, .inl (fun _ => 0))) := by rw [hw]; exact st_ne (Nat.ne_of_gt (Nat.lt_add_of_pos_right (by decide))) z29
  replace z30 : w21[k + 30]? = some (q30, .inl (cI, 12, .inl (fun _ => 0))) := by rw [hw]; exact st_ne (Nat.ne_of_gt (Nat.lt_add_of_pos_right (by decide))) z30
  replace z31 : w21[k + 31]? = some (q31, .inr (4, [.ref q32])) := by rw [hw]; exact st_ne (Nat.ne_of_gt (Nat.lt_add_of_pos_right (by decide))) z31
  replace z32 : w21[k + 32]? = some (q32, .inl (cJ, 169, .inr (.inl (fun _ => 0)))) := by rw [hw]; exact st_ne (Nat.ne_of_gt (Nat.lt_add_of_pos_right (by decide))) z32
  replace hk : ∀ j : Nat, j < k → w21[j]? = ws0[j]? := fun j hj => by rw [hw]; exact st_ne (Nat.ne_of_lt hj) (hk j hj)
  replace z0 : w21[k]? = some (q0, .inr (8, [.ref q1, .ref q3, .ref q13, .ref q16, .ref q22, .ref q25, .ref q28, .null])) := by rw [hw]; exact st_eq z0
  replace hn : w21.length = k + 33 := by rw [hw, List.length_set]; exact hn
  clear hw
  refine lv_aload_n hx hb dX8_init_81 rfl (lv_at hl 0 rfl) ?_
  refine va_new (ci := 7) (fs := [.null, .int 0, .int 0]) (C := RX7) (T := TX7) (N := 3) hx hb hts inqX7 tyX7 tyX7_ok hown (hts _ cl_X8_54) (hts _ ib_X7) (hts _ ii_X7) hK hP hD hS hA rfl (fun j hj => by rcases (show j = 0 ∨ j = 1 ∨ j = 2 by omega) with rfl | rfl | rfl <;> rfl) (Nat.le_of_ble_eq_true rfl) (Nat.le_of_ble_eq_true rfl) dX8_init_82 (fun q33 H hP hD hS => ?_)
  obtain ⟨w22, hw⟩ : ∃ x, x = w21 ++ [(q33, .inr (7, [.null, .int 0, .int 0]))] := ⟨_, rfl⟩
  rw [← hw] at hP hD
  have z33 : w22[k + 33]? = some (q33, .inr (7, [.null, .int 0, .int 0])) := ap_new hw hn
  replace z0 := (ap_old hw hn (Nat.lt_add_of_pos_right (by decide))).trans z0
  replace z1 := (ap_old hw hn (Nat.add_lt_add_left (by decide) k)).trans z1
  replace z2 := (ap_old hw hn (Nat.add_lt_add_left (by decide) k)).trans z2
  replace z3 := (ap_old hw hn (Nat.add_lt_add_left (by decide) k)).trans z3
  replace z4 := (ap_old hw hn (Nat.add_lt_add_left (by decide) k)).trans z4
  replace z5 := (ap_old hw hn (Nat.add_lt_add_left (by decide) k)).trans z5
  replace z6 := (ap_old hw hn (Nat.add_lt_add_left (by decide) k)).trans z6
  replace z7 := (ap_old hw hn (Nat.add_lt_add_left (by decide) k)).trans z7
  replace z8 := (ap_old hw hn (Nat.add_lt_add_left (by decide) k)).trans z8
  replace z9 := (ap_old hw hn (Nat.add_lt_add_left (by decide) k)).trans z9
  replace z10 := (ap_old hw hn (Nat.add_lt_add_left (by decide) k)).trans z10
  replace z11 := (ap_old hw hn (Nat.add_lt_add_left (by decide) k)).trans z11
  replace z12 := (ap_old hw hn (Nat.add_lt_add_left (by decide) k)).trans z12
  replace z13 := (ap_old hw hn (Nat.add_lt_add_left (by decide) k)).trans z13
  replace z14 := (ap_old hw hn (Nat.add_lt_add_left (by decide) k)).trans z14
  replace z15 := (ap_old hw hn (Nat.add_lt_add_left (by decide) k)).trans z15
  replace z16 := (ap_old hw hn (Nat.add_lt_add_left (by decide) k)).trans z16
  replace z17 := (ap_old hw hn (Nat.add_lt_add_left (by decide) k)).trans z17
  replace z18 := (ap_old hw hn (Nat.add_lt_add_left (by decide) k)).trans z18
  replace z19 := (ap_old hw hn (Nat.add_lt_add_left (by decide) k)).trans z19
  replace z20 := (ap_old hw hn (Nat.add_lt_add_left (by decide) k)).trans z20
  replace z21 := (ap_old hw hn (Nat.add_lt_add_left (by decide) k)).trans z21
  replace z22 := (ap_old hw hn (Nat.add_lt_add_left (by decide) k)).trans z22
  replace z23 := (ap_old hw hn (Nat.add_lt_add_left (by decide) k)).trans z23
  replace z24 := (ap_old hw hn (Nat.add_lt_add_left (by decide) k)).trans z24
  replace z25 := (ap_old hw hn (Nat.add_lt_add_left (by decide) k)).trans z25
  replace z26 := (ap_old hw hn (Nat.add_lt_add_left (by decide) k)).trans z26
  replace z27 := (ap_old hw hn (Nat.add_lt_add_left (by decide) k)).trans z27
  replace z28 := (ap_old hw hn (Nat.add_lt_add_left (by decide) k)).trans z28
  replace z29 := (ap_old hw hn (Nat.add_lt_add_left (by decide) k)).trans z29
  replace z30 := (ap_old hw hn (Nat.add_lt_add_left (by decide) k)).trans z30
  replace z31 := (ap_old hw hn (Nat.add_lt_add_left (by decide) k)).trans z31
  replace z32 := (ap_old hw hn (Nat.add_lt_add_left (by decide) k)).trans z32
  replace hk : ∀ j : Nat, j < k → w22[j]? = ws0[j]? := fun j hj => (ap_old hw hn (Nat.lt_of_lt_of_le hj (Nat.le_add_right k _))).trans (hk j hj)
  replace hn : w22.length = k + 34 := ap_len hw hn
  clear hw
  refine lv_dup hx hb dX8_init_85 rfl ?_
  refine in_call (runIN (As := []) (rest := [.ref q33, .ref q0]) X cq_X7_init lk_X8_56 (c_X7_init l D cI cJ cZ w22 (k + 33) q33 base hn z33 hD) rfl rfl ⟨Nat.le_of_ble_eq_true rfl, Nat.le_of_ble_eq_true rfl⟩ hP rfl hl.1 rfl (Nat.le_of_ble_eq_true rfl) dX8_init_86 ⟨Nat.le_of_ble_eq_true rfl, Nat.le_of_ble_eq_true rfl⟩) hS (fun w23 H locs hP hD hB hS => ?_)
  obtain ⟨q34, hn2, hk2, y0, y1⟩ := hB
  replace z0 := (hk2 _ (Nat.lt_add_of_pos_right (by decide))).trans z0
  replace z1 := (hk2 _ (Nat.add_lt_add_left (by decide) k)).trans z1
  replace z2 := (hk2 _ (Nat.add_lt_add_left (by decide) k)).trans z2
  replace z3 := (hk2 _ (Nat.add_lt_add_left (by decide) k)).trans z3
  replace z4 := (hk2 _ (Nat.add_lt_add_left (by decide) k)).trans z4
  replace z5 := (hk2 _ (Nat.add_lt_add_left (by decide) k)).trans z5
  replace z6 := (hk2 _ (Nat.add_lt_add_left (by decide) k)).trans z6
  replace z7 := (hk2 _ (Nat.add_lt_add_left (by decide) k)).trans z7
  replace z8 := (hk2 _ (Nat.add_lt_add_left (by decide) k)).trans z8
  replace z9 := (hk2 _ (Nat.add_lt_add_left (by decide) k)).trans z9
  replace z10 := (hk2 _ (Nat.add_lt_add_left (by decide) k)).trans z10
  replace z11 := (hk2 _ (Nat.add_lt_add_left (by decide) k)).trans z11
  replace z12 := (hk2 _ (Nat.add_lt_add_left (by decide) k)).trans z12
  replace z13 := (hk2 _ (Nat.add_lt_add_left (by decide) k)).trans z13
  replace z14 := (hk2 _ (Nat.add_lt_add_left (by decide) k)).trans z14
  replace z15 := (hk2 _ (Nat.add_lt_add_left (by decide) k)).trans z15
  replace z16 := (hk2 _ (Nat.add_lt_add_left (by decide) k)).trans z16
  replace z17 := (hk2 _ (Nat.add_lt_add_left (by decide) k)).trans z17
  replace z18 := (hk2 _ (Nat.add_lt_add_left (by decide) k)).trans z18
  replace z19 := (hk2 _ (Nat.add_lt_add_left (by decide) k)).trans z19
  replace z20 := (hk2 _ (Nat.add_lt_add_left (by decide) k)).trans z20
  replace z21 := (hk2 _ (Nat.add_lt_add_left (by decide) k)).trans z21
  replace z22 := (hk2 _ (Nat.add_lt_add_left (by decide) k)).trans z22
  replace z23 := (hk2 _ (Nat.add_lt_add_left (by decide) k)).trans z23
  replace z24 := (hk2 _ (Nat.add_lt_add_left (by decide) k)).trans z24
  replace z25 := (hk2 _ (Nat.add_lt_add_left (by decide) k)).trans z25
  replace z26 := (hk2 _ (Nat.add_lt_add_left (by decide) k)).trans z26
  replace z27 := (hk2 _ (Nat.add_lt_add_left (by decide) k)).trans z27
  replace z28 := (hk2 _ (Nat.add_lt_add_left (by decide) k)).trans z28
  replace z29 := (hk2 _ (Nat.add_lt_add_left (by decide) k)).trans z29
  replace z30 := (hk2 _ (Nat.add_lt_add_left (by decide) k)).trans z30
  replace z31 := (hk2 _ (Nat.add_lt_add_left (by decide) k)).trans z31
  replace z32 := (hk2 _ (Nat.add_lt_add_left (by decide) k)).trans z32
  replace hk : ∀ j : Nat, j < k → w23[j]? = ws0[j]? := fun j hj => (hk2 j (Nat.lt_of_lt_of_le hj (Nat.le_add_right k _))).trans (hk j hj)
  have z33 : w23[k + 33]? = some (q33, .inr (7, [.ref q34, .int 0, .int 0])) := y0
  have z34 : w23[k + 34]? = some (q34, .inl (cI, 10, .inl (fun _ => 0))) := y1
  clear hn
  have hn : w23.length = k + 35 := hn2
  clear hn2 hk2 y0 y1
  refine va_putF (ci := 8) (v := .ref q33) (ty := (.object "AHandGoesUp$Trials")) (C := RX8) (T := TX8) (N := 8) hx hb hts inqX8 tyX8 tyX8_ok nmX8 hown hK hP hD hS (k) z0 rfl 7 (by decide) (hts _ fl_X8_57) (fun _ h9 => h9) rfl hin rfl (by decide +kernel) rfl rfl (Nat.le_of_ble_eq_true rfl) dX8_init_89 (fun H locs hP hD hS => ?_)
  obtain ⟨w24, hw⟩ : ∃ x, x = w23.set k (q0, .inr (8, [.ref q1, .ref q3, .ref q13, .ref q16, .ref q22, .ref q25, .ref q28, .ref q33])) := ⟨_, rfl⟩
  replace hP : va_P D vwCl w24 H := by rw [hw]; exact hP
  replace hD : va_D (fun q => base ≤ q) w24 := by rw [hw]; exact hD
  replace z1 : w24[k + 1]? = some (q1, .inr (6, [.ref q2, .int 0])) := by rw [hw]; exact st_ne (Nat.ne_of_gt (Nat.lt_add_of_pos_right (by decide))) z1
  replace z2 : w24[k + 2]? = some (q2, .inl (cI, 72, .inl (fun _ => 0))) := by rw [hw]; exact st_ne (Nat.ne_of_gt (Nat.lt_add_of_pos_right (by decide))) z2
  replace z3 : w24[k + 3]? = some (q3, .inr (3, [.ref q4, .ref q5, .ref q6, .ref q7, .ref q8, .ref q9, .ref q10, .int 0, .int 5])) := by rw [hw]; exact st_ne (Nat.ne_of_gt (Nat.lt_add_of_pos_right (by decide))) z3
  replace z4 : w24[k + 4]? = some (q4, .inl (cI, 12, .inl (fun _ => 0))) := by rw [hw]; exact st_ne (Nat.ne_of_gt (Nat.lt_add_of_pos_right (by decide))) z4
  replace z5 : w24[k + 5]? = some (q5, .inl (cI, 12, .inl (fun _ => 0))) := by rw [hw]; exact st_ne (Nat.ne_of_gt (Nat.lt_add_of_pos_right (by decide))) z5
  replace z6 : w24[k + 6]? = some (q6, .inl (cI, 12, .inl (fun _ => 0))) := by rw [hw]; exact st_ne (Nat.ne_of_gt (Nat.lt_add_of_pos_right (by decide))) z6
  replace z7 : w24[k + 7]? = some (q7, .inl (cI, 12, .inl (fun _ => 0))) := by rw [hw]; exact st_ne (Nat.ne_of_gt (Nat.lt_add_of_pos_right (by decide))) z7
  replace z8 : w24[k + 8]? = some (q8, .inl (cI, 12, .inl (fun _ => 0))) := by rw [hw]; exact st_ne (Nat.ne_of_gt (Nat.lt_add_of_pos_right (by decide))) z8
  replace z9 : w24[k + 9]? = some (q9, .inl (cI, 12, .inl (fun _ => 0))) := by rw [hw]; exact st_ne (Nat.ne_of_gt (Nat.lt_add_of_pos_right (by decide))) z9
  replace z10 : w24[k + 10]? = some (q10, .inr (2, [.ref q11, .ref q12, .long 0, .int 0, .int 0, .int 0, .int 0])) := by rw [hw]; exact st_ne (Nat.ne_of_gt (Nat.lt_add_of_pos_right (by decide))) z10
  replace z11 : w24[k + 11]? = some (q11, .inl (cI, 12, .inl (fun _ => 0))) := by rw [hw]; exact st_ne (Nat.ne_of_gt (Nat.lt_add_of_pos_right (by decide))) z11
  replace z12 : w24[k + 12]? = some (q12, .inl (cI, 12, .inl (fun _ => 0))) := by rw [hw]; exact st_ne (Nat.ne_of_gt (Nat.lt_add_of_pos_right (by decide))) z12
  replace z13 : w24[k + 13]? = some (q13, .inr (1, [.ref q14])) := by rw [hw]; exact st_ne (Nat.ne_of_gt (Nat.lt_add_of_pos_right (by decide))) z13
  replace z14 : w24[k + 14]? = some (q14, .inr (4, [.ref q15])) := by rw [hw]; exact st_ne (Nat.ne_of_gt (Nat.lt_add_of_pos_right (by decide))) z14
  replace z15 : w24[k + 15]? = some (q15, .inl (cJ, 169, .inr (.inl (fun _ => 0)))) := by rw [hw]; exact st_ne (Nat.ne_of_gt (Nat.lt_add_of_pos_right (by decide))) z15
  replace z16 : w24[k + 16]? = some (q16, .inr (0, [.ref q17, .ref q18, .ref q19, .ref q20, .int 0, .int 0])) := by rw [hw]; exact st_ne (Nat.ne_of_gt (Nat.lt_add_of_pos_right (by decide))) z16
  replace z17 : w24[k + 17]? = some (q17, .inl (cI, 12, .inl (fun _ => 0))) := by rw [hw]; exact st_ne (Nat.ne_of_gt (Nat.lt_add_of_pos_right (by decide))) z17
  replace z18 : w24[k + 18]? = some (q18, .inl (cI, 12, .inl (fun _ => 0))) := by rw [hw]; exact st_ne (Nat.ne_of_gt (Nat.lt_add_of_pos_right (by decide))) z18
  replace z19 : w24[k + 19]? = some (q19, .inl (cI, 12, .inl (fun _ => 0))) := by rw [hw]; exact st_ne (Nat.ne_of_gt (Nat.lt_add_of_pos_right (by decide))) z19
  replace z20 : w24[k + 20]? = some (q20, .inr (4, [.ref q21])) := by rw [hw]; exact st_ne (Nat.ne_of_gt (Nat.lt_add_of_pos_right (by decide))) z20
  replace z21 : w24[k + 21]? = some (q21, .inl (cJ, 169, .inr (.inl (fun _ => 0)))) := by rw [hw]; exact st_ne (Nat.ne_of_gt (Nat.lt_add_of_pos_right (by decide))) z21
  replace z22 : w24[k + 22]? = some (q22, .inr (2, [.ref q23, .ref q24, .long 0, .int 0, .int 0, .int 0, .int 0])) := by rw [hw]; exact st_ne (Nat.ne_of_gt (Nat.lt_add_of_pos_right (by decide))) z22
  replace z23 : w24[k + 23]? = some (q23, .inl (cI, 12, .inl (fun _ => 0))) := by rw [hw]; exact st_ne (Nat.ne_of_gt (Nat.lt_add_of_pos_right (by decide))) z23
  replace z24 : w24[k + 24]? = some (q24, .inl (cI, 12, .inl (fun _ => 0))) := by rw [hw]; exact st_ne (Nat.ne_of_gt (Nat.lt_add_of_pos_right (by decide))) z24
  replace z25 : w24[k + 25]? = some (q25, .inr (2, [.ref q26, .ref q27, .long 0, .int 0, .int 0, .int 0, .int 0])) := by rw [hw]; exact st_ne (Nat.ne_of_gt (Nat.lt_add_of_pos_right (by decide))) z25
  replace z26 : w24[k + 26]? = some (q26, .inl (cI, 12, .inl (fun _ => 0))) := by rw [hw]; exact st_ne (Nat.ne_of_gt (Nat.lt_add_of_pos_right (by decide))) z26
  replace z27 : w24[k + 27]? = some (q27, .inl (cI, 12, .inl (fun _ => 0))) := by rw [hw]; exact st_ne (Nat.ne_of_gt (Nat.lt_add_of_pos_right (by decide))) z27
  replace z28 : w24[k + 28]? = some (q28, .inr (5, [.ref q29, .ref q30, .ref q31, .int 0])) := by rw [hw]; exact st_ne (Nat.ne_of_gt (Nat.lt_add_of_pos_right (by decide))) z28
  replace z29 : w24[k + 29]? = some (q29, .inl (cI, 12, .inl (fun _ => 0))) := by rw [hw]; exact st_ne (Nat.ne_of_gt (Nat.lt_add_of_pos_right (by decide))) z29
  replace z30 : w24[k + 30]? = some (q30, .inl (cI, 12, .inl (fun _ => 0))) := by rw [hw]; exact st_ne (Nat.ne_of_gt (Nat.lt_add_of_pos_right (by decide))) z30
  replace z31 : w24[k + 31]? = some (q31, .inr (4, [.ref q32])) := by rw [hw]; exact st_ne (Nat.ne_of_gt (Nat.lt_add_of_pos_right (by decide))) z31
  replace z32 : w24[k + 32]? = some (q32, .inl (cJ, 169, .inr (.inl (fun _ => 0)))) := by rw [hw]; exact st_ne (Nat.ne_of_gt (Nat.lt_add_of_pos_right (by decide))) z32
  replace z33 : w24[k + 33]? = some (q33, .inr (7, [.ref q34, .int 0, .int 0])) := by rw [hw]; exact st_ne (Nat.ne_of_gt (Nat.lt_add_of_pos_right (by decide))) z33
  replace z34 : w24[k + 34]? = some (q34, .inl (cI, 10, .inl (fun _ => 0))) := by rw [hw]; exact st_ne (Nat.ne_of_gt (Nat.lt_add_of_pos_right (by decide))) z34
  replace hk : ∀ j : Nat, j < k → w24[j]? = ws0[j]? := fun j hj => by rw [hw]; exact st_ne (Nat.ne_of_lt hj) (hk j hj)
  replace z0 : w24[k]? = some (q0, .inr (8, [.ref q1, .ref q3, .ref q13, .ref q16, .ref q22, .ref q25, .ref q28, .ref q33])) := by rw [hw]; exact st_eq z0
  replace hn : w24.length = k + 35 := by rw [hw, List.length_set]; exact hn
  clear hw
  refine W.widen (k := 34) (n := 842) (Nat.le_of_ble_eq_true rfl) (Nat.le_of_ble_eq_true rfl) ?_
  rw [hQ]
  exact rn_v X hS hP hD ⟨q1, q2, q3, q4, q5, q6, q7, q8, q9, q10, q11, q12, q13, q14, q15, q16, q17, q18, q19, q20, q21, q22, q23, q24, q25, q26, q27, q28, q29, q30, q31, q32, q33, q34, hn, hk, z0, z1, z2, z3, z4, z5, z6, z7, z8, z9, z10, z11, z12, z13, z14, z15, z16, z17, z18, z19, z20, z21, z22, z23, z24, z25, z26, z27, z28, z29, z30, z31, z32, z33, z34⟩ dX8_init_92
theorem lk_X9_1 : Cond.methodLink RX9 1 objectInit ∈ aw := aw_at 795 (by decide +kernel) (by decide +kernel)
theorem cq_X9_init : cqI yX9_init cX9_init 1 0 := ⟨⟨aw_at 794 (by decide +kernel) (by decide +kernel), aw_at 87 (by decide +kernel) (by decide +kernel), by decide +kernel, by decide +kernel, by decide +kernel⟩, aw_at 793 (by decide +kernel) (by decide +kernel), rfl⟩
def rm_X9_init : Room := { frames := 1, cells := 16, slots := 524, locals := 12 }
set_option maxHeartbeats 4000000 in
set_option maxRecDepth 100000 in
theorem c_X9_init (l : Launch) (D : va_G) (cI cJ cZ : ClassId) (ws0 : va_W) (k q0 base : Nat) (hn : ws0.length = k + 1) (z0 : ws0[k]? = some (q0, .inr (9, [.null, .int 0, .null, .int 0, .null, .null, .int 0, .null, .int 0, .int 0, .int 0, .null, .null, .long 0, .int 0, .int 0, .int 0, .int 0, .null, .null, .int 0, .null, .null, .null, .null, .null, .null, .null]))) (hD : va_D (fun q => base ≤ q) ws0) : Met l yX9_init (wq yX9_init cX9_init 1 none) rm_X9_init (Pq [.ref q0] D cI cJ cZ ws0) (Qn D (fun q => base ≤ q) (fun w => ∃ q1 q2 q3 q4 q5 q6 q7 q8 q9 q10 q11 q12 q13 q14 q15 q16 : Nat, w.length = k + 17 ∧ (∀ j : Nat, j < k → w[j]? = ws0[j]?) ∧ w[k]? = some (q0, .inr (9, [.ref q1, .int 0, .ref q2, .int 0, .ref q3, .ref q4, .int 5, .ref q5, .int 0, .int 0, .int 0, .ref q6, .ref q7, .long 0, .int 0, .int 0, .int 0, .int 0, .ref q8, .ref q9, .int 0, .ref q10, .ref q11, .ref q12, .ref q13, .ref q14, .ref q15, .ref q16])) ∧ w[k + 1]? = some (q1, .inl (cI, 72, .inl (fun _ => 0))) ∧ w[k + 2]? = some (q2, .inl (cI, 72, .inl (fun _ => 0))) ∧ w[k + 3]? = some (q3, .inl (cI, 12, .inl (fun _ => 0))) ∧ w[k + 4]? = some (q4, .inl (cI, 12, .inl (fun _ => 0))) ∧ w[k + 5]? = some (q5, .inl (cI, 72, .inl (fun _ => 0))) ∧ w[k + 6]? = some (q6, .inl (cJ, 169, .inr (.inl (fun _ => 0)))) ∧ w[k + 7]? = some (q7, .inl (cJ, 13, .inr (.inl (fun _ => 0)))) ∧ w[k + 8]? = some (q8, .inl (cI, 12, .inl (fun _ => 0))) ∧ w[k + 9]? = some (q9, .inl (cI, 12, .inl (fun _ => 0))) ∧ w[k + 10]? = some (q10, .inl (cI, 10, .inl (fun _ => 0))) ∧ w[k + 11]? = some (q11, .inl (cZ, 10, .inl (fun _ => 0))) ∧ w[k + 12]? = some (q12, .inl (cZ, 2, .inl (fun _ => 0))) ∧ w[k + 13]? = some (q13, .inl (cI, 24, .inl (fun _ => 0))) ∧ w[k + 14]? = some (q14, .inl (cI, 24, .inl (fun _ => 0))) ∧ w[k + 15]? = some (q15, .inl (cJ, 2, .inr (.inl (fun _ => 0)))) ∧ w[k + 16]? = some (q16, .inl (cI, 6, .inl (fun _ => 0))))) 16 524 (fun q => base ≤ q) := by
  refine mq_of (by decide) (Nat.le_of_ble_eq_true rfl) (fun p e s m args below meth c ls Q hQ X hin0 hP hl => ?_)
  obtain ⟨hx, hb, hr, hml, hown, hts, hlk, hK, hN⟩ := id X
  have hown : s.vm.findClass RX9 = some m.cls := hown
  have hin : meth.name = "<init>" := hin0 rfl
  have hl : lv_has ls 1 [(0, .ref q0)] := hl
  have hA : ∀ q : Nat, s.heap.size ≤ q → (fun q => base ≤ q) q := ba_le hP hD z0
  have hS : va_S (fun q => base ≤ q) s.heap s.heap [] := va_S.rf
  have hk : ∀ j : Nat, j < k → ws0[j]? = ws0[j]? := fun _ _ => rfl
  refine lv_aload_n hx hb dX9_init_0 rfl (lv_at hl 0 rfl) ?_
  refine W.objInit hx hb hown (hts _ lk_X9_1) (hts _ oi_inst) (hts _ oi_code) rfl (by rw [hml]; exact hl.1) rfl dX9_init_1 (Nat.le_of_ble_eq_true rfl) (Nat.le_of_ble_eq_true rfl) ?_
  refine W.eq (g2 := F0 m 4 ls []) rfl ?_
  refine lv_aload_n hx hb dX9_init_4 rfl (lv_at hl 0 rfl) ?_
  refine lv_bipush (v := (72 : Int32)) hx hb dX9_init_5 (by decide) ?_
  refine na_i (N := 72) hx hb hts hK hP hD hS hA (by decide) (by decide) (Nat.le_of_ble_eq_true rfl) (Nat.le_of_ble_eq_true rfl) (Nat.le_of_ble_eq_true rfl) dX9_init_7 (fun q1 w1 H hP hD hw hS => ?_)
  have z1 : w1[k + 1]? = some (q1, .inl (cI, 72, .inl (fun _ => 0))) := ap_new hw hn
  replace z0 := (ap_old hw hn (Nat.lt_add_of_pos_right (by decide))).trans z0
  replace hk : ∀ j : Nat, j < k → w1[j]? = ws0[j]? := fun j hj => (ap_old hw hn (Nat.lt_of_lt_of_le hj (Nat.le_add_right k _))).trans (hk j hj)
  replace hn : w1.length = k + 2 := ap_len hw hn
  clear hw
  refine va_putF (ci := 9) (v := .ref q1) (ty := (.array .int)) (C := RX9) (T := TX9) (N := 28) hx hb hts inqX9 tyX9 tyX9_ok nmX9 hown hK hP hD hS (k) z0 rfl 0 (by decide) (hts _ fl_X9_7) (fun _ h9 => h9) rfl hin rfl (by decide +kernel) rfl rfl (Nat.le_of_ble_eq_true rfl) dX9_init_9 (fun H locs hP hD hS => ?_)
  obtain ⟨w2, hw⟩ : ∃ x, x = w1.set k (q0, .inr (9, [.ref q1, .int 0, .null, .int 0, .null, .null, .int 0, .null, .int 0, .int 0, .int 0, .null, .null, .long 0, .int 0, .int 0, .int 0, .int 0, .null, .null, .int 0, .null, .null, .null, .null, .null, .null, .null])) := ⟨_, rfl⟩
  replace hP : va_P D vwCl w2 H := by rw [hw]; exact hP
  replace hD : va_D (fun q => base ≤ q) w2 := by rw [hw]; exact hD
  replace z1 : w2[k + 1]? = some (q1, .inl (cI, 72, .inl (fun _ => 0))) := by rw [hw]; exact st_ne (Nat.ne_of_gt (Nat.lt_add_of_pos_right (by decide))) z1
  replace hk : ∀ j : Nat, j < k → w2[j]? = ws0[j]? := fun j hj => by rw [hw]; exact st_ne (Nat.ne_of_lt hj) (hk j hj)
  replace z0 : w2[k]? = some (q0, .inr (9, [.ref q1, .int 0, .null, .int 0, .null, .null, .int 0, .null, .int 0, .int 0, .int 0, .null, .null, .long 0, .int 0, .int 0, .int 0, .int 0, .null, .null, .int 0, .null, .null, .null, .null, .null, .null, .null])) := by rw [hw]; exact st_eq z0
  replace hn : w2.length = k + 2 := by rw [hw, List.length_set]; exact hn
  clear hw
  refine lv_aload_n hx hb dX9_init_12 rfl (lv_at hl 0 rfl) ?_
  refine lv_bipush (v := (72 : Int32)) hx hb dX9_init_13 (by decide) ?_
  refine na_i (N := 72) hx hb hts hK hP hD hS hA (by decide) (by decide) (Nat.le_of_ble_eq_true rfl) (Nat.le_of_ble_eq_true rfl) (Nat.le_of_ble_eq_true rfl) dX9_init_15 (fun q2 w3 H hP hD hw hS => ?_)
  have z2 : w3[k + 2]? = some (q2, .inl (cI, 72, .inl (fun _ => 0))) := ap_new hw hn
  replace z0 := (ap_old hw hn (Nat.lt_add_of_pos_right (by decide))).trans z0
  replace z1 := (ap_old hw hn (Nat.add_lt_add_left (by decide) k)).trans z1
  replace hk : ∀ j : Nat, j < k → w3[j]? = ws0[j]? := fun j hj => (ap_old hw hn (Nat.lt_of_lt_of_le hj (Nat.le_add_right k _))).trans (hk j hj)
  replace hn : w3.length = k + 3 := ap_len hw hn
  clear hw
  refine va_putF (ci := 9) (v := .ref q2) (ty := (.array .int)) (C := RX9) (T := TX9) (N := 28) hx hb hts inqX9 tyX9 tyX9_ok nmX9 hown hK hP hD hS (k) z0 rfl 2 (by decide) (hts _ fl_X9_13) (fun _ h9 => h9) rfl hin rfl (by decide +kernel) rfl rfl (Nat.le_of_ble_eq_true rfl) dX9_init_17 (fun H locs hP hD hS => ?_)
  obtain ⟨w4, hw⟩ : ∃ x, x = w3.set k (q0, .inr (9, [.ref q1, .int 0, .ref q2, .int 0, .null, .null, .int 0, .null, .int 0, .int 0, .int 0, .null, .null, .long 0, .int 0, .int 0, .int 0, .int 0, .null, .null, .int 0, .null, .null, .null, .null, .null, .null, .null])) := ⟨_, rfl⟩
  replace hP : va_P D vwCl w4 H := by rw [hw]; exact hP
  replace hD : va_D (fun q => base ≤ q) w4 := by rw [hw]; exact hD
  replace z1 : w4[k + 1]? = some (q1, .inl (cI, 72, .inl (fun _ => 0))) := by rw [hw]; exact st_ne (Nat.ne_of_gt (Nat.lt_add_of_pos_right (by decide))) z1
  replace z2 : w4[k + 2]? = some (q2, .inl (cI, 72, .inl (fun _ => 0))) := by rw [hw]; exact st_ne (Nat.ne_of_gt (Nat.lt_add_of_pos_right (by decide))) z2
  replace hk : ∀ j : Nat, j < k → w4[j]? = ws0[j]? := fun j hj => by rw [hw]; exact st_ne (Nat.ne_of_lt hj) (hk j hj)
  replace z0 : w4[k]? = some (q0, .inr (9, [.ref q1, .int 0, .ref q2, .int 0, .null, .null, .int 0, .null, .int 0, .int 0, .int 0, .null, .null, .long 0, .int 0, .int 0, .int 0, .int 0, .null, .null, .int 0, .null, .null, .null, .null, .null, .null, .null])) := by rw [hw]; exact st_eq z0
  replace hn : w4.length = k + 3 := by rw [hw, List.length_set]; exact hn
  clear hw
  refine lv_aload_n hx hb dX9_init_20 rfl (lv_at hl 0 rfl) ?_
  refine lv_bipush (v := (12 : Int32)) hx hb dX9_init_21 (by decide) ?_
  refine na_i (N := 12) hx hb hts hK hP hD hS hA (by decide) (by decide) (Nat.le_of_ble_eq_true rfl) (Nat.le_of_ble_eq_true rfl) (Nat.le_of_ble_eq_true rfl) dX9_init_23 (fun q3 w5 H hP hD hw hS => ?_)
  have z3 : w5[k + 3]? = some (q3, .inl (cI, 12, .inl (fun _ => 0))) := ap_new hw hn
  replace z0 := (ap_old hw hn (Nat.lt_add_of_pos_right (by decide))).trans z0
  replace z1 := (ap_old hw hn (Nat.add_lt_add_left (by decide) k)).trans z1
  replace z2 := (ap_old hw hn (Nat.add_lt_add_left (by decide) k)).trans z2
  replace hk : ∀ j : Nat, j < k → w5[j]? = ws0[j]? := fun j hj => (ap_old hw hn (Nat.lt_of_lt_of_le hj (Nat.le_add_right k _))).trans (hk j hj)
  replace hn : w5.length = k + 4 := ap_len hw hn
  clear hw
  refine va_putF (ci := 9) (v := .ref q3) (ty := (.array .int)) (C := RX9) (T := TX9) (N := 28) hx hb hts inqX9 tyX9 tyX9_ok nmX9 hown hK hP hD hS (k) z0 rfl 4 (by decide) (hts _ fl_X9_16) (fun _ h9 => h9) rfl hin rfl (by decide +kernel) rfl rfl (Nat.le_of_ble_eq_true rfl) dX9_init_25 (fun H locs hP hD hS => ?_)
  obtain ⟨w6, hw⟩ : ∃ x, x = w5.set k (q0, .inr (9, [.ref q1, .int 0, .ref q2, .int 0, .ref q3, .null, .int 0, .null, .int 0, .int 0, .int 0, .null, .null, .long 0, .int 0, .int 0, .int 0, .int 0, .null, .null, .int 0, .null, .null, .null, .null, .null, .null, .null])) := ⟨_, rfl⟩
  replace hP : va_P D vwCl w6 H := by rw [hw]; exact hP
  replace hD : va_D (fun q => base ≤ q) w6 := by rw [hw]; exact hD
  replace z1 : w6[k + 1]? = some (q1, .inl (cI, 72, .inl (fun _ => 0))) := by rw [hw]; exact st_ne (Nat.ne_of_gt (Nat.lt_add_of_pos_right (by decide))) z1
  replace z2 : w6[k + 2]? = some (q2, .inl (cI, 72, .inl (fun _ => 0))) := by rw [hw]; exact st_ne (Nat.ne_of_gt (Nat.lt_add_of_pos_right (by decide))) z2
  replace z3 : w6[k + 3]? = some (q3, .inl (cI, 12, .inl (fun _ => 0))) := by rw [hw]; exact st_ne (Nat.ne_of_gt (Nat.lt_add_of_pos_right (by decide))) z3
  replace hk : ∀ j : Nat, j < k → w6[j]? = ws0[j]? := fun j hj => by rw [hw]; exact st_ne (Nat.ne_of_lt hj) (hk j hj)
  replace z0 : w6[k]? = some (q0, .inr (9, [.ref q1, .int 0, .ref q2, .int 0, .ref q3, .null, .int 0, .null, .int 0, .int 0, .int 0, .null, .null, .long 0, .int 0, .int 0, .int 0, .int 0, .null, .null, .int 0, .null, .null, .null, .null, .null, .null, .null])) := by rw [hw]; exact st_eq z0
  replace hn : w6.length = k + 4 := by rw [hw, List.length_set]; exact hn
  clear hw
  refine lv_aload_n hx hb dX9_init_28 rfl (lv_at hl 0 rfl) ?_
  refine lv_bipush (v := (12 : Int32)) hx hb dX9_init_29 (by decide) ?_
  refine na_i (N := 12) hx hb hts hK hP hD hS hA (by decide) (by decide) (Nat.le_of_ble_eq_true rfl) (Nat.le_of_ble_eq_true rfl) (Nat.le_of_ble_eq_true rfl) dX9_init_31 (fun q4 w7 H hP hD hw hS => ?_)
  have z4 : w7[k + 4]? = some (q4, .inl (cI, 12, .inl (fun _ => 0))) := ap_new hw hn
  replace z0 := (ap_old hw hn (Nat.lt_add_of_pos_right (by decide))).trans z0
  replace z1 := (ap_old hw hn (Nat.add_lt_add_left (by decide) k)).trans z1
  replace z2 := (ap_old hw hn (Nat.add_lt_add_left (by decide) k)).trans z2
  replace z3 := (ap_old hw hn (Nat.add_lt_add_left (by decide) k)).trans z3
  replace hk : ∀ j : Nat, j < k → w7[j]? = ws0[j]? := fun j hj => (ap_old hw hn (Nat.lt_of_lt_of_le hj (Nat.le_add_right k _))).trans (hk j hj)
  replace hn : w7.length = k + 5 := ap_len hw hn
  clear hw
  refine va_putF (ci := 9) (v := .ref q4) (ty := (.array .int)) (C := RX9) (T := TX9) (N := 28) hx hb hts inqX9 tyX9 tyX9_ok nmX9 hown hK hP hD hS (k) z0 rfl 5 (by decide) (hts _ fl_X9_19) (fun _ h9 => h9) rfl hin rfl (by decide +kernel) rfl rfl (Nat.le_of_ble_eq_true rfl) dX9_init_33 (fun H locs hP hD hS => ?_)
  obtain ⟨w8, hw⟩ : ∃ x, x = w7.set k (q0, .inr (9, [.ref q1, .int 0, .ref q2, .int 0, .ref q3, .ref q4, .int 0, .null, .int 0, .int 0, .int 0, .null, .null, .long 0, .int 0, .int 0, .int 0, .int 0, .null, .null, .int 0, .null, .null, .null, .null, .null, .null, .null])) := ⟨_, rfl⟩
  replace hP : va_P D vwCl w8 H := by rw [hw]; exact hP
  replace hD : va_D (fun q => base ≤ q) w8 := by rw [hw]; exact hD
  replace z1 : w8[k + 1]? = some (q1, .inl (cI, 72, .inl (fun _ => 0))) := by rw [hw]; exact st_ne (Nat.ne_of_gt (Nat.lt_add_of_pos_right (by decide))) z1
  replace z2 : w8[k + 2]? = some (q2, .inl (cI, 72, .inl (fun _ => 0))) := by rw [hw]; exact st_ne (Nat.ne_of_gt (Nat.lt_add_of_pos_right (by decide))) z2
  replace z3 : w8[k + 3]? = some (q3, .inl (cI, 12, .inl (fun _ => 0))) := by rw [hw]; exact st_ne (Nat.ne_of_gt (Nat.lt_add_of_pos_right (by decide))) z3
  replace z4 : w8[k + 4]? = some (q4, .inl (cI, 12, .inl (fun _ => 0))) := by rw [hw]; exact st_ne (Nat.ne_of_gt (Nat.lt_add_of_pos_right (by decide))) z4
  replace hk : ∀ j : Nat, j < k → w8[j]? = ws0[j]? := fun j hj => by rw [hw]; exact st_ne (Nat.ne_of_lt hj) (hk j hj)
  replace z0 : w8[k]? = some (q0, .inr (9, [.ref q1, .int 0, .ref q2, .int 0, .ref q3, .ref q4, .int 0, .null, .int 0, .int 0, .int 0, .null, .null, .long 0, .int 0, .int 0, .int 0, .int 0, .null, .null, .int 0, .null, .null, .null, .null, .null, .null, .null])) := by rw [hw]; exact st_eq z0
  replace hn : w8.length = k + 5 := by rw [hw, List.length_set]; exact hn
  clear hw
  refine lv_aload_n hx hb dX9_init_36 rfl (lv_at hl 0 rfl) ?_
  refine lv_bipush (v := (72 : Int32)) hx hb dX9_init_37 (by decide) ?_
  refine na_i (N := 72) hx hb hts hK hP hD hS hA (by decide) (by decide) (Nat.le_of_ble_eq_true rfl) (Nat.le_of_ble_eq_true rfl) (Nat.le_of_ble_eq_true rfl) dX9_init_39 (fun q5 w9 H hP hD hw hS => ?_)
  have z5 : w9[k + 5]? = some (q5, .inl (cI, 72, .inl (fun _ => 0))) := ap_new hw hn
  replace z0 := (ap_old hw hn (Nat.lt_add_of_pos_right (by decide))).trans z0
  replace z1 := (ap_old hw hn (Nat.add_lt_add_left (by decide) k)).trans z1
  replace z2 := (ap_old hw hn (Nat.add_lt_add_left (by decide) k)).trans z2
  replace z3 := (ap_old hw hn (Nat.add_lt_add_left (by decide) k)).trans z3
  replace z4 := (ap_old hw hn (Nat.add_lt_add_left (by decide) k)).trans z4
  replace hk : ∀ j : Nat, j < k → w9[j]? = ws0[j]? := fun j hj => (ap_old hw hn (Nat.lt_of_lt_of_le hj (Nat.le_add_right k _))).trans (hk j hj)
  replace hn : w9.length = k + 6 := ap_len hw hn
  clear hw
  refine va_putF (ci := 9) (v := .ref q5) (ty := (.array .int)) (C := RX9) (T := TX9) (N := 28) hx hb hts inqX9 tyX9 tyX9_ok nmX9 hown hK hP hD hS (k) z0 rfl 7 (by decide) (hts _ fl_X9_22) (fun _ h9 => h9) rfl hin rfl (by decide +kernel) rfl rfl (Nat.le_of_ble_eq_true rfl) dX9_init_41 (fun H locs hP hD hS => ?_)
  obtain ⟨w10, hw⟩ : ∃ x, x = w9.set k (q0, .inr (9, [.ref q1, .int 0, .ref q2, .int 0, .ref q3, .ref q4, .int 0, .ref q5, .int 0, .int 0, .int 0, .null, .null, .long 0, .int 0, .int 0, .int 0, .int 0, .null, .null, .int 0, .null, .null, .null, .null, .null, .null, .null])) := ⟨_, rfl⟩
  replace hP : va_P D vwCl w10 H := by rw [hw]; exact hP
  replace hD : va_D (fun q => base ≤ q) w10 := by rw [hw]; exact hD
  replace z1 : w10[k + 1]? = some (q1, .inl (cI, 72, .inl (fun _ => 0))) := by rw [hw]; exact st_ne (Nat.ne_of_gt (Nat.lt_add_of_pos_right (by decide))) z1
  replace z2 : w10[k + 2]? = some (q2, .inl (cI, 72, .inl (fun _ => 0))) := by rw [hw]; exact st_ne (Nat.ne_of_gt (Nat.lt_add_of_pos_right (by decide))) z2
  replace z3 : w10[k + 3]? = some (q3, .inl (cI, 12, .inl (fun _ => 0))) := by rw [hw]; exact st_ne (Nat.ne_of_gt (Nat.lt_add_of_pos_right (by decide))) z3
  replace z4 : w10[k + 4]? = some (q4, .inl (cI, 12, .inl (fun _ => 0))) := by rw [hw]; exact st_ne (Nat.ne_of_gt (Nat.lt_add_of_pos_right (by decide))) z4
  replace z5 : w10[k + 5]? = some (q5, .inl (cI, 72, .inl (fun _ => 0))) := by rw [hw]; exact st_ne (Nat.ne_of_gt (Nat.lt_add_of_pos_right (by decide))) z5
  replace hk : ∀ j : Nat, j < k → w10[j]? = ws0[j]? := fun j hj => by rw [hw]; exact st_ne (Nat.ne_of_lt hj) (hk j hj)
  replace z0 : w10[k]? = some (q0, .inr (9, [.ref q1, .int 0, .ref q2, .int 0, .ref q3, .ref q4, .int 0, .ref q5, .int 0, .int 0, .int 0, .null, .null, .long 0, .int 0, .int 0, .int 0, .int 0, .null, .null, .int 0, .null, .null, .null, .null, .null, .null, .null])) := by rw [hw]; exact st_eq z0
  replace hn : w10.length = k + 6 := by rw [hw, List.length_set]; exact hn
  clear hw
  refine lv_aload_n hx hb dX9_init_44 rfl (lv_at hl 0 rfl) ?_
  refine lv_sipush (v := (169 : Int32)) hx hb dX9_init_45 (by decide) ?_
  refine na_l (N := 169) hx hb hts hK hP hD hS hA (by decide) (by decide) (Nat.le_of_ble_eq_true rfl) (Nat.le_of_ble_eq_true rfl) (Nat.le_of_ble_eq_true rfl) dX9_init_48 (fun q6 w11 H hP hD hw hS => ?_)
  have z6 : w11[k + 6]? = some (q6, .inl (cJ, 169, .inr (.inl (fun _ => 0)))) := ap_new hw hn
  replace z0 := (ap_old hw hn (Nat.lt_add_of_pos_right (by decide))).trans z0
  replace z1 := (ap_old hw hn (Nat.add_lt_add_left (by decide) k)).trans z1
  replace z2 := (ap_old hw hn (Nat.add_lt_add_left (by decide) k)).trans z2
  replace z3 := (ap_old hw hn (Nat.add_lt_add_left (by decide) k)).trans z3
  replace z4 := (ap_old hw hn (Nat.add_lt_add_left (by decide) k)).trans z4
  replace z5 := (ap_old hw hn (Nat.add_lt_add_left (by decide) k)).trans z5
  replace hk : ∀ j : Nat, j < k → w11[j]? = ws0[j]? := fun j hj => (ap_old hw hn (Nat.lt_of_lt_of_le hj (Nat.le_add_right k _))).trans (hk j hj)
  replace hn : w11.length = k + 7 := ap_len hw hn
  clear hw
  refine va_putF (ci := 9) (v := .ref q6) (ty := (.array .long)) (C := RX9) (T := TX9) (N := 28) hx hb hts inqX9 tyX9 tyX9_ok nmX9 hown hK hP hD hS (k) z0 rfl 11 (by decide) (hts _ fl_X9_25) (fun _ h9 => h9) rfl hin rfl (by decide +kernel) rfl rfl (Nat.le_of_ble_eq_true rfl) dX9_init_50 (fun H locs hP hD hS => ?_)
  obtain ⟨w12, hw⟩ : ∃ x, x = w11.set k (q0, .inr (9, [.ref q1, .int 0, .ref q2, .int 0, .ref q3, .ref q4, .int 0, .ref q5, .int 0, .int 0, .int 0, .ref q6, .null, .long 0, .int 0, .int 0, .int 0, .int 0, .null, .null, .int 0, .null, .null, .null, .null, .null, .null, .null])) := ⟨_, rfl⟩
  replace hP : va_P D vwCl w12 H := by rw [hw]; exact hP
  replace hD : va_D (fun q => base ≤ q) w12 := by rw [hw]; exact hD
  replace z1 : w12[k + 1]? = some (q1, .inl (cI, 72, .inl (fun _ => 0))) := by rw [hw]; exact st_ne (Nat.ne_of_gt (Nat.lt_add_of_pos_right (by decide))) z1
  replace z2 : w12[k + 2]? = some (q2, .inl (cI, 72, .inl (fun _ => 0))) := by rw [hw]; exact st_ne (Nat.ne_of_gt (Nat.lt_add_of_pos_right (by decide))) z2
  replace z3 : w12[k + 3]? = some (q3, .inl (cI, 12, .inl (fun _ => 0))) := by rw [hw]; exact st_ne (Nat.ne_of_gt (Nat.lt_add_of_pos_right (by decide))) z3
  replace z4 : w12[k + 4]? = some (q4, .inl (cI, 12, .inl (fun _ => 0))) := by rw [hw]; exact st_ne (Nat.ne_of_gt (Nat.lt_add_of_pos_right (by decide))) z4
  replace z5 : w12[k + 5]? = some (q5, .inl (cI, 72, .inl (fun _ => 0))) := by rw [hw]; exact st_ne (Nat.ne_of_gt (Nat.lt_add_of_pos_right (by decide))) z5
  replace z6 : w12[k + 6]? = some (q6, .inl (cJ, 169, .inr (.inl (fun _ => 0)))) := by rw [hw]; exact st_ne (Nat.ne_of_gt (Nat.lt_add_of_pos_right (by decide))) z6
  replace hk : ∀ j : Nat, j < k → w12[j]? = ws0[j]? := fun j hj => by rw [hw]; exact st_ne (Nat.ne_of_lt hj) (hk j hj)
  replace z0 : w12[k]? = some (q0, .inr (9, [.ref q1, .int 0, .ref q2, .int 0, .ref q3, .ref q4, .int 0, .ref q5, .int 0, .int 0, .int 0, .ref q6, .null, .long 0, .int 0, .int 0, .int 0, .int 0, .null, .null, .int 0, .null, .null, .null, .null, .null, .null, .null])) := by rw [hw]; exact st_eq z0
  replace hn : w12.length = k + 7 := by rw [hw, List.length_set]; exact hn
  clear hw
  refine lv_aload_n hx hb dX9_init_53 rfl (lv_at hl 0 rfl) ?_
  refine lv_bipush (v := (13 : Int32)) hx hb dX9_init_54 (by decide) ?_
  refine na_l (N := 13) hx hb hts hK hP hD hS hA (by decide) (by decide) (Nat.le_of_ble_eq_true rfl) (Nat.le_of_ble_eq_true rfl) (Nat.le_of_ble_eq_true rfl) dX9_init_56 (fun q7 w13 H hP hD hw hS => ?_)
  have z7 : w13[k + 7]? = some (q7, .inl (cJ, 13, .inr (.inl (fun _ => 0)))) := ap_new hw hn
  replace z0 := (ap_old hw hn (Nat.lt_add_of_pos_right (by decide))).trans z0
  replace z1 := (ap_old hw hn (Nat.add_lt_add_left (by decide) k)).trans z1
  replace z2 := (ap_old hw hn (Nat.add_lt_add_left (by decide) k)).trans z2
  replace z3 := (ap_old hw hn (Nat.add_lt_add_left (by decide) k)).trans z3
  replace z4 := (ap_old hw hn (Nat.add_lt_add_left (by decide) k)).trans z4
  replace z5 := (ap_old hw hn (Nat.add_lt_add_left (by decide) k)).trans z5
  replace z6 := (ap_old hw hn (Nat.add_lt_add_left (by decide) k)).trans z6
  replace hk : ∀ j : Nat, j < k → w13[j]? = ws0[j]? := fun j hj => (ap_old hw hn (Nat.lt_of_lt_of_le hj (Nat.le_add_right k _))).trans (hk j hj)
  replace hn : w13.length = k + 8 := ap_len hw hn
  clear hw
  refine va_putF (ci := 9) (v := .ref q7) (ty := (.array .long)) (C := RX9) (T := TX9) (N := 28) hx hb hts inqX9 tyX9 tyX9_ok nmX9 hown hK hP hD hS (k) z0 rfl 12 (by decide) (hts _ fl_X9_29) (fun _ h9 => h9) rfl hin rfl (by decide +kernel) rfl rfl (Nat.le_of_ble_eq_true rfl) dX9_init_58 (fun H locs hP hD hS => ?_)
  obtain ⟨w14, hw⟩ : ∃ x, x = w13.set k (q0, .inr (9, [.ref q1, .int 0, .ref q2, .int 0, .ref q3, .ref q4, .int 0, .ref q5, .int 0, .int 0, .int 0, .ref q6, .ref q7, .long 0, .int 0, .int 0, .int 0, .int 0, .null, .null, .int 0, .null, .null, .null, .null, .null, .null, .null])) := ⟨_, rfl⟩
  replace hP : va_P D vwCl w14 H := by rw [hw]; exact hP
  replace hD : va_D (fun q => base ≤ q) w14 := by rw [hw]; exact hD
  replace z1 : w14[k + 1]? = some (q1, .inl (cI, 72, .inl (fun _ => 0))) := by rw [hw]; exact st_ne (Nat.ne_of_gt (Nat.lt_add_of_pos_right (by decide))) z1
  replace z2 : w14[k + 2]? = some (q2, .inl (cI, 72, .inl (fun _ => 0))) := by rw [hw]; exact st_ne (Nat.ne_of_gt (Nat.lt_add_of_pos_right (by decide))) z2
  replace z3 : w14[k + 3]? = some (q3, .inl (cI, 12, .inl (fun _ => 0))) := by rw [hw]; exact st_ne (Nat.ne_of_gt (Nat.lt_add_of_pos_right (by decide))) z3
  replace z4 : w14[k + 4]? = some (q4, .inl (cI, 12, .inl (fun _ => 0))) := by rw [hw]; exact st_ne (Nat.ne_of_gt (Nat.lt_add_of_pos_right (by decide))) z4
  replace z5 : w14[k + 5]? = some (q5, .inl (cI, 72, .inl (fun _ => 0))) := by rw [hw]; exact st_ne (Nat.ne_of_gt (Nat.lt_add_of_pos_right (by decide))) z5
  replace z6 : w14[k + 6]? = some (q6, .inl (cJ, 169, .inr (.inl (fun _ => 0)))) := by rw [hw]; exact st_ne (Nat.ne_of_gt (Nat.lt_add_of_pos_right (by decide))) z6
  replace z7 : w14[k + 7]? = some (q7, .inl (cJ, 13, .inr (.inl (fun _ => 0)))) := by rw [hw]; exact st_ne (Nat.ne_of_gt (Nat.lt_add_of_pos_right (by decide))) z7
  replace hk : ∀ j : Nat, j < k → w14[j]? = ws0[j]? := fun j hj => by rw [hw]; exact st_ne (Nat.ne_of_lt hj) (hk j hj)
  replace z0 : w14[k]? = some (q0, .inr (9, [.ref q1, .int 0, .ref q2, .int 0, .ref q3, .ref q4, .int 0, .ref q5, .int 0, .int 0, .int 0, .ref q6, .ref q7, .long 0, .int 0, .int 0, .int 0, .int 0, .null, .null, .int 0, .null, .null, .null, .null, .null, .null, .null])) := by rw [hw]; exact st_eq z0
  replace hn : w14.length = k + 8 := by rw [hw, List.length_set]; exact hn
  clear hw
  refine lv_aload_n hx hb dX9_init_61 rfl (lv_at hl 0 rfl) ?_
  refine lv_bipush (v := (12 : Int32)) hx hb dX9_init_62 (by decide) ?_
  refine na_i (N := 12) hx hb hts hK hP hD hS hA (by decide) (by decide) (Nat.le_of_ble_eq_true rfl) (Nat.le_of_ble_eq_true rfl) (Nat.le_of_ble_eq_true rfl) dX9_init_64 (fun q8 w15 H hP hD hw hS => ?_)
  have z8 : w15[k + 8]? = some (q8, .inl (cI, 12, .inl (fun _ => 0))) := ap_new hw hn
  replace z0 := (ap_old hw hn (Nat.lt_add_of_pos_right (by decide))).trans z0
  replace z1 := (ap_old hw hn (Nat.add_lt_add_left (by decide) k)).trans z1
  replace z2 := (ap_old hw hn (Nat.add_lt_add_left (by decide) k)).trans z2
  replace z3 := (ap_old hw hn (Nat.add_lt_add_left (by decide) k)).trans z3
  replace z4 := (ap_old hw hn (Nat.add_lt_add_left (by decide) k)).trans z4
  replace z5 := (ap_old hw hn (Nat.add_lt_add_left (by decide) k)).trans z5
  replace z6 := (ap_old hw hn (Nat.add_lt_add_left (by decide) k)).trans z6
  replace z7 := (ap_old hw hn (Nat.add_lt_add_left (by decide) k)).trans z7
  replace hk : ∀ j : Nat, j < k → w15[j]? = ws0[j]? := fun j hj => (ap_old hw hn (Nat.lt_of_lt_of_le hj (Nat.le_add_right k _))).trans (hk j hj)
  replace hn : w15.length = k + 9 := ap_len hw hn
  clear hw
  refine va_putF (ci := 9) (v := .ref q8) (ty := (.array .int)) (C := RX9) (T := TX9) (N := 28) hx hb hts inqX9 tyX9 tyX9_ok nmX9 hown hK hP hD hS (k) z0 rfl 18 (by decide) (hts _ fl_X9_32) (fun _ h9 => h9) rfl hin rfl (by decide +kernel) rfl rfl (Nat.le_of_ble_eq_true rfl) dX9_init_66 (fun H locs hP hD hS => ?_)
  obtain ⟨w16, hw⟩ : ∃ x, x = w15.set k (q0, .inr (9, [.ref q1, .int 0, .ref q2, .int 0, .ref q3, .ref q4, .int 0, .ref q5, .int 0, .int 0, .int 0, .ref q6, .ref q7, .long 0, .int 0, .int 0, .int 0, .int 0, .ref q8, .null, .int 0, .null, .null, .null, .null, .null, .null, .null])) := ⟨_, rfl⟩
  replace hP : va_P D vwCl w16 H := by rw [hw]; exact hP
  replace hD : va_D (fun q => base ≤ q) w16 := by rw [hw]; exact hD
  replace z1 : w16[k + 1]? = some (q1, .inl (cI, 72, .inl (fun _ => 0))) := by rw [hw]; exact st_ne (Nat.ne_of_gt (Nat.lt_add_of_pos_right (by decide))) z1
  replace z2 : w16[k + 2]? = some (q2, .inl (cI, 72, .inl (fun _ => 0))) := by rw [hw]; exact st_ne (Nat.ne_of_gt (Nat.lt_add_of_pos_right (by decide))) z2
  replace z3 : w16[k + 3]? = some (q3, .inl (cI, 12, .inl (fun _ => 0))) := by rw [hw]; exact st_ne (Nat.ne_of_gt (Nat.lt_add_of_pos_right (by decide))) z3
  replace z4 : w16[k + 4]? = some (q4, .inl (cI, 12, .inl (fun _ => 0))) := by rw [hw]; exact st_ne (Nat.ne_of_gt (Nat.lt_add_of_pos_right (by decide))) z4
  replace z5 : w16[k + 5]? = some (q5, .inl (cI, 72, .inl (fun _ => 0))) := by rw [hw]; exact st_ne (Nat.ne_of_gt (Nat.lt_add_of_pos_right (by decide))) z5
  replace z6 : w16[k + 6]? = some (q6, .inl (cJ, 169, .inr (.inl (fun _ => 0)))) := by rw [hw]; exact st_ne (Nat.ne_of_gt (Nat.lt_add_of_pos_right (by decide))) z6
  replace z7 : w16[k + 7]? = some (q7, .inl (cJ, 13, .inr (.inl (fun _ => 0)))) := by rw [hw]; exact st_ne (Nat.ne_of_gt (Nat.lt_add_of_pos_right (by decide))) z7
  replace z8 : w16[k + 8]? = some (q8, .inl (cI, 12, .inl (fun _ => 0))) := by rw [hw]; exact st_ne (Nat.ne_of_gt (Nat.lt_add_of_pos_right (by decide))) z8
  replace hk : ∀ j : Nat, j < k → w16[j]? = ws0[j]? := fun j hj => by rw [hw]; exact st_ne (Nat.ne_of_lt hj) (hk j hj)
  replace z0 : w16[k]? = some (q0, .inr (9, [.ref q1, .int 0, .ref q2, .int 0, .ref q3, .ref q4, .int 0, .ref q5, .int 0, .int 0, .int 0, .ref q6, .ref q7, .long 0, .int 0, .int 0, .int 0, .int 0, .ref q8, .null, .int 0, .null, .null, .null, .null, .null, .null, .null])) := by rw [hw]; exact st_eq z0
  replace hn : w16.length = k + 9 := by rw [hw, List.length_set]; exact hn
  clear hw
  refine lv_aload_n hx hb dX9_init_69 rfl (lv_at hl 0 rfl) ?_
  refine lv_bipush (v := (12 : Int32)) hx hb dX9_init_70 (by decide) ?_
  refine na_i (N := 12) hx hb hts hK hP hD hS hA (by decide) (by decide) (Nat.le_of_ble_eq_true rfl) (Nat.le_of_ble_eq_true rfl) (Nat.le_of_ble_eq_true rfl) dX9_init_72 (fun q9 w17 H hP hD hw hS => ?_)
  have z9 : w17[k + 9]? = some (q9, .inl (cI, 12, .inl (fun _ => 0))) := ap_new hw hn
  replace z0 := (ap_old hw hn (Nat.lt_add_of_pos_right (by decide))).trans z0
  replace z1 := (ap_old hw hn (Nat.add_lt_add_left (by decide) k)).trans z1
  replace z2 := (ap_old hw hn (Nat.add_lt_add_left (by decide) k)).trans z2
  replace z3 := (ap_old hw hn (Nat.add_lt_add_left (by decide) k)).trans z3
  replace z4 := (ap_old hw hn (Nat.add_lt_add_left (by decide) k)).trans z4
  replace z5 := (ap_old hw hn (Nat.add_lt_add_left (by decide) k)).trans z5
  replace z6 := (ap_old hw hn (Nat.add_lt_add_left (by decide) k)).trans z6
  replace z7 := (ap_old hw hn (Nat.add_lt_add_left (by decide) k)).trans z7
  replace z8 := (ap_old hw hn (Nat.add_lt_add_left (by decide) k)).trans z8
  replace hk : ∀ j : Nat, j < k → w17[j]? = ws0[j]? := fun j hj => (ap_old hw hn (Nat.lt_of_lt_of_le hj (Nat.le_add_right k _))).trans (hk j hj)
  replace hn : w17.length = k + 10 := ap_len hw hn
  clear hw
  refine va_putF (ci := 9) (v := .ref q9) (ty := (.array .int)) (C := RX9) (T := TX9) (N := 28) hx hb hts inqX9 tyX9 tyX9_ok nmX9 hown hK hP hD hS (k) z0 rfl 19 (by decide) (hts _ fl_X9_35) (fun _ h9 => h9) rfl hin rfl (by decide +kernel) rfl rfl (Nat.le_of_ble_eq_true rfl) dX9_init_74 (fun H locs hP hD hS => ?_)
  obtain ⟨w18, hw⟩ : ∃ x, x = w17.set k (q0, .inr (9, [.ref q1, .int 0, .ref q2, .int 0, .ref q3, .ref q4, .int 0, .ref q5, .int 0, .int 0, .int 0, .ref q6, .ref q7, .long 0, .int 0, .int 0, .int 0, .int 0, .ref q8, .ref q9, .int 0, .null, .null, .null, .null, .null, .null, .null])) := ⟨_, rfl⟩
  replace hP : va_P D vwCl w18 H := by rw [hw]; exact hP
  replace hD : va_D (fun q => base ≤ q) w18 := by rw [hw]; exact hD
  replace z1 : w18[k + 1]? = some (q1, .inl (cI, 72, .inl (fun _ => 0))) := by rw [hw]; exact st_ne (Nat.ne_of_gt (Nat.lt_add_of_pos_right (by decide))) z1
  replace z2 : w18[k + 2]? = some (q2, .inl (cI, 72, .inl (fun _ => 0))) := by rw [hw]; exact st_ne (Nat.ne_of_gt (Nat.lt_add_of_pos_right (by decide))) z2
  replace z3 : w18[k + 3]? = some (q3, .inl (cI, 12, .inl (fun _ => 0))) := by rw [hw]; exact st_ne (Nat.ne_of_gt (Nat.lt_add_of_pos_right (by decide))) z3
  replace z4 : w18[k + 4]? = some (q4, .inl (cI, 12, .inl (fun _ => 0))) := by rw [hw]; exact st_ne (Nat.ne_of_gt (Nat.lt_add_of_pos_right (by decide))) z4
  replace z5 : w18[k + 5]? = some (q5, .inl (cI, 72, .inl (fun _ => 0))) := by rw [hw]; exact st_ne (Nat.ne_of_gt (Nat.lt_add_of_pos_right (by decide))) z5
  replace z6 : w18[k + 6]? = some (q6, .inl (cJ, 169, .inr (.inl (fun _ => 0)))) := by rw [hw]; exact st_ne (Nat.ne_of_gt (Nat.lt_add_of_pos_right (by decide))) z6
  replace z7 : w18[k + 7]? = some (q7, .inl (cJ, 13, .inr (.inl (fun _ => 0)))) := by rw [hw]; exact st_ne (Nat.ne_of_gt (Nat.lt_add_of_pos_right (by decide))) z7
  replace z8 : w18[k + 8]? = some (q8, .inl (cI, 12, .inl (fun _ => 0))) := by rw [hw]; exact st_ne (Nat.ne_of_gt (Nat.lt_add_of_pos_right (by decide))) z8
  replace z9 : w18[k + 9]? = some (q9, .inl (cI, 12, .inl (fun _ => 0))) := by rw [hw]; exact st_ne (Nat.ne_of_gt (Nat.lt_add_of_pos_right (by decide))) z9
  replace hk : ∀ j : Nat, j < k → w18[j]? = ws0[j]? := fun j hj => by rw [hw]; exact st_ne (Nat.ne_of_lt hj) (hk j hj)
  replace z0 : w18[k]? = some (q0, .inr (9, [.ref q1, .int 0, .ref q2, .int 0, .ref q3, .ref q4, .int 0, .ref q5, .int 0, .int 0, .int 0, .ref q6, .ref q7, .long 0, .int 0, .int 0, .int 0, .int 0, .ref q8, .ref q9, .int 0, .null, .null, .null, .null, .null, .null, .null])) := by rw [hw]; exact st_eq z0
  replace hn : w18.length = k + 10 := by rw [hw, List.length_set]; exact hn
  clear hw
  refine lv_aload_n hx hb dX9_init_77 rfl (lv_at hl 0 rfl) ?_
  refine lv_bipush (v := (10 : Int32)) hx hb dX9_init_78 (by decide) ?_
  refine na_i (N := 10) hx hb hts hK hP hD hS hA (by decide) (by decide) (Nat.le_of_ble_eq_true rfl) (Nat.le_of_ble_eq_true rfl) (Nat.le_of_ble_eq_true rfl) dX9_init_80 (fun q10 w19 H hP hD hw hS => ?_)
  have z10 : w19[k + 10]? = some (q10, .inl (cI, 10, .inl (fun _ => 0))) := ap_new hw hn
  replace z0 := (ap_old hw hn (Nat.lt_add_of_pos_right (by decide))).trans z0
  replace z1 := (ap_old hw hn (Nat.add_lt_add_left (by decide) k)).trans z1
  replace z2 := (ap_old hw hn (Nat.add_lt_add_left (by decide) k)).trans z2
  replace z3 := (ap_old hw hn (Nat.add_lt_add_left (by decide) k)).trans z3
  replace z4 := (ap_old hw hn (Nat.add_lt_add_left (by decide) k)).trans z4
  replace z5 := (ap_old hw hn (Nat.add_lt_add_left (by decide) k)).trans z5
  replace z6 := (ap_old hw hn (Nat.add_lt_add_left (by decide) k)).trans z6
  replace z7 := (ap_old hw hn (Nat.add_lt_add_left (by decide) k)).trans z7
  replace z8 := (ap_old hw hn (Nat.add_lt_add_left (by decide) k)).trans z8
  replace z9 := (ap_old hw hn (Nat.add_lt_add_left (by decide) k)).trans z9
  replace hk : ∀ j : Nat, j < k → w19[j]? = ws0[j]? := fun j hj => (ap_old hw hn (Nat.lt_of_lt_of_le hj (Nat.le_add_right k _))).trans (hk j hj)
  replace hn : w19.length = k + 11 := ap_len hw hn
  clear hw
  refine va_putF (ci := 9) (v := .ref q10) (ty := (.array .int)) (C := RX9) (T := TX9) (N := 28) hx hb hts inqX9 tyX9 tyX9_ok nmX9 hown hK hP hD hS (k) z0 rfl 21 (by decide) (hts _ fl_X9_38) (fun _ h9 => h9) rfl hin rfl (by decide +kernel) rfl rfl (Nat.le_of_ble_eq_true rfl) dX9_init_82 (fun H locs hP hD hS => ?_)
  obtain ⟨w20, hw⟩ : ∃ x, x = w19.set k (q0, .inr (9, [.ref q1, .int 0, .ref q2, .int 0, .ref q3, .ref q4, .int 0, .ref q5, .int 0, .int 0, .int 0, .ref q6, .ref q7, .long 0, .int 0, .int 0, .int 0, .int 0, .ref q8, .ref q9, .int 0, .ref q10, .null, .null, .null, .null, .null, .null])) := ⟨_, rfl⟩
  replace hP : va_P D vwCl w20 H := by rw [hw]; exact hP
  replace hD : va_D (fun q => base ≤ q) w20 := by rw [hw]; exact hD
  replace z1 : w20[k + 1]? = some (q1, .inl (cI, 72, .inl (fun _ => 0))) := by rw [hw]; exact st_ne (Nat.ne_of_gt (Nat.lt_add_of_pos_right (by decide))) z1
  replace z2 : w20[k + 2]? = some (q2, .inl (cI, 72, .inl (fun _ => 0))) := by rw [hw]; exact st_ne (Nat.ne_of_gt (Nat.lt_add_of_pos_right (by decide))) z2
  replace z3 : w20[k + 3]? = some (q3, .inl (cI, 12, .inl (fun _ => 0))) := by rw [hw]; exact st_ne (Nat.ne_of_gt (Nat.lt_add_of_pos_right (by decide))) z3
  replace z4 : w20[k + 4]? = some (q4, .inl (cI, 12, .inl (fun _ => 0))) := by rw [hw]; exact st_ne (Nat.ne_of_gt (Nat.lt_add_of_pos_right (by decide))) z4
  replace z5 : w20[k + 5]? = some (q5, .inl (cI, 72, .inl (fun _ => 0))) := by rw [hw]; exact st_ne (Nat.ne_of_gt (Nat.lt_add_of_pos_right (by decide))) z5
  replace z6 : w20[k + 6]? = some (q6, .inl (cJ, 169, .inr (.inl (fun _ => 0)))) := by rw [hw]; exact st_ne (Nat.ne_of_gt (Nat.lt_add_of_pos_right (by decide))) z6
  replace z7 : w20[k + 7]? = some (q7, .inl (cJ, 13, .inr (.inl (fun _ => 0)))) := by rw [hw]; exact st_ne (Nat.ne_of_gt (Nat.lt_add_of_pos_right (by decide))) z7
  replace z8 : w20[k + 8]? = some (q8, .inl (cI, 12, .inl (fun _ => 0))) := by rw [hw]; exact st_ne (Nat.ne_of_gt (Nat.lt_add_of_pos_right (by decide))) z8
  replace z9 : w20[k + 9]? = some (q9, .inl (cI, 12, .inl (fun _ => 0))) := by rw [hw]; exact st_ne (Nat.ne_of_gt (Nat.lt_add_of_pos_right (by decide))) z9
  replace z10 : w20[k + 10]? = some (q10, .inl (cI, 10, .inl (fun _ => 0))) := by rw [hw]; exact st_ne (Nat.ne_of_gt (Nat.lt_add_of_pos_right (by decide))) z10
  replace hk : ∀ j : Nat, j < k → w20[j]? = ws0[j]? := fun j hj => by rw [hw]; exact st_ne (Nat.ne_of_lt hj) (hk j hj)
  replace z0 : w20[k]? = some (q0, .inr (9, [.ref q1, .int 0, .ref q2, .int 0, .ref q3, .ref q4, .int 0, .ref q5, .int 0, .int 0, .int 0, .ref q6, .ref q7, .long 0, .int 0, .int 0, .int 0, .int 0, .ref q8, .ref q9, .int 0, .ref q10, .null, .null, .null, .null, .null, .null])) := by rw [hw]; exact st_eq z0
  replace hn : w20.length = k + 11 := by rw [hw, List.length_set]; exact hn
  clear hw
  refine lv_aload_n hx hb dX9_init_85 rfl (lv_at hl 0 rfl) ?_
  refine lv_bipush (v := (10 : Int32)) hx hb dX9_init_86 (by decide) ?_
  refine na_z (N := 10) hx hb hts hK hP hD hS hA (by decide) (by decide) (Nat.le_of_ble_eq_true rfl) (Nat.le_of_ble_eq_true rfl) (Nat.le_of_ble_eq_true rfl) dX9_init_88 (fun q11 w21 H hP hD hw hS => ?_)
  have z11 : w21[k + 11]? = some (q11, .inl (cZ, 10, .inl (fun _ => 0))) := ap_new hw hn
  replace z0 := (ap_old hw hn (Nat.lt_add_of_pos_right (by decide))).trans z0
  replace z1 := (ap_old hw hn (Nat.add_lt_add_left (by decide) k)).trans z1
  replace z2 := (ap_old hw hn (Nat.add_lt_add_left (by decide) k)).trans z2
  replace z3 := (ap_old hw hn (Nat.add_lt_add_left (by decide) k)).trans z3
  replace z4 := (ap_old hw hn (Nat.add_lt_add_left (by decide) k)).trans z4
  replace z5 := (ap_old hw hn (Nat.add_lt_add_left (by decide) k)).trans z5
  replace z6 := (ap_old hw hn (Nat.add_lt_add_left (by decide) k)).trans z6
  replace z7 := (ap_old hw hn (Nat.add_lt_add_left (by decide) k)).trans z7
  replace z8 := (ap_old hw hn (Nat.add_lt_add_left (by decide) k)).trans z8
  replace z9 := (ap_old hw hn (Nat.add_lt_add_left (by decide) k)).trans z9
  replace z10 := (ap_old hw hn (Nat.add_lt_add_left (by decide) k)).trans z10
  replace hk : ∀ j : Nat, j < k → w21[j]? = ws0[j]? := fun j hj => (ap_old hw hn (Nat.lt_of_lt_of_le hj (Nat.le_add_right k _))).trans (hk j hj)
  replace hn : w21.length = k + 12 := ap_len hw hn
  clear hw
  refine va_putF (ci := 9) (v := .ref q11) (ty := (.array .boolean)) (C := RX9) (T := TX9) (N := 28) hx hb hts inqX9 tyX9 tyX9_ok nmX9 hown hK hP hD hS (k) z0 rfl 22 (by decide) (hts _ fl_X9_41) (fun _ h9 => h9) rfl hin rfl (by decide +kernel) rfl rfl (Nat.le_of_ble_eq_true rfl) dX9_init_90 (fun H locs hP hD hS => ?_)
  obtain ⟨w22, hw⟩ : ∃ x, x = w21.set k (q0, .inr (9, [.ref q1, .int 0, .ref q2, .int 0, .ref q3, .ref q4, .int 0, .ref q5, .int 0, .int 0, .int 0, .ref q6, .ref q7, .long 0, .int 0, .int 0, .int 0, .int 0, .ref q8, .ref q9, .int 0, .ref q10, .ref q11, .null, .null, .null, .null, .null])) := ⟨_, rfl⟩
  replace hP : va_P D vwCl w22 H := by rw [hw]; exact hP
  replace hD : va_D (fun q => base ≤ q) w22 := by rw [hw]; exact hD
  replace z1 : w22[k + 1]? = some (q1, .inl (cI, 72, .inl (fun _ => 0))) := by rw [hw]; exact st_ne (Nat.ne_of_gt (Nat.lt_add_of_pos_right (by decide))) z1
  replace z2 : w22[k + 2]? = some (q2, .inl (cI, 72, .inl (fun _ => 0))) := by rw [hw]; exact st_ne (Nat.ne_of_gt (Nat.lt_add_of_pos_right (by decide))) z2
  replace z3 : w22[k + 3]? = some (q3, .inl (cI, 12, .inl (fun _ => 0))) := by rw [hw]; exact st_ne (Nat.ne_of_gt (Nat.lt_add_of_pos_right (by decide))) z3
  replace z4 : w22[k + 4]? = some (q4, .inl (cI, 12, .inl (fun _ => 0))) := by rw [hw]; exact st_ne (Nat.ne_of_gt (Nat.lt_add_of_pos_right (by decide))) z4
  replace z5 : w22[k + 5]? = some (q5, .inl (cI, 72, .inl (fun _ => 0))) := by rw [hw]; exact st_ne (Nat.ne_of_gt (Nat.lt_add_of_pos_right (by decide))) z5
  replace z6 : w22[k + 6]? = some (q6, .inl (cJ, 169, .inr (.inl (fun _ => 0)))) := by rw [hw]; exact st_ne (Nat.ne_of_gt (Nat.lt_add_of_pos_right (by decide))) z6
  replace z7 : w22[k + 7]? = some (q7, .inl (cJ, 13, .inr (.inl (fun _ => 0)))) := by rw [hw]; exact st_ne (Nat.ne_of_gt (Nat.lt_add_of_pos_right (by decide))) z7
  replace z8 : w22[k + 8]? = some (q8, .inl (cI, 12, .inl (fun _ => 0))) := by rw [hw]; exact st_ne (Nat.ne_of_gt (Nat.lt_add_of_pos_right (by decide))) z8
  replace z9 : w22[k + 9]? = some (q9, .inl (cI, 12, .inl (fun _ => 0))) := by rw [hw]; exact st_ne (Nat.ne_of_gt (Nat.lt_add_of_pos_right (by decide))) z9
  replace z10 : w22[k + 10]? = some (q10, .inl (cI, 10, .inl (fun _ => 0))) := by rw [hw]; exact st_ne (Nat.ne_of_gt (Nat.lt_add_of_pos_right (by decide))) z10
  replace z11 : w22[k + 11]? = some (q11, .inl (cZ, 10, .inl (fun _ => 0))) := by rw [hw]; exact st_ne (Nat.ne_of_gt (Nat.lt_add_of_pos_right (by decide))) z11
  replace hk : ∀ j : Nat, j < k → w22[j]? = ws0[j]? := fun j hj => by rw [hw]; exact st_ne (Nat.ne_of_lt hj) (hk j hj)
  replace z0 : w22[k]? = some (q0, .inr (9, [.ref q1, .int 0, .ref q2, .int 0, .ref q3, .ref q4, .int 0, .ref q5, .int 0, .int 0, .int 0, .ref q6, .ref q7, .long 0, .int 0, .int 0, .int 0, .int 0, .ref q8, .ref q9, .int 0, .ref q10, .ref q11, .null, .null, .null, .null, .null])) := by rw [hw]; exact st_eq z0
  replace hn : w22.length = k + 12 := by rw [hw, List.length_set]; exact hn
  clear hw
  refine lv_aload_n hx hb dX9_init_93 rfl (lv_at hl 0 rfl) ?_
  refine lv_iconst (v := (2 : Int32)) hx hb dX9_init_94 (by decide) ?_
  refine na_z (N := 2) hx hb hts hK hP hD hS hA (by decide) (by decide) (Nat.le_of_ble_eq_true rfl) (Nat.le_of_ble_eq_true rfl) (Nat.le_of_ble_eq_true rfl) dX9_init_95 (fun q12 w23 H hP hD hw hS => ?_)
  have z12 : w23[k + 12]? = some (q12, .inl (cZ, 2, .inl (fun _ => 0))) := ap_new hw hn
  replace z0 := (ap_old hw hn (Nat.lt_add_of_pos_right (by decide))).trans z0
  replace z1 := (ap_old hw hn (Nat.add_lt_add_left (by decide) k)).trans z1
  replace z2 := (ap_old hw hn (Nat.add_lt_add_left (by decide) k)).trans z2
  replace z3 := (ap_old hw hn (Nat.add_lt_add_left (by decide) k)).trans z3
  replace z4 := (ap_old hw hn (Nat.add_lt_add_left (by decide) k)).trans z4
  replace z5 := (ap_old hw hn (Nat.add_lt_add_left (by decide) k)).trans z5
  replace z6 := (ap_old hw hn (Nat.add_lt_add_left (by decide) k)).trans z6
  replace z7 := (ap_old hw hn (Nat.add_lt_add_left (by decide) k)).trans z7
  replace z8 := (ap_old hw hn (Nat.add_lt_add_left (by decide) k)).trans z8
  replace z9 := (ap_old hw hn (Nat.add_lt_add_left (by decide) k)).trans z9
  replace z10 := (ap_old hw hn (Nat.add_lt_add_left (by decide) k)).trans z10
  replace z11 := (ap_old hw hn (Nat.add_lt_add_left (by decide) k)).trans z11
  replace hk : ∀ j : Nat, j < k → w23[j]? = ws0[j]? := fun j hj => (ap_old hw hn (Nat.lt_of_lt_of_le hj (Nat.le_add_right k _))).trans (hk j hj)
  replace hn : w23.length = k + 13 := ap_len hw hn
  clear hw
  refine va_putF (ci := 9) (v := .ref q12) (ty := (.array .boolean)) (C := RX9) (T := TX9) (N := 28) hx hb hts inqX9 tyX9 tyX9_ok nmX9 hown hK hP hD hS (k) z0 rfl 23 (by decide) (hts _ fl_X9_45) (fun _ h9 => h9) rfl hin rfl (by decide +kernel) rfl rfl (Nat.le_of_ble_eq_true rfl) dX9_init_97 (fun H locs hP hD hS => ?_)
  obtain ⟨w24, hw⟩ : ∃ x, x = w23.set k (q0, .inr (9, [.ref q1, .int 0, .ref q2, .int 0, .ref q3, .ref q4, .int 0, .ref q5, .int 0, .int 0, .int 0, .ref q6, .ref q7, .long 0, .int 0, .int 0, .int 0, .int 0, .ref q8, .ref q9, .int 0, .ref q10, .ref q11, .ref q12, .null, .null, .null, .null])) := ⟨_, rfl⟩
  replace hP : va_P D vwCl w24 H := by rw [hw]; exact hP
  replace hD : va_D (fun q => base ≤ q) w24 := by rw [hw]; exact hD
  replace z1 : w24[k + 1]? = some (q1, .inl (cI, 72, .inl (fun _ => 0))) := by rw [hw]; exact st_ne (Nat.ne_of_gt (Nat.lt_add_of_pos_right (by decide))) z1
  replace z2 : w24[k + 2]? = some (q2, .inl (cI, 72, .inl (fun _ => 0))) := by rw [hw]; exact st_ne (Nat.ne_of_gt (Nat.lt_add_of_pos_right (by decide))) z2
  replace z3 : w24[k + 3]? = some (q3, .inl (cI, 12, .inl (fun _ => 0))) := by rw [hw]; exact st_ne (Nat.ne_of_gt (Nat.lt_add_of_pos_right (by decide))) z3
  replace z4 : w24[k + 4]? = some (q4, .inl (cI, 12, .inl (fun _ => 0))) := by rw [hw]; exact st_ne (Nat.ne_of_gt (Nat.lt_add_of_pos_right (by decide))) z4
  replace z5 : w24[k + 5]? = some (q5, .inl (cI, 72, .inl (fun _ => 0))) := by rw [hw]; exact st_ne (Nat.ne_of_gt (Nat.lt_add_of_pos_right (by decide))) z5
  replace z6 : w24[k + 6]? = some (q6, .inl (cJ, 169, .inr (.inl (fun _ => 0)))) := by rw [hw]; exact st_ne (Nat.ne_of_gt (Nat.lt_add_of_pos_right (by decide))) z6
  replace z7 : w24[k + 7]? = some (q7, .inl (cJ, 13, .inr (.inl (fun _ => 0)))) := by rw [hw]; exact st_ne (Nat.ne_of_gt (Nat.lt_add_of_pos_right (by decide))) z7
  replace z8 : w24[k + 8]? = some (q8, .inl (cI, 12, .inl (fun _ => 0))) := by rw [hw]; exact st_ne (Nat.ne_of_gt (Nat.lt_add_of_pos_right (by decide))) z8
  replace z9 : w24[k + 9]? = some (q9, .inl (cI, 12, .inl (fun _ => 0))) := by rw [hw]; exact st_ne (Nat.ne_of_gt (Nat.lt_add_of_pos_right (by decide))) z9
  replace z10 : w24[k + 10]? = some (q10, .inl (cI, 10, .inl (fun _ => 0))) := by rw [hw]; exact st_ne (Nat.ne_of_gt (Nat.lt_add_of_pos_right (by decide))) z10
  replace z11 : w24[k + 11]? = some (q11, .inl (cZ, 10, .inl (fun _ => 0))) := by rw [hw]; exact st_ne (Nat.ne_of_gt (Nat.lt_add_of_pos_right (by decide))) z11
  replace z12 : w24[k + 12]? = some (q12, .inl (cZ, 2, .inl (fun _ => 0))) := by rw [hw]; exact st_ne (Nat.ne_of_gt (Nat.lt_add_of_pos_right (by decide))) z12
  replace hk : ∀ j : Nat, j < k → w24[j]? = ws0[j]? := fun j hj => by rw [hw]; exact st_ne (Nat.ne_of_lt hj) (hk j hj)
  replace z0 : w24[k]? = some (q0, .inr (9, [.ref q1, .int 0, .ref q2, .int 0, .ref q3, .ref q4, .int 0, .ref q5, .int 0, .int 0, .int 0, .ref q6, .ref q7, .long 0, .int 0, .int 0, .int 0, .int 0, .ref q8, .ref q9, .int 0, .ref q10, .ref q11, .ref q12, .null, .null, .null, .null])) := by rw [hw]; exact st_eq z0
  replace hn : w24.length = k + 13 := by rw [hw, List.length_set]; exact hn
  clear hw
  refine lv_aload_n hx hb dX9_init_100 rfl (lv_at hl 0 rfl) ?_
  refine lv_bipush (v := (24 : Int32)) hx hb dX9_init_101 (by decide) ?_
  refine na_i (N := 24) hx hb hts hK hP hD hS hA (by decide) (by decide) (Nat.le_of_ble_eq_true rfl) (Nat.le_of_ble_eq_true rfl) (Nat.le_of_ble_eq_true rfl) dX9_init_103 (fun q13 w25 H hP hD hw hS => ?_)
  have z13 : w25[k + 13]? = some (q13, .inl (cI, 24, .inl (fun _ => 0))) := ap_new hw hn
  replace z0 := (ap_old hw hn (Nat.lt_add_of_pos_right (by decide))).trans z0
  replace z1 := (ap_old hw hn (Nat.add_lt_add_left (by decide) k)).trans z1
  replace z2 := (ap_old hw hn (Nat.add_lt_add_left (by decide) k)).trans z2
  replace z3 := (ap_old hw hn (Nat.add_lt_add_left (by decide) k)).trans z3
  replace z4 := (ap_old hw hn (Nat.add_lt_add_left (by decide) k)).trans z4
  replace z5 := (ap_old hw hn (Nat.add_lt_add_left (by decide) k)).trans z5
  replace z6 := (ap_old hw hn (Nat.add_lt_add_left (by decide) k)).trans z6
  replace z7 := (ap_old hw hn (Nat.add_lt_add_left (by decide) k)).trans z7
  replace z8 := (ap_old hw hn (Nat.add_lt_add_left (by decide) k)).trans z8
  replace z9 := (ap_old hw hn (Nat.add_lt_add_left (by decide) k)).trans z9
  replace z10 := (ap_old hw hn (Nat.add_lt_add_left (by decide) k)).trans z10
  replace z11 := (ap_old hw hn (Nat.add_lt_add_left (by decide) k)).trans z11
  replace z12 := (ap_old hw hn (Nat.add_lt_add_left (by decide) k)).trans z12
  replace hk : ∀ j : Nat, j < k → w25[j]? = ws0[j]? := fun j hj => (ap_old hw hn (Nat.lt_of_lt_of_le hj (Nat.le_add_right k _))).trans (hk j hj)
  replace hn : w25.length = k + 14 := ap_len hw hn
  clear hw
  refine va_putF (ci := 9) (v := .ref q13) (ty := (.array .int)) (C := RX9) (T := TX9) (N := 28) hx hb hts inqX9 tyX9 tyX9_ok nmX9 hown hK hP hD hS (k) z0 rfl 24 (by decide) (hts _ fl_X9_48) (fun _ h9 => h9) rfl hin rfl (by decide +kernel) rfl rfl (Nat.le_of_ble_eq_true rfl) dX9_init_105 (fun H locs hP hD hS => ?_)
  obtain ⟨w26, hw⟩ : ∃ x, x = w25.set k (q0, .inr (9, [.ref q1, .int 0, .ref q2, .int 0, .ref q3, .ref q4, .int 0, .ref q5, .int 0, .int 0, .int 0, .ref q6, .ref q7, .long 0, .int 0, .int 0, .int 0, .int 0, .ref q8, .ref q9, .int 0, .ref q10, .ref q11, .ref q12, .ref q13, .null, .null, .null])) := ⟨_, rfl⟩
  replace hP : va_P D vwCl w26 H := by rw [hw]; exact hP
  replace hD : va_D (fun q => base ≤ q) w26 := by rw [hw]; exact hD
  replace z1 : w26[k + 1]? = some (q1, .inl (cI, 72, .inl (fun _ => 0))) := by rw [hw]; exact st_ne (Nat.ne_of_gt (Nat.lt_add_of_pos_right (by decide))) z1
  replace z2 : w26[k + 2]? = some (q2, .inl (cI, 72, .inl (fun _ => 0))) := by rw [hw]; exact st_ne (Nat.ne_of_gt (Nat.lt_add_of_pos_right (by decide))) z2
  replace z3 : w26[k + 3]? = some (q3, .inl (cI, 12, .inl (fun _ => 0))) := by rw [hw]; exact st_ne (Nat.ne_of_gt (Nat.lt_add_of_pos_right (by decide))) z3
  replace z4 : w26[k + 4]? = some (q4, .inl (cI, 12, .inl (fun _ => 0))) := by rw [hw]; exact st_ne (Nat.ne_of_gt (Nat.lt_add_of_pos_right (by decide))) z4
  replace z5 : w26[k + 5]? = some (q5, .inl (cI, 72, .inl (fun _ => 0))) := by rw [hw]; exact st_ne (Nat.ne_of_gt (Nat.lt_add_of_pos_right (by decide))) z5
  replace z6 : w26[k + 6]? = some (q6, .inl (cJ, 169, .inr (.inl (fun _ => 0)))) := by rw [hw]; exact st_ne (Nat.ne_of_gt (Nat.lt_add_of_pos_right (by decide))) z6
  replace z7 : w26[k + 7]? = some (q7, .inl (cJ, 13, .inr (.inl (fun _ => 0)))) := by rw [hw]; exact st_ne (Nat.ne_of_gt (Nat.lt_add_of_pos_right (by decide))) z7
  replace z8 : w26[k + 8]? = some (q8, .inl (cI, 12, .inl (fun _ => 0))) := by rw [hw]; exact st_ne (Nat.ne_of_gt (Nat.lt_add_of_pos_right (by decide))) z8
  replace z9 : w26[k + 9]? = some (q9, .inl (cI, 12, .inl (fun _ => 0))) := by rw [hw]; exact st_ne (Nat.ne_of_gt (Nat.lt_add_of_pos_right (by decide))) z9
  replace z10 : w26[k + 10]? = some (q10, .inl (cI, 10, .inl (fun _ => 0))) := by rw [hw]; exact st_ne (Nat.ne_of_gt (Nat.lt_add_of_pos_right (by decide))) z10
  replace z11 : w26[k + 11]? = some (q11, .inl (cZ, 10, .inl (fun _ => 0))) := by rw [hw]; exact st_ne (Nat.ne_of_gt (Nat.lt_add_of_pos_right (by decide))) z11
  replace z12 : w26[k + 12]? = some (q12, .inl (cZ, 2, .inl (fun _ => 0))) := by rw [hw]; exact st_ne (Nat.ne_of_gt (Nat.lt_add_of_pos_right (by decide))) z12
  replace z13 : w26[k + 13]? = some (q13, .inl (cI, 24, .inl (fun _ => 0))) := by rw [hw]; exact st_ne (Nat.ne_of_gt (Nat.lt_add_of_pos_right (by decide))) z13
  replace hk : ∀ j : Nat, j < k → w26[j]? = ws0[j]? := fun j hj => by rw [hw]; exact st_ne (Nat.ne_of_lt hj) (hk j hj)
  replace z0 : w26[k]? = some (q0, .inr (9, [.ref q1, .int 0, .ref q2, .int 0, .ref q3, .ref q4, .int 0, .ref q5, .int 0, .int 0, .int 0, .ref q6, .ref q7, .long 0, .int 0, .int 0, .int 0, .int 0, .ref q8, .ref q9, .int 0, .ref q10, .ref q11, .ref q12, .ref q13, .null, .null, .null])) := by rw [hw]; exact st_eq z0
  replace hn : w26.length = k + 14 := by rw [hw, List.length_set]; exact hn
  clear hw
  refine lv_aload_n hx hb dX9_init_108 rfl (lv_at hl 0 rfl) ?_
  refine lv_bipush (v := (24 : Int32)) hx hb dX9_init_109 (by decide) ?_
  refine na_i (N := 24) hx hb hts hK hP hD hS hA (by decide) (by decide) (Nat.le_of_ble_eq_true rfl) (Nat.le_of_ble_eq_true rfl) (Nat.le_of_ble_eq_true rfl) dX9_init_111 (fun q14 w27 H hP hD hw hS => ?_)
  have z14 : w27[k + 14]? = some (q14, .inl (cI, 24, .inl (fun _ => 0))) := ap_new hw hn
  replace z0 := (ap_old hw hn (Nat.lt_add_of_pos_right (by decide))).trans z0
  replace z1 := (ap_old hw hn (Nat.add_lt_add_left (by decide) k)).trans z1
  replace z2 := (ap_old hw hn (Nat.add_lt_add_left (by decide) k)).trans z2
  replace z3 := (ap_old hw hn (Nat.add_lt_add_left (by decide) k)).trans z3
  replace z4 := (ap_old hw hn (Nat.add_lt_add_left (by decide) k)).trans z4
  replace z5 := (ap_old hw hn (Nat.add_lt_add_left (by decide) k)).trans z5
  replace z6 := (ap_old hw hn (Nat.add_lt_add_left (by decide) k)).trans z6
  replace z7 := (ap_old hw hn (Nat.add_lt_add_left (by decide) k)).trans z7
  replace z8 := (ap_old hw hn (Nat.add_lt_add_left (by decide) k)).trans z8
  replace z9 := (ap_old hw hn (Nat.add_lt_add_left (by decide) k)).trans z9
  replace z10 := (ap_old hw hn (Nat.add_lt_add_left (by decide) k)).trans z10
  replace z11 := (ap_old hw hn (Nat.add_lt_add_left (by decide) k)).trans z11
  replace z12 := (ap_old hw hn (Nat.add_lt_add_left (by decide) k)).trans z12
  replace z13 := (ap_old hw hn (Nat.add_lt_add_left (by decide) k)).trans z13
  replace hk : ∀ j : Nat, j < k → w27[j]? = ws0[j]? := fun j hj => (ap_old hw hn (Nat.lt_of_lt_of_le hj (Nat.le_add_right k _))).trans (hk j hj)
  replace hn : w27.length = k + 15 := ap_len hw hn
  clear hw
  refine va_putF (ci := 9) (v := .ref q14) (ty := (.array .int)) (C := RX9) (T := TX9) (N := 28) hx hb hts inqX9 tyX9 tyX9_ok nmX9 hown hK hP hD hS (k) z0 rfl 25 (by decide) (hts _ fl_X9_51) (fun _ h9 => h9) rfl hin rfl (by decide +kernel) rfl rfl (Nat.le_of_ble_eq_true rfl) dX9_init_113 (fun H locs hP hD hS => ?_)
  obtain ⟨w28, hw⟩ : ∃ x, x = w27.set k (q0, .inr (9, [.ref q1, .int 0, .ref q2, .int 0, .ref q3, .ref q4, .int 0, .ref q5, .int 0, .int 0, .int 0, .ref q6, .ref q7, .long 0, .int 0, .int 0, .int 0, .int 0, .ref q8, .ref q9, .int 0, .ref q10, .ref q11, .ref q12, .ref q13, .ref q14, .null, .null])) := ⟨_, rfl⟩
  replace hP : va_P D vwCl w28 H := by rw [hw]; exact hP
  replace hD : va_D (fun q => base ≤ q) w28 := by rw [hw]; exact hD
  replace z1 : w28[k + 1]? = some (q1, .inl (cI, 72, .inl (fun _ => 0))) := by rw [hw]; exact st_ne (Nat.ne_of_gt (Nat.lt_add_of_pos_right (by decide))) z1
  replace z2 : w28[k + 2]? = some (q2, .inl (cI, 72, .inl (fun _ => 0))) := by rw [hw]; exact st_ne (Nat.ne_of_gt (Nat.lt_add_of_pos_right (by decide))) z2
  replace z3 : w28[k + 3]? = some (q3, .inl (cI, 12, .inl (fun _ => 0))) := by rw [hw]; exact st_ne (Nat.ne_of_gt (Nat.lt_add_of_pos_right (by decide))) z3
  replace z4 : w28[k + 4]? = some (q4, .inl (cI, 12, .inl (fun _ => 0))) := by rw [hw]; exact st_ne (Nat.ne_of_gt (Nat.lt_add_of_pos_right (by decide))) z4
  replace z5 : w28[k + 5]? = some (q5, .inl (cI, 72, .inl (fun _ => 0))) := by rw [hw]; exact st_ne (Nat.ne_of_gt (Nat.lt_add_of_pos_right (by decide))) z5
  replace z6 : w28[k + 6]? = some (q6, .inl (cJ, 169, .inr (.inl (fun _ => 0)))) := by rw [hw]; exact st_ne (Nat.ne_of_gt (Nat.lt_add_of_pos_right (by decide))) z6
  replace z7 : w28[k + 7]? = some (q7, .inl (cJ, 13, .inr (.inl (fun _ => 0)))) := by rw [hw]; exact st_ne (Nat.ne_of_gt (Nat.lt_add_of_pos_right (by decide))) z7
  replace z8 : w28[k + 8]? = some (q8, .inl (cI, 12, .inl (fun _ => 0))) := by rw [hw]; exact st_ne (Nat.ne_of_gt (Nat.lt_add_of_pos_right (by decide))) z8
  replace z9 : w28[k + 9]? = some (q9, .inl (cI, 12, .inl (fun _ => 0))) := by rw [hw]; exact st_ne (Nat.ne_of_gt (Nat.lt_add_of_pos_right (by decide))) z9
  replace z10 : w28[k + 10]? = some (q10, .inl (cI, 10, .inl (fun _ => 0))) := by rw [hw]; exact st_ne (Nat.ne_of_gt (Nat.lt_add_of_pos_right (by decide))) z10
  replace z11 : w28[k + 11]? = some (q11, .inl (cZ, 10, .inl (fun _ => 0))) := by rw [hw]; exact st_ne (Nat.ne_of_gt (Nat.lt_add_of_pos_right (by decide))) z11
  replace z12 : w28[k + 12]? = some (q12, .inl (cZ, 2, .inl (fun _ => 0))) := by rw [hw]; exact st_ne (Nat.ne_of_gt (Nat.lt_add_of_pos_right (by decide))) z12
  replace z13 : w28[k + 13]? = some (q13, .inl (cI, 24, .inl (fun _ => 0))) := by rw [hw]; exact st_ne (Nat.ne_of_gt (Nat.lt_add_of_pos_right (by decide))) z13
  replace z14 : w28[k + 14]? = some (q14, .inl (cI, 24, .inl (fun _ => 0))) := by rw [hw]; exact st_ne (Nat.ne_of_gt (Nat.lt_add_of_pos_right (by decide))) z14
  replace hk : ∀ j : Nat, j < k → w28[j]? = ws0[j]? := fun j hj => by rw [hw]; exact st_ne (Nat.ne_of_lt hj) (hk j hj)
  replace z0 : w28[k]? = some (q0, .inr (9, [.ref q1, .int 0, .ref q2, .int 0, .ref q3, .ref q4, .int 0, .ref q5, .int 0, .int 0, .int 0, .ref q6, .ref q7, .long 0, .int 0, .int 0, .int 0, .int 0, .ref q8, .ref q9, .int 0, .ref q10, .ref q11, .ref q12, .ref q13, .ref q14, .null, .null])) := by rw [hw]; exact st_eq z0
  replace hn : w28.length = k + 15 := by rw [hw, List.length_set]; exact hn
  clear hw
  refine lv_aload_n hx hb dX9_init_116 rfl (lv_at hl 0 rfl) ?_
  refine lv_iconst (v := (2 : Int32)) hx hb dX9_init_117 (by decide) ?_
  refine na_l (N := 2) hx hb hts hK hP hD hS hA (by decide) (by decide) (Nat.le_of_ble_eq_true rfl) (Nat.le_of_ble_eq_true rfl) (Nat.le_of_ble_eq_true rfl) dX9_init_118 (fun q15 w29 H hP hD hw hS => ?_)
  have z15 : w29[k + 15]? = some (q15, .inl (cJ, 2, .inr (.inl (fun _ => 0)))) := ap_new hw hn
  replace z0 := (ap_old hw hn (Nat.lt_add_of_pos_right (by decide))).trans z0
  replace z1 := (ap_old hw hn (Nat.add_lt_add_left (by decide) k)).trans z1
  replace z2 := (ap_old hw hn (Nat.add_lt_add_left (by decide) k)).trans z2
  replace z3 := (ap_old hw hn (Nat.add_lt_add_left (by decide) k)).trans z3
  replace z4 := (ap_old hw hn (Nat.add_lt_add_left (by decide) k)).trans z4
  replace z5 := (ap_old hw hn (Nat.add_lt_add_left (by decide) k)).trans z5
  replace z6 := (ap_old hw hn (Nat.add_lt_add_left (by decide) k)).trans z6
  replace z7 := (ap_old hw hn (Nat.add_lt_add_left (by decide) k)).trans z7
  replace z8 := (ap_old hw hn (Nat.add_lt_add_left (by decide) k)).trans z8
  replace z9 := (ap_old hw hn (Nat.add_lt_add_left (by decide) k)).trans z9
  replace z10 := (ap_old hw hn (Nat.add_lt_add_left (by decide) k)).trans z10
  replace z11 := (ap_old hw hn (Nat.add_lt_add_left (by decide) k)).trans z11
  replace z12 := (ap_old hw hn (Nat.add_lt_add_left (by decide) k)).trans z12
  replace z13 := (ap_old hw hn (Nat.add_lt_add_left (by decide) k)).trans z13
  replace z14 := (ap_old hw hn (Nat.add_lt_add_left (by decide) k)).trans z14
  replace hk : ∀ j : Nat, j < k → w29[j]? = ws0[j]? := fun j hj => (ap_old hw hn (Nat.lt_of_lt_of_le hj (Nat.le_add_right k _))).trans (hk j hj)
  replace hn : w29.length = k + 16 := ap_len hw hn
  clear hw
  refine va_putF (ci := 9) (v := .ref q15) (ty := (.array .long)) (C := RX9) (T := TX9) (N := 28) hx hb hts inqX9 tyX9 tyX9_ok nmX9 hown hK hP hD hS (k) z0 rfl 26 (by decide) (hts _ fl_X9_54) (fun _ h9 => h9) rfl hin rfl (by decide +kernel) rfl rfl (Nat.le_of_ble_eq_true rfl) dX9_init_120 (fun H locs hP hD hS => ?_)
  obtain ⟨w30, hw⟩ : ∃ x, x = w29.set k (q0, .inr (9, [.ref q1, .int 0, .ref q2, .int 0, .ref q3, .ref q4, .int 0, .ref q5, .int 0, .int 0, .int 0, .ref q6, .ref q7, .long 0, .int 0, .int 0, .int 0, .int 0, .ref q8, .ref q9, .int 0, .ref q10, .ref q11, .ref q12, .ref q13, .ref q14, .ref q15, .null])) := ⟨_, rfl⟩
  replace hP : va_P D vwCl w30 H := by rw [hw]; exact hP
  replace hD : va_D (fun q => base ≤ q) w30 := by rw [hw]; exact hD
  replace z1 : w30[k + 1]? = some (q1, .inl (cI, 72, .inl (fun _ => 0))) := by rw [hw]; exact st_ne (Nat.ne_of_gt (Nat.lt_add_of_pos_right (by decide))) z1
  replace z2 : w30[k + 2]? = some (q2, .inl (cI, 72, .inl (fun _ => 0))) := by rw [hw]; exact st_ne (Nat.ne_of_gt (Nat.lt_add_of_pos_right (by decide))) z2
  replace z3 : w30[k + 3]? = some (q3, .inl (cI, 12, .inl (fun _ => 0))) := by rw [hw]; exact st_ne (Nat.ne_of_gt (Nat.lt_add_of_pos_right (by decide))) z3
  replace z4 : w30[k + 4]? = some (q4, .inl (cI, 12, .inl (fun _ => 0))) := by rw [hw]; exact st_ne (Nat.ne_of_gt (Nat.lt_add_of_pos_right (by decide))) z4
  replace z5 : w30[k + 5]? = some (q5, .inl (cI, 72, .inl (fun _ => 0))) := by rw [hw]; exact st_ne (Nat.ne_of_gt (Nat.lt_add_of_pos_right (by decide))) z5
  replace z6 : w30[k + 6]? = some (q6, .inl (cJ, 169, .inr (.inl (fun _ => 0)))) := by rw [hw]; exact st_ne (Nat.ne_of_gt (Nat.lt_add_of_pos_right (by decide))) z6
  replace z7 : w30[k + 7]? = some (q7, .inl (cJ, 13, .inr (.inl (fun _ => 0)))) := by rw [hw]; exact st_ne (Nat.ne_of_gt (Nat.lt_add_of_pos_right (by decide))) z7
  replace z8 : w30[k + 8]? = some (q8, .inl (cI, 12, .inl (fun _ => 0))) := by rw [hw]; exact st_ne (Nat.ne_of_gt (Nat.lt_add_of_pos_right (by decide))) z8
  replace z9 : w30[k + 9]? = some (q9, .inl (cI, 12, .inl (fun _ => 0))) := by rw [hw]; exact st_ne (Nat.ne_of_gt (Nat.lt_add_of_pos_right (by decide))) z9
  replace z10 : w30[k + 10]? = some (q10, .inl (cI, 10, .inl (fun _ => 0))) := by rw [hw]; exact st_ne (Nat.ne_of_gt (Nat.lt_add_of_pos_right (by decide))) z10
  replace z11 : w30[k + 11]? = some (q11, .inl (cZ, 10, .inl (fun _ => 0))) := by rw [hw]; exact st_ne (Nat.ne_of_gt (Nat.lt_add_of_pos_right (by decide))) z11
  replace z12 : w30[k + 12]? = some (q12, .inl (cZ, 2, .inl (fun _ => 0))) := by rw [hw]; exact st_ne (Nat.ne_of_gt (Nat.lt_add_of_pos_right (by decide))) z12
  replace z13 : w30[k + 13]? = some (q13, .inl (cI, 24, .inl (fun _ => 0))) := by rw [hw]; exact st_ne (Nat.ne_of_gt (Nat.lt_add_of_pos_right (by decide))) z13
  replace z14 : w30[k + 14]? = some (q14, .inl (cI, 24, .inl (fun _ => 0))) := by rw [hw]; exact st_ne (Nat.ne_of_gt (Nat.lt_add_of_pos_right (by decide))) z14
  replace z15 : w30[k + 15]? = some (q15, .inl (cJ, 2, .inr (.inl (fun _ => 0)))) := by rw [hw]; exact st_ne (Nat.ne_of_gt (Nat.lt_add_of_pos_right (by decide))) z15
  replace hk : ∀ j : Nat, j < k → w30[j]? = ws0[j]? := fun j hj => by rw [hw]; exact st_ne (Nat.ne_of_lt hj) (hk j hj)
  replace z0 : w30[k]? = some (q0, .inr (9, [.ref q1, .int 0, .ref q2, .int 0, .ref q3, .ref q4, .int 0, .ref q5, .int 0, .int 0, .int 0, .ref q6, .ref q7, .long 0, .int 0, .int 0, .int 0, .int 0, .ref q8, .ref q9, .int 0, .ref q10, .ref q11, .ref q12, .ref q13, .ref q14, .ref q15, .null])) := by rw [hw]; exact st_eq z0
  replace hn : w30.length = k + 16 := by rw [hw, List.length_set]; exact hn
  clear hw
  refine lv_aload_n hx hb dX9_init_123 rfl (lv_at hl 0 rfl) ?_
  refine lv_bipush (v := (6 : Int32)) hx hb dX9_init_124 (by decide) ?_
  refine na_i (N := 6) hx hb hts hK hP hD hS hA (by decide) (by decide) (Nat.le_of_ble_eq_true rfl) (Nat.le_of_ble_eq_true rfl) (Nat.le_of_ble_eq_true rfl) dX9_init_126 (fun q16 w31 H hP hD hw hS => ?_)
  have z16 : w31[k + 16]? = some (q16, .inl (cI, 6, .inl (fun _ => 0))) := ap_new hw hn
  replace z0 := (ap_old hw hn (Nat.lt_add_of_pos_right (by decide))).trans z0
  replace z1 := (ap_old hw hn (Nat.add_lt_add_left (by decide) k)).trans z1
  replace z2 := (ap_old hw hn (Nat.add_lt_add_left (by decide) k)).trans z2
  replace z3 := (ap_old hw hn (Nat.add_lt_add_left (by decide) k)).trans z3
  replace z4 := (ap_old hw hn (Nat.add_lt_add_left (by decide) k)).trans z4
  replace z5 := (ap_old hw hn (Nat.add_lt_add_left (by decide) k)).trans z5
  replace z6 := (ap_old hw hn (Nat.add_lt_add_left (by decide) k)).trans z6
  replace z7 := (ap_old hw hn (Nat.add_lt_add_left (by decide) k)).trans z7
  replace z8 := (ap_old hw hn (Nat.add_lt_add_left (by decide) k)).trans z8
  replace z9 := (ap_old hw hn (Nat.add_lt_add_left (by decide) k)).trans z9
  replace z10 := (ap_old hw hn (Nat.add_lt_add_left (by decide) k)).trans z10
  replace z11 := (ap_old hw hn (Nat.add_lt_add_left (by decide) k)).trans z11
  replace z12 := (ap_old hw hn (Nat.add_lt_add_left (by decide) k)).trans z12
  replace z13 := (ap_old hw hn (Nat.add_lt_add_left (by decide) k)).trans z13
  replace z14 := (ap_old hw hn (Nat.add_lt_add_left (by decide) k)).trans z14
  replace z15 := (ap_old hw hn (Nat.add_lt_add_left (by decide) k)).trans z15
  replace hk : ∀ j : Nat, j < k → w31[j]? = ws0[j]? := fun j hj => (ap_old hw hn (Nat.lt_of_lt_of_le hj (Nat.le_add_right k _))).trans (hk j hj)
  replace hn : w31.length = k + 17 := ap_len hw hn
  clear hw
  refine va_putF (ci := 9) (v := .ref q16) (ty := (.array .int)) (C := RX9) (T := TX9) (N := 28) hx hb hts inqX9 tyX9 tyX9_ok nmX9 hown hK hP hD hS (k) z0 rfl 27 (by decide) (hts _ fl_X9_57) (fun _ h9 => h9) rfl hin rfl (by decide +kernel) rfl rfl (Nat.le_of_ble_eq_true rfl) dX9_init_128 (fun H locs hP hD hS => ?_)
  obtain ⟨w32, hw⟩ : ∃ x, x = w31.set k (q0, .inr (9, [.ref q1, .int 0, .ref q2, .int 0, .ref q3, .ref q4, .int 0, .ref q5, .int 0, .int 0, .int 0, .ref q6, .ref q7, .long 0, .int 0, .int 0, .int 0, .int 0, .ref q8, .ref q9, .int 0, .ref q10, .ref q11, .ref q12, .ref q13, .ref q14, .ref q15, .ref q16])) := ⟨_, rfl⟩
  replace hP : va_P D vwCl w32 H := by rw [hw]; exact hP
  replace hD : va_D (fun q => base ≤ q) w32 := by rw [hw]; exact hD
  replace z1 : w32[k + 1]? = some (q1, .inl (cI, 72, .inl (fun _ => 0))) := by rw [hw]; exact st_ne (Nat.ne_of_gt (Nat.lt_add_of_pos_right (by decide))) z1
  replace z2 : w32[k + 2]? = some (q2, .inl (cI, 72, .inl (fun _ => 0))) := by rw [hw]; exact st_ne (Nat.ne_of_gt (Nat.lt_add_of_pos_right (by decide))) z2
  replace z3 : w32[k + 3]? = some (q3, .inl (cI, 12, .inl (fun _ => 0))) := by rw [hw]; exact st_ne (Nat.ne_of_gt (Nat.lt_add_of_pos_right (by decide))) z3
  replace z4 : w32[k + 4]? = some (q4, .inl (cI, 12, .inl (fun _ => 0))) := by rw [hw]; exact st_ne (Nat.ne_of_gt (Nat.lt_add_of_pos_right (by decide))) z4
  replace z5 : w32[k + 5]? = some (q5, .inl (cI, 72, .inl (fun _ => 0))) := by rw [hw]; exact st_ne (Nat.ne_of_gt (Nat.lt_add_of_pos_right (by decide))) z5
  replace z6 : w32[k + 6]? = some (q6, .inl (cJ, 169, .inr (.inl (fun _ => 0)))) := by rw [hw]; exact st_ne (Nat.ne_of_gt (Nat.lt_add_of_pos_right (by decide))) z6
  replace z7 : w32[k + 7]? = some (q7, .inl (cJ, 13, .inr (.inl (fun _ => 0)))) := by rw [hw]; exact st_ne (Nat.ne_of_gt (Nat.lt_add_of_pos_right (by decide))) z7
  replace z8 : w32[k + 8]? = some (q8, .inl (cI, 12, .inl (fun _ => 0))) := by rw [hw]; exact st_ne (Nat.ne_of_gt (Nat.lt_add_of_pos_right (by decide))) z8
  replace z9 : w32[k + 9]? = some (q9, .inl (cI, 12, .inl (fun _ => 0))) := by rw [hw]; exact st_ne (Nat.ne_of_gt (Nat.lt_add_of_pos_right (by decide))) z9
  replace z10 : w32[k + 10]? = some (q10, .inl (cI, 10, .inl (fun _ => 0))) := by rw [hw]; exact st_ne (Nat.ne_of_gt (Nat.lt_add_of_pos_right (by decide))) z10
  replace z11 : w32[k + 11]? = some (q11, .inl (cZ, 10, .inl (fun _ => 0))) := by rw [hw]; exact st_ne (Nat.ne_of_gt (Nat.lt_add_of_pos_right (by decide))) z11
  replace z12 : w32[k + 12]? = some (q12, .inl (cZ, 2, .inl (fun _ => 0))) := by rw [hw]; exact st_ne (Nat.ne_of_gt (Nat.lt_add_of_pos_right (by decide))) z12
  replace z13 : w32[k + 13]? = some (q13, .inl (cI, 24, .inl (fun _ => 0))) := by rw [hw]; exact st_ne (Nat.ne_of_gt (Nat.lt_add_of_pos_right (by decide))) z13
  replace z14 : w32[k + 14]? = some (q14, .inl (cI, 24, .inl (fun _ => 0))) := by rw [hw]; exact st_ne (Nat.ne_of_gt (Nat.lt_add_of_pos_right (by decide))) z14
  replace z15 : w32[k + 15]? = some (q15, .inl (cJ, 2, .inr (.inl (fun _ => 0)))) := by rw [hw]; exact st_ne (Nat.ne_of_gt (Nat.lt_add_of_pos_right (by decide))) z15
  replace z16 : w32[k + 16]? = some (q16, .inl (cI, 6, .inl (fun _ => 0))) := by rw [hw]; exact st_ne (Nat.ne_of_gt (Nat.lt_add_of_pos_right (by decide))) z16
  replace hk : ∀ j : Nat, j < k → w32[j]? = ws0[j]? := fun j hj => by rw [hw]; exact st_ne (Nat.ne_of_lt hj) (hk j hj)
  replace z0 : w32[k]? = some (q0, .inr (9, [.ref q1, .int 0, .ref q2, .int 0, .ref q3, .ref q4, .int 0, .ref q5, .int 0, .int 0, .int 0, .ref q6, .ref q7, .long 0, .int 0, .int 0, .int 0, .int 0, .ref q8, .ref q9, .int 0, .ref q10, .ref q11, .ref q12, .ref q13, .ref q14, .ref q15, .ref q16])) := by rw [hw]; exact st_eq z0
  replace hn : w32.length = k + 17 := by rw [hw, List.length_set]; exact hn
  clear hw
  refine lv_aload_n hx hb dX9_init_131 rfl (lv_at hl 0 rfl) ?_
  refine lv_iconst (v := (5 : Int32)) hx hb dX9_init_132 (by decide) ?_
  refine va_put (ci := 9) (v := .int 5) (ty := .int) (C := RX9) (T := TX9) (N := 28) hx hb hts inqX9 tyX9 tyX9_ok nmX9 hown hK hP hD hS (k) z0 rfl 6 (by decide) (hts _ fl_X9_60) (fun _ h9 => h9) rfl (by decide +kernel) rfl rfl (Nat.le_of_ble_eq_true rfl) dX9_init_133 (fun H locs hP hD hS => ?_)
  obtain ⟨w33, hw⟩ : ∃ x, x = w32.set k (q0, .inr (9, [.ref q1, .int 0, .ref q2, .int 0, .ref q3, .ref q4, .int 5, .ref q5, .int 0, .int 0, .int 0, .ref q6, .ref q7, .long 0, .int 0, .int 0, .int 0, .int 0, .ref q8, .ref q9, .int 0, .ref q10, .ref q11, .ref q12, .ref q13, .ref q14, .ref q15, .ref q16])) := ⟨_, rfl⟩
  replace hP : va_P D vwCl w33 H := by rw [hw]; exact hP
  replace hD : va_D (fun q => base ≤ q) w33 := by rw [hw]; exact hD
  replace z1 : w33[k + 1]? = some (q1, .inl (cI, 72, .inl (fun _ => 0))) := by rw [hw]; exact st_ne (Nat.ne_of_gt (Nat.lt_add_of_pos_right (by decide))) z1
  replace z2 : w33[k + 2]? = some (q2, .inl (cI, 72, .inl (fun _ => 0))) := by rw [hw]; exact st_ne (Nat.ne_of_gt (Nat.lt_add_of_pos_right (by decide))) z2
  replace z3 : w33[k + 3]? = some (q3, .inl (cI, 12, .inl (fun _ => 0))) := by rw [hw]; exact st_ne (Nat.ne_of_gt (Nat.lt_add_of_pos_right (by decide))) z3
  replace z4 : w33[k + 4]? = some (q4, .inl (cI, 12, .inl (fun _ => 0))) := by rw [hw]; exact st_ne (Nat.ne_of_gt (Nat.lt_add_of_pos_right (by decide))) z4
  replace z5 : w33[k + 5]? = some (q5, .inl (cI, 72, .inl (fun _ => 0))) := by rw [hw]; exact st_ne (Nat.ne_of_gt (Nat.lt_add_of_pos_right (by decide))) z5
  replace z6 : w33[k + 6]? = some (q6, .inl (cJ, 169, .inr (.inl (fun _ => 0)))) := by rw [hw]; exact st_ne (Nat.ne_of_gt (Nat.lt_add_of_pos_right (by decide))) z6
  replace z7 : w33[k + 7]? = some (q7, .inl (cJ, 13, .inr (.inl (fun _ => 0)))) := by rw [hw]; exact st_ne (Nat.ne_of_gt (Nat.lt_add_of_pos_right (by decide))) z7
  replace z8 : w33[k + 8]? = some (q8, .inl (cI, 12, .inl (fun _ => 0))) := by rw [hw]; exact st_ne (Nat.ne_of_gt (Nat.lt_add_of_pos_right (by decide))) z8
  replace z9 : w33[k + 9]? = some (q9, .inl (cI, 12, .inl (fun _ => 0))) := by rw [hw]; exact st_ne (Nat.ne_of_gt (Nat.lt_add_of_pos_right (by decide))) z9
  replace z10 : w33[k + 10]? = some (q10, .inl (cI, 10, .inl (fun _ => 0))) := by rw [hw]; exact st_ne (Nat.ne_of_gt (Nat.lt_add_of_pos_right (by decide))) z10
  replace z11 : w33[k + 11]? = some (q11, .inl (cZ, 10, .inl (fun _ => 0))) := by rw [hw]; exact st_ne (Nat.ne_of_gt (Nat.lt_add_of_pos_right (by decide))) z11
  replace z12 : w33[k + 12]? = some (q12, .inl (cZ, 2, .inl (fun _ => 0))) := by rw [hw]; exact st_ne (Nat.ne_of_gt (Nat.lt_add_of_pos_right (by decide))) z12
  replace z13 : w33[k + 13]? = some (q13, .inl (cI, 24, .inl (fun _ => 0))) := by rw [hw]; exact st_ne (Nat.ne_of_gt (Nat.lt_add_of_pos_right (by decide))) z13
  replace z14 : w33[k + 14]? = some (q14, .inl (cI, 24, .inl (fun _ => 0))) := by rw [hw]; exact st_ne (Nat.ne_of_gt (Nat.lt_add_of_pos_right (by decide))) z14
  replace z15 : w33[k + 15]? = some (q15, .inl (cJ, 2, .inr (.inl (fun _ => 0)))) := by rw [hw]; exact st_ne (Nat.ne_of_gt (Nat.lt_add_of_pos_right (by decide))) z15
  replace z16 : w33[k + 16]? = some (q16, .inl (cI, 6, .inl (fun _ => 0))) := by rw [hw]; exact st_ne (Nat.ne_of_gt (Nat.lt_add_of_pos_right (by decide))) z16
  replace hk : ∀ j : Nat, j < k → w33[j]? = ws0[j]? := fun j hj => by rw [hw]; exact st_ne (Nat.ne_of_lt hj) (hk j hj)
  replace z0 : w33[k]? = some (q0, .inr (9, [.ref q1, .int 0, .ref q2, .int 0, .ref q3, .ref q4, .int 5, .ref q5, .int 0, .int 0, .int 0, .ref q6, .ref q7, .long 0, .int 0, .int 0, .int 0, .int 0, .ref q8, .ref q9, .int 0, .ref q10, .ref q11, .ref q12, .ref q13, .ref q14, .ref q15, .ref q16])) := by rw [hw]; exact st_eq z0
  replace hn : w33.length = k + 17 := by rw [hw, List.length_set]; exact hn
  clear hw
  refine W.widen (k := 16) (n := 524) (Nat.le_of_ble_eq_true rfl) (Nat.le_of_ble_eq_true rfl) ?_
  rw [hQ]
  exact rn_v X hS hP hD ⟨q1, q2, q3, q4, q5, q6, q7, q8, q9, q10, q11, q12, q13, q14, q15, q16, hn, hk, z0, z1, z2, z3, z4, z5, z6, z7, z8, z9, z10, z11, z12, z13, z14, z15, z16⟩ dX9_init_136
