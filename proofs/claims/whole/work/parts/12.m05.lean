def FX9_room_S14 (u1 : Int32 × Int32 × Int32 × Int32 × (Nat → Int32)) (x4 : Int32) (x5 : Nat → Int32) : Option ((Int32 × (Nat → Int32)) ⊕ ((Nat → Int32))) :=
  if (72 : Int32) ≤ x4 then (some (.inr x5)) else (if x4 < 0 ∨ 72 ≤ x4.toNatClampNeg then none else if x4 < 0 ∨ 72 ≤ x4.toNatClampNeg then none else some (.inl (x4 + (1 : Int32), upd x5 x4.toNatClampNeg (u1.2.2.2.2 x4.toNatClampNeg))))
def FX9_room_S48 (o10 : (Nat → Int32)) (x12 : Int32) (x13 : Nat → Int32) (x14 : Nat → Int32) : Option ((Int32 × (Nat → Int32) × (Nat → Int32)) ⊕ ((Nat → Int32) × (Nat → Int32))) :=
  if (12 : Int32) ≤ x12 then (some (.inr (x13, x14))) else (if (((6 : Int32) * x12) + (4 : Int32)) < 0 ∨ 72 ≤ (((6 : Int32) * x12) + (4 : Int32)).toNatClampNeg then none else if x12 < 0 ∨ 12 ≤ x12.toNatClampNeg then none else if x12 < 0 ∨ 12 ≤ x12.toNatClampNeg then none else some (.inl (x12 + (1 : Int32), upd x13 x12.toNatClampNeg (o10 (((6 : Int32) * x12) + (4 : Int32)).toNatClampNeg), upd x14 x12.toNatClampNeg (0 : Int32))))
def FX9_room (m_pupils : Int32) (m_length : Int32) (m_drawn : Int64) (m_questions : Int32) (m_rights : Int32) (m_wrongs : Int32) (m_read : Nat → Int32) (m_text : Nat → Int32) (m_pupil : Nat → Int32) (m_dares : Nat → Int32) (m_times : Nat → Int32) (m_isKept : Nat → Int32) : Option (Int32 × Int32 × Int32 × Int32 × (Nat → Int32) × (Nat → Int32) × Int32 × (Nat → Int32) × (Nat → Int32) × Int64 × Int32 × Int32 × Int32 × (Nat → Int32)) :=
  (FX9_readText m_length m_text m_read).bind fun u1 => if u1.1 = (-9 : Int32) then ((itr (fun v => FX9_room_S14 u1 v.1 v.2) fu ((0 : Int32), m_pupil)).bind fun o10 => (itr (fun v => FX9_room_S48 o10 v.1 v.2.1 v.2.2) fu ((0 : Int32), m_dares, m_times)).bind fun o21 => if (0 : Int32) < 0 ∨ 2 ≤ (0 : Int32).toNatClampNeg then none else if (1 : Int32) < 0 ∨ 2 ≤ (1 : Int32).toNatClampNeg then none else some (u1.2.2.2.1, u1.2.1, u1.2.2.1, u1.2.2.2.1, u1.2.2.2.2, o10, u1.2.2.2.1, o21.1, o21.2, (0 : Int64), (0 : Int32), (0 : Int32), (0 : Int32), upd (upd m_isKept (0 : Int32).toNatClampNeg (vp_nar .boolean (0 : Int32))) (1 : Int32).toNatClampNeg (vp_nar .boolean (0 : Int32)))) else (some ((-3 : Int32), u1.2.1, u1.2.2.1, u1.2.2.2.1, u1.2.2.2.2, m_pupil, m_pupils, m_dares, m_times, m_drawn, m_questions, m_rights, m_wrongs, m_isKept))
def rm_X9_room : Room := { frames := 3, cells := 0, slots := 0, locals := 72 }
set_option maxHeartbeats 4000000 in
set_option maxRecDepth 100000 in
theorem c_X9_room (l : Launch) (D : va_G) (cI cJ cZ : ClassId) (a : Nat → Nat) (ws0 : va_W) (A : Nat → Prop)  (m_readMany : Int32) (m_pupils : Int32) (m_mood : Int32) (m_length : Int32) (m_at : Int32) (m_faultAt : Int32) (m_drawn : Int64) (m_questions : Int32) (m_rights : Int32) (m_wrongs : Int32) (m_tapes : Int32) (m_trials : Int32) (m_read : Nat → Int32) (m_text : Nat → Int32) (m_pupil : Nat → Int32) (m_dares : Nat → Int32) (m_times : Nat → Int32) (m_isKept : Nat → Int32)  (u : Int32 × Int32 × Int32 × Int32 × (Nat → Int32) × (Nat → Int32) × Int32 × (Nat → Int32) × (Nat → Int32) × Int64 × Int32 × Int32 × Int32 × (Nat → Int32)) (hF : FX9_room m_pupils m_length m_drawn m_questions m_rights m_wrongs m_read m_text m_pupil m_dares m_times m_isKept = some u) (z35 : ws0[35]? = some (a 35, .inr (9, [.ref (a 36), .int m_readMany, .ref (a 37), .int m_pupils, .ref (a 38), .ref (a 39), .int m_mood, .ref (a 40), .int m_length, .int m_at, .int m_faultAt, .ref (a 41), .ref (a 42), .long m_drawn, .int m_questions, .int m_rights, .int m_wrongs, .int m_tapes, .ref (a 43), .ref (a 44), .int m_trials, .ref (a 45), .ref (a 46), .ref (a 47), .ref (a 48), .ref (a 49), .ref (a 50), .ref (a 51)]))) (z36 : ws0[36]? = some (a 36, .inl (cI, 72, .inl m_read))) (z37 : ws0[37]? = some (a 37, .inl (cI, 72, .inl m_pupil))) (z38 : ws0[38]? = some (a 38, .inl (cI, 12, .inl m_dares))) (z39 : ws0[39]? = some (a 39, .inl (cI, 12, .inl m_times))) (z40 : ws0[40]? = some (a 40, .inl (cI, 72, .inl m_text))) (z47 : ws0[47]? = some (a 47, .inl (cZ, 2, .inl m_isKept))) (hD : va_D A ws0) : Met l yX9_room (wq yX9_room cX9_room 2 (some .int)) rm_X9_room (Pq [.ref (a 35)] D cI cJ cZ ws0) (Qw D A ws0 [35, 36, 37, 38, 39, 47] (some (.int u.1)) (fun w => w[35]? = some (a 35, .inr (9, [.ref (a 36), .int u.2.2.2.1, .ref (a 37), .int u.2.2.2.2.2.2.1, .ref (a 38), .ref (a 39), .int m_mood, .ref (a 40), .int m_length, .int u.2.1, .int u.2.2.1, .ref (a 41), .ref (a 42), .long u.2.2.2.2.2.2.2.2.2.1, .int u.2.2.2.2.2.2.2.2.2.2.1, .int u.2.2.2.2.2.2.2.2.2.2.2.1, .int u.2.2.2.2.2.2.2.2.2.2.2.2.1, .int m_tapes, .ref (a 43), .ref (a 44), .int m_trials, .ref (a 45), .ref (a 46), .ref (a 47), .ref (a 48), .ref (a 49), .ref (a 50), .ref (a 51)])) ∧ w[36]? = some (a 36, .inl (cI, 72, .inl u.2.2.2.2.1)) ∧ w[37]? = some (a 37, .inl (cI, 72, .inl u.2.2.2.2.2.1)) ∧ w[38]? = some (a 38, .inl (cI, 12, .inl u.2.2.2.2.2.2.2.1)) ∧ w[39]? = some (a 39, .inl (cI, 12, .inl u.2.2.2.2.2.2.2.2.1)) ∧ w[47]? = some (a 47, .inl (cZ, 2, .inl u.2.2.2.2.2.2.2.2.2.2.2.2.2)))) 0 0 A := by
  refine mq_of (by decide) (Nat.le_of_ble_eq_true rfl) (fun p e s m args below meth c ls Q hQ X _ hP hl => ?_)
  obtain ⟨hx, hb, hr, hml, hown, hts, hlk, hK, hN⟩ := id X
  have hown : s.vm.findClass RX9 = some m.cls := hown
  have hl : lv_has ls 2 [(0, .ref (a 35))] := hl
  have hS : va_S A s.heap s.heap [] := va_S.rf
  have hs : ∀ j : Nat, j ∉ [35, 36, 37, 38, 39, 47] → ws0[j]? = ws0[j]? := fun _ _ => rfl
  have h35 := z35
  have h36 := z36
  have h37 := z37
  have h38 := z38
  have h39 := z39
  have h40 := z40
  have h47 := z47
  unfold FX9_room at hF
  refine lv_aload_n hx hb dX9_room_0 rfl (lv_at hl 0 rfl) ?_
  obtain ⟨u1, hu1, hF⟩ := bd_some hF
  refine wr_i (runV (As := []) (rest := []) X cq_X9_readText lk_X9_93 (c_X9_readText l D cI cJ cZ a ws0 A m_readMany m_pupils m_mood m_length m_at m_faultAt m_drawn m_questions m_rights m_wrongs m_tapes m_trials m_text m_read u1 hu1 h35 h36 h40 hD) rfl rfl ⟨Nat.le_of_ble_eq_true rfl, Nat.le_of_ble_eq_true rfl⟩ hP h35 rfl rfl hl.1 rfl (Nat.le_of_ble_eq_true rfl) dX9_room_1 ⟨Nat.le_of_ble_eq_true rfl, Nat.le_of_ble_eq_true rfl⟩) hS (fun w2 H locs hP hD hk hB hS => ?_)
  obtain ⟨hB0, hB1⟩ := hB
  have h35 : w2[35]? = some (a 35, .inr (9, [.ref (a 36), .int u1.2.2.2.1, .ref (a 37), .int m_pupils, .ref (a 38), .ref (a 39), .int m_mood, .ref (a 40), .int m_length, .int u1.2.1, .int u1.2.2.1, .ref (a 41), .ref (a 42), .long m_drawn, .int m_questions, .int m_rights, .int m_wrongs, .int m_tapes, .ref (a 43), .ref (a 44), .int m_trials, .ref (a 45), .ref (a 46), .ref (a 47), .ref (a 48), .ref (a 49), .ref (a 50), .ref (a 51)])) := hB0
  have h36 : w2[36]? = some (a 36, .inl (cI, 72, .inl u1.2.2.2.2)) := hB1
  have h40 := (hk 40 (by simp only [List.mem_cons, List.not_mem_nil, or_false, not_or]; omega)).trans h40
  have h37 := (hk 37 (by simp only [List.mem_cons, List.not_mem_nil, or_false, not_or]; omega)).trans h37
  have h38 := (hk 38 (by simp only [List.mem_cons, List.not_mem_nil, or_false, not_or]; omega)).trans h38
  have h39 := (hk 39 (by simp only [List.mem_cons, List.not_mem_nil, or_false, not_or]; omega)).trans h39
  have h47 := (hk 47 (by simp only [List.mem_cons, List.not_mem_nil, or_false, not_or]; omega)).trans h47
  replace hs := st_tr hk (fun j hj => by simp only [List.mem_cons, List.not_mem_nil, or_false] at hj ⊢; omega) hs
  refine lv_bipush (v := (-9 : Int32)) hx hb dX9_room_4 (by decide) ?_
  refine lv_icmp_eq (tgt := 12) hx hb dX9_room_6 (by decide) (fun c3 => ?_) (fun c3 => ?_)
  · replace hF := (if_pos c3).symm.trans hF
    refine lv_iconst (v := (0 : Int32)) hx hb dX9_room_12 (by decide) ?_
    refine lv_istore_n (lv' := [(1, .int (0 : Int32)), (0, .ref (a 35))]) hx hb dX9_room_13 rfl hl (by decide) rfl (fun ls hl => ?_)
    have hL14 : ∀ (nf : Nat) (x4 : Int32) (x5 : Nat → Int32) (r : (Nat → Int32)), itr (fun v => FX9_room_S14 u1 v.1 v.2) nf (x4, x5) = some r → ∀ (wJ : va_W) (HJ : Heap) (lJ : List Loc), va_P D vwCl wJ HJ → va_D A wJ → va_S A s.heap HJ lJ → (∀ j : Nat, j ∉ [35, 36, 37, 38, 39, 47] → wJ[j]? = ws0[j]?) → wJ[35]? = some (a 35, .inr (9, [.ref (a 36), .int u1.2.2.2.1, .ref (a 37), .int m_pupils, .ref (a 38), .ref (a 39), .int m_mood, .ref (a 40), .int m_length, .int u1.2.1, .int u1.2.2.1, .ref (a 41), .ref (a 42), .long m_drawn, .int m_questions, .int m_rights, .int m_wrongs, .int m_tapes, .ref (a 43), .ref (a 44), .int m_trials, .ref (a 45), .ref (a 46), .ref (a 47), .ref (a 48), .ref (a 49), .ref (a 50), .ref (a 51)])) → wJ[36]? = some (a 36, .inl (cI, 72, .inl u1.2.2.2.2)) → wJ[37]? = some (a 37, .inl (cI, 72, .inl x5)) → wJ[38]? = some (a 38, .inl (cI, 12, .inl m_dares)) → wJ[39]? = some (a 39, .inl (cI, 12, .inl m_times)) → wJ[47]? = some (a 47, .inl (cZ, 2, .inl m_isKept)) → ∀ ls, lv_has ls 2 [(1, .int x4), (0, .ref (a 35))] → (∀ o : (Nat → Int32), r = o → ∀ (wK : va_W) (HK : Heap) (lK : List Loc), va_P D vwCl wK HK → va_D A wK → va_S A s.heap HK lK → (∀ j : Nat, j ∉ [35, 36, 37, 38, 39, 47] → wK[j]? = ws0[j]?) → wK[35]? = some (a 35, .inr (9, [.ref (a 36), .int u1.2.2.2.1, .ref (a 37), .int m_pupils, .ref (a 38), .ref (a 39), .int m_mood, .ref (a 40), .int m_length, .int u1.2.1, .int u1.2.2.1, .ref (a 41), .ref (a 42), .long m_drawn, .int m_questions, .int m_rights, .int m_wrongs, .int m_tapes, .ref (a 43), .ref (a 44), .int m_trials, .ref (a 45), .ref (a 46), .ref (a 47), .ref (a 48), .ref (a 49), .ref (a 50), .ref (a 51)])) → wK[36]? = some (a 36, .inl (cI, 72, .inl u1.2.2.2.2)) → wK[37]? = some (a 37, .inl (cI, 72, .inl o)) → wK[38]? = some (a 38, .inl (cI, 12, .inl m_dares)) → wK[39]? = some (a 39, .inl (cI, 12, .inl m_times)) → wK[47]? = some (a 47, .inl (cZ, 2, .inl m_isKept)) → ∀ ls, lv_has ls 2 [(0, .ref (a 35))] → W p l e rm_X9_room s m args below meth c HK lK 0 0 Q (F0 m 38 ls [])) → W p l e rm_X9_room s m args below meth c HJ lJ 0 0 Q (F0 m 14 ls []) := by
      intro nf
      induction nf with
      | zero => intro _ _ r hF; exact (itr_0 hF).elim
      | succ nf ih =>
        intro x4 x5 r hF w H locs hP hD hS hs h35 h36 h37 h38 h39 h47 ls hl hE
        obtain ⟨wo, hF, hw⟩ := itr_s hF
        replace hF : FX9_room_S14 u1 x4 x5 = some wo := hF
        have h40 := (hs 40 (by simp only [List.mem_cons, List.not_mem_nil, or_false, not_or]; omega)).trans z40
        unfold FX9_room_S14 at hF
        refine lv_iload_n hx hb dX9_room_14 rfl (lv_at hl 0 rfl) ?_
        refine lv_bipush (v := (72 : Int32)) hx hb dX9_room_15 (by decide) ?_
        refine lv_icmp_ge (tgt := 38) hx hb dX9_room_17 (by decide) (fun c6 => ?_) (fun c6 => ?_)
        · replace hF := (if_pos c6).symm.trans hF
          obtain rfl := Option.some.inj hF
          obtain rfl := hw
          exact hE _ rfl _ _ _ hP hD hS hs h35 h36 h37 h38 h39 h47 ls (lv_sub hl [1] rfl)
        · replace hF := (if_neg c6).symm.trans hF
          refine lv_aload_n hx hb dX9_room_20 rfl (lv_at hl 1 rfl) ?_
          refine gf_X9_13 hx hb hts hown hK hP h35 dX9_room_21 ?_
          refine lv_iload_n hx hb dX9_room_24 rfl (lv_at hl 0 rfl) ?_
          refine lv_aload_n hx hb dX9_room_25 rfl (lv_at hl 1 rfl) ?_
          refine gf_X9_7 hx hb hts hown hK hP h35 dX9_room_26 ?_
          refine lv_iload_n hx hb dX9_room_29 rfl (lv_at hl 0 rfl) ?_
          obtain ⟨hg7, hF⟩ := gd_some hF
          refine va_iald hx hb hK hP 36 0 h36 rfl hg7 dX9_room_30 ?_
          obtain ⟨hg8, hF⟩ := gd_some hF
          refine ast_i hx hb hK hP hD hS h37 hg8 dX9_room_31 (fun w9 H locs hP hD hk hc hS => ?_)
          have h37 : w9[37]? = some (a 37, .inl (cI, 72, .inl (upd x5 x4.toNatClampNeg (u1.2.2.2.2 x4.toNatClampNeg)))) := hc
          have h35 := (hk 35 (by omega)).trans h35
          have h36 := (hk 36 (by omega)).trans h36
          have h40 := (hk 40 (by omega)).trans h40
          have h38 := (hk 38 (by omega)).trans h38
          have h39 := (hk 39 (by omega)).trans h39
          have h47 := (hk 47 (by omega)).trans h47
          replace hs := sm_k hk (by simp) hs
          refine lv_iinc (v := x4 + (1 : Int32)) (lv' := [(1, .int (x4 + (1 : Int32))), (0, .ref (a 35))]) hx hb dX9_room_32 hl (k := 0) rfl rfl (by decide) rfl (fun ls hl => ?_)
          refine lv_goto (tgt := 14) hx hb dX9_room_35 (by decide) ?_
          obtain rfl := Option.some.inj hF
          exact ih _ _ _ hw _ _ _ hP hD hS hs h35 h36 h37 h38 h39 h47 ls (lv_sub hl [0, 1] rfl) hE
    obtain ⟨o10, ho10, hF⟩ := bd_some hF
    refine hL14 fu (0 : Int32) m_pupil o10 ho10 _ _ _ hP hD hS hs h35 h36 h37 h38 h39 h47 ls (lv_sub hl [0, 1] rfl) ?_
    intro _ q_o10 w H locs hP hD hS hs h35 h36 h37 h38 h39 h47 ls hl
    subst q_o10
    have h40 := (hs 40 (by simp only [List.mem_cons, List.not_mem_nil, or_false, not_or]; omega)).trans z40
    refine lv_aload_n hx hb dX9_room_38 rfl (lv_at hl 0 rfl) ?_
    refine lv_aload_n hx hb dX9_room_39 rfl (lv_at hl 0 rfl) ?_
    refine gf_X9_83 hx hb hts hown hK hP h35 dX9_room_40 ?_
    refine pf_X9_97 hx hb hts hown hK hP hD hS h35 rfl rfl dX9_room_43 (fun w11 H locs hP hD hk hc hS => ?_)
    have h35 : w11[35]? = some (a 35, .inr (9, [.ref (a 36), .int u1.2.2.2.1, .ref (a 37), .int u1.2.2.2.1, .ref (a 38), .ref (a 39), .int m_mood, .ref (a 40), .int m_length, .int u1.2.1, .int u1.2.2.1, .ref (a 41), .ref (a 42), .long m_drawn, .int m_questions, .int m_rights, .int m_wrongs, .int m_tapes, .ref (a 43), .ref (a 44), .int m_trials, .ref (a 45), .ref (a 46), .ref (a 47), .ref (a 48), .ref (a 49), .ref (a 50), .ref (a 51)])) := hc
    have h36 := (hk 36 (by omega)).trans h36
    have h40 := (hk 40 (by omega)).trans h40
    have h37 := (hk 37 (by omega)).trans h37
    have h38 := (hk 38 (by omega)).trans h38
    have h39 := (hk 39 (by omega)).trans h39
    have h47 := (hk 47 (by omega)).trans h47
    replace hs := sm_k hk (by simp) hs
    refine lv_iconst (v := (0 : Int32)) hx hb dX9_room_46 (by decide) ?_
    refine lv_istore_n (lv' := [(1, .int (0 : Int32)), (0, .ref (a 35))]) hx hb dX9_room_47 rfl hl (by decide) rfl (fun ls hl => ?_)
    have hL48 : ∀ (nf : Nat) (x12 : Int32) (x13 : Nat → Int32) (x14 : Nat → Int32) (r : (Nat → Int32) × (Nat → Int32)), itr (fun v => FX9_room_S48 o10 v.1 v.2.1 v.2.2) nf (x12, x13, x14) = some r → ∀ (wJ : va_W) (HJ : Heap) (lJ : List Loc), va_P D vwCl wJ HJ → va_D A wJ → va_S A s.heap HJ lJ → (∀ j : Nat, j ∉ [35, 36, 37, 38, 39, 47] → wJ[j]? = ws0[j]?) → wJ[35]? = some (a 35, .inr (9, [.ref (a 36), .int u1.2.2.2.1, .ref (a 37), .int u1.2.2.2.1, .ref (a 38), .ref (a 39), .int m_mood, .ref (a 40), .int m_length, .int u1.2.1, .int u1.2.2.1, .ref (a 41), .ref (a 42), .long m_drawn, .int m_questions, .int m_rights, .int m_wrongs, .int m_tapes, .ref (a 43), .ref (a 44), .int m_trials, .ref (a 45), .ref (a 46), .ref (a 47), .ref (a 48), .ref (a 49), .ref (a 50), .ref (a 51)])) → wJ[36]? = some (a 36, .inl (cI, 72, .inl u1.2.2.2.2)) → wJ[37]? = some (a 37, .inl (cI, 72, .inl o10)) → wJ[38]? = some (a 38, .inl (cI, 12, .inl x13)) → wJ[39]? = some (a 39, .inl (cI, 12, .inl x14)) → wJ[47]? = some (a 47, .inl (cZ, 2, .inl m_isKept)) → ∀ ls, lv_has ls 2 [(1, .int x12), (0, .ref (a 35))] → (∀ o : (Nat → Int32) × (Nat → Int32), r = o → ∀ (wK : va_W) (HK : Heap) (lK : List Loc), va_P D vwCl wK HK → va_D A wK → va_S A s.heap HK lK → (∀ j : Nat, j ∉ [35, 36, 37, 38, 39, 47] → wK[j]? = ws0[j]?) → wK[35]? = some (a 35, .inr (9, [.ref (a 36), .int u1.2.2.2.1, .ref (a 37), .int u1.2.2.2.1, .ref (a 38), .ref (a 39), .int m_mood, .ref (a 40), .int m_length, .int u1.2.1, .int u1.2.2.1, .ref (a 41), .ref (a 42), .long m_drawn, .int m_questions, .int m_rights, .int m_wrongs, .int m_tapes, .ref (a 43), .ref (a 44), .int m_trials, .ref (a 45), .ref (a 46), .ref (a 47), .ref (a 48), .ref (a 49), .ref (a 50), .ref (a 51)])) → wK[36]? = some (a 36, .inl (cI, 72, .inl u1.2.2.2.2)) → wK[37]? = some (a 37, .inl (cI, 72, .inl o10)) → wK[38]? = some (a 38, .inl (cI, 12, .inl o.1)) → wK[39]? = some (a 39, .inl (cI, 12, .inl o.2)) → wK[47]? = some (a 47, .inl (cZ, 2, .inl m_isKept)) → ∀ ls, lv_has ls 2 [(0, .ref (a 35))] → W p l e rm_X9_room s m args below meth c HK lK 0 0 Q (F0 m 84 ls [])) → W p l e rm_X9_room s m args below meth c HJ lJ 0 0 Q (F0 m 48 ls []) := by
      intro nf
      induction nf with
      | zero => intro _ _ _ r hF; exact (itr_0 hF).elim
      | succ nf ih =>
        intro x12 x13 x14 r hF w H locs hP hD hS hs h35 h36 h37 h38 h39 h47 ls hl hE
        obtain ⟨wo, hF, hw⟩ := itr_s hF
        replace hF : FX9_room_S48 o10 x12 x13 x14 = some wo := hF
        have h40 := (hs 40 (by simp only [List.mem_cons, List.not_mem_nil, or_false, not_or]; omega)).trans z40
        unfold FX9_room_S48 at hF
        refine lv_iload_n hx hb dX9_room_48 rfl (lv_at hl 0 rfl) ?_
        refine lv_bipush (v := (12 : Int32)) hx hb dX9_room_49 (by decide) ?_
        refine lv_icmp_ge (tgt := 84) hx hb dX9_room_51 (by decide) (fun c15 => ?_) (fun c15 => ?_)
        · replace hF := (if_pos c15).symm.trans hF
          obtain rfl := Option.some.inj hF
          obtain rfl := hw
          exact hE _ rfl _ _ _ hP hD hS hs h35 h36 h37 h38 h39 h47 ls (lv_sub hl [1] rfl)
        · replace hF := (if_neg c15).symm.trans hF
          refine lv_aload_n hx hb dX9_room_54 rfl (lv_at hl 1 rfl) ?_
          refine gf_X9_16 hx hb hts hown hK hP h35 dX9_room_55 ?_
          refine lv_iload_n hx hb dX9_room_58 rfl (lv_at hl 0 rfl) ?_
          refine lv_aload_n hx hb dX9_room_59 rfl (lv_at hl 1 rfl) ?_
          refine gf_X9_13 hx hb hts hown hK hP h35 dX9_room_60 ?_
          refine lv_bipush (v := (6 : Int32)) hx hb dX9_room_63 (by decide) ?_
          refine lv_iload_n hx hb dX9_room_65 rfl (lv_at hl 0 rfl) ?_
          refine lv_imul hx hb dX9_room_66 ?_
          refine lv_iconst (v := (4 : Int32)) hx hb dX9_room_67 (by decide) ?_
          refine lv_iadd hx hb dX9_room_68 ?_
          obtain ⟨hg16, hF⟩ := gd_some hF
          refine va_iald hx hb hK hP 37 0 h37 rfl hg16 dX9_room_69 ?_
          obtain ⟨hg17, hF⟩ := gd_some hF
          refine ast_i hx hb hK hP hD hS h38 hg17 dX9_room_70 (fun w18 H locs hP hD hk hc hS => ?_)
          have h38 : w18[38]? = some (a 38, .inl (cI, 12, .inl (upd x13 x12.toNatClampNeg (o10 (((6 : Int32) * x12) + (4 : Int32)).toNatClampNeg)))) := hc
          have h35 := (hk 35 (by omega)).trans h35
          have h36 := (hk 36 (by omega)).trans h36
          have h40 := (hk 40 (by omega)).trans h40
          have h37 := (hk 37 (by omega)).trans h37
          have h39 := (hk 39 (by omega)).trans h39
          have h47 := (hk 47 (by omega)).trans h47
          replace hs := sm_k hk (by simp) hs
          refine lv_aload_n hx hb dX9_room_71 rfl (lv_at hl 1 rfl) ?_
          refine gf_X9_19 hx hb hts hown hK hP h35 dX9_room_72 ?_
          refine lv_iload_n hx hb dX9_room_75 rfl (lv_at hl 0 rfl) ?_
          refine lv_iconst (v := (0 : Int32)) hx hb dX9_room_76 (by decide) ?_
          obtain ⟨hg19, hF⟩ := gd_some hF
          refine ast_i hx hb hK hP hD hS h39 hg19 dX9_room_77 (fun w20 H locs hP hD hk hc hS => ?_)
          have h39 : w20[39]? = some (a 39, .inl (cI, 12, .inl (upd x14 x12.toNatClampNeg (0 : Int32)))) := hc
          have h35 := (hk 35 (by omega)).trans h35
          have h36 := (hk 36 (by omega)).trans h36
          have h40 := (hk 40 (by omega)).trans h40
          have h37 := (hk 37 (by omega)).trans h37
          have h38 := (hk 38 (by omega)).trans h38
          have h47 := (hk 47 (by omega)).trans h47
          replace hs := sm_k hk (by simp) hs
          refine lv_iinc (v := x12 + (1 : Int32)) (lv' := [(1, .int (x12 + (1 : Int32))), (0, .ref (a 35))]) hx hb dX9_room_78 hl (k := 0) rfl rfl (by decide) rfl (fun ls hl => ?_)
          refine lv_goto (tgt := 48) hx hb dX9_room_81 (by decide) ?_
          obtain rfl := Option.some.inj hF
          exact ih _ _ _ _ hw _ _ _ hP hD hS hs h35 h36 h37 h38 h39 h47 ls (lv_sub hl [0, 1] rfl) hE
    obtain ⟨o21, ho21, hF⟩ := bd_some hF
    refine hL48 fu (0 : Int32) m_dares m_times o21 ho21 _ _ _ hP hD hS hs h35 h36 h37 h38 h39 h47 ls (lv_sub hl [0, 1] rfl) ?_
    intro _ q_o21 w H locs hP hD hS hs h35 h36 h37 h38 h39 h47 ls hl
    subst q_o21
    have h40 := (hs 40 (by simp only [List.mem_cons, List.not_mem_nil, or_false, not_or]; omega)).trans z40
    refine lv_aload_n hx hb dX9_room_84 rfl (lv_at hl 0 rfl) ?_
    refine lv_lconst (v := (0 : Int64)) hx hb dX9_room_85 (by decide) ?_
    refine pf_X9_100 hx hb hts hown hK hP hD hS h35 rfl rfl dX9_room_86 (fun w22 H locs hP hD hk hc hS => ?_)
    have h35 : w22[35]? = some (a 35, .inr (9, [.ref (a 36), .int u1.2.2.2.1, .ref (a 37), .int u1.2.2.2.1, .ref (a 38), .ref (a 39), .int m_mood, .ref (a 40), .int m_length, .int u1.2.1, .int u1.2.2.1, .ref (a 41), .ref (a 42), .long (0 : Int64), .int m_questions, .int m_rights, .int m_wrongs, .int m_tapes, .ref (a 43), .ref (a 44), .int m_trials, .ref (a 45), .ref (a 46), .ref (a 47), .ref (a 48), .ref (a 49), .ref (a 50), .ref (a 51)])) := hc
    have h36 := (hk 36 (by omega)).trans h36
    have h40 := (hk 40 (by omega)).trans h40
    have h37 := (hk 37 (by omega)).trans h37
    have h38 := (hk 38 (by omega)).trans h38
    have h39 := (hk 39 (by omega)).trans h39
    have h47 := (hk 47 (by omega)).trans h47
    replace hs := sm_k hk (by simp) hs
    refine lv_aload_n hx hb dX9_room_89 rfl (lv_at hl 0 rfl) ?_
    refine lv_iconst (v := (0 : Int32)) hx hb dX9_room_90 (by decide) ?_
    refine pf_X9_104 hx hb hts hown hK hP hD hS h35 rfl rfl dX9_room_91 (fun w23 H locs hP hD hk hc hS => ?_)
    have h35 : w23[35]? = some (a 35, .inr (9, [.ref (a 36), .int u1.2.2.2.1, .ref (a 37), .int u1.2.2.2.1, .ref (a 38), .ref (a 39), .int m_mood, .ref (a 40), .int m_length, .int u1.2.1, .int u1.2.2.1, .ref (a 41), .ref (a 42), .long (0 : Int64), .int (0 : Int32), .int m_rights, .int m_wrongs, .int m_tapes, .ref (a 43), .ref (a 44), .int m_trials, .ref (a 45), .ref (a 46), .ref (a 47), .ref (a 48), .ref (a 49), .ref (a 50), .ref (a 51)])) := hc
    have h36 := (hk 36 (by omega)).trans h36
    have h40 := (hk 40 (by omega)).trans h40
    have h37 := (hk 37 (by omega)).trans h37
    have h38 := (hk 38 (by omega)).trans h38
    have h39 := (hk 39 (by omega)).trans h39
    have h47 := (hk 47 (by omega)).trans h47
    replace hs := sm_k hk (by simp) hs
    refine lv_aload_n hx hb dX9_room_94 rfl (lv_at hl 0 rfl) ?_
    refine lv_iconst (v := (0 : Int32)) hx hb dX9_room_95 (by decide) ?_
    refine pf_X9_107 hx hb hts hown hK hP hD hS h35 rfl rfl dX9_room_96 (fun w24 H locs hP hD hk hc hS => ?_)
    have h35 : w24[35]? = some (a 35, .inr (9, [.ref (a 36), .int u1.2.2.2.1, .ref (a 37), .int u1.2.2.2.1, .ref (a 38), .ref (a 39), .int m_mood, .ref (a 40), .int m_length, .int u1.2.1, .int u1.2.2.1, .ref (a 41), .ref (a 42), .long (0 : Int64), .int (0 : Int32), .int (0 : Int32), .int m_wrongs, .int m_tapes, .ref (a 43), .ref (a 44), .int m_trials, .ref (a 45), .ref (a 46), .ref (a 47), .ref (a 48), .ref (a 49), .ref (a 50), .ref (a 51)])) := hc
    have h36 := (hk 36 (by omega)).trans h36
    have h40 := (hk 40 (by omega)).trans h40
    have h37 := (hk 37 (by omega)).trans h37
    have h38 := (hk 38 (by omega)).trans h38
    have h39 := (hk 39 (by omega)).trans h39
    have h47 := (hk 47 (by omega)).trans h47
    replace hs := sm_k hk (by simp) hs
    refine lv_aload_n hx hb dX9_room_99 rfl (lv_at hl 0 rfl) ?_
    refine lv_iconst (v := (0 : Int32)) hx hb dX9_room_100 (by decide) ?_
    refine pf_X9_110 hx hb hts hown hK hP hD hS h35 rfl rfl dX9_room_101 (fun w25 H locs hP hD hk hc hS => ?_)
    have h35 : w25[35]? = some (a 35, .inr (9, [.ref (a 36), .int u1.2.2.2.1, .ref (a 37), .int u1.2.2.2.1, .ref (a 38), .ref (a 39), .int m_mood, .ref (a 40), .int m_length, .int u1.2.1, .int u1.2.2.1, .ref (a 41), .ref (a 42), .long (0 : Int64), .int (0 : Int32), .int (0 : Int32), .int (0 : Int32), .int m_tapes, .ref (a 43), .ref (a 44), .int m_trials, .ref (a 45), .ref (a 46), .ref (a 47), .ref (a 48), .ref (a 49), .ref (a 50), .ref (a 51)])) := hc
    have h36 := (hk 36 (by omega)).trans h36
    have h40 := (hk 40 (by omega)).trans h40
    have h37 := (hk 37 (by omega)).trans h37
    have h38 := (hk 38 (by omega)).trans h38
    have h39 := (hk 39 (by omega)).trans h39
    have h47 := (hk 47 (by omega)).trans h47
    replace hs := sm_k hk (by simp) hs
    refine lv_aload_n hx hb dX9_room_104 rfl (lv_at hl 0 rfl) ?_
    refine gf_X9_45 hx hb hts hown hK hP h35 dX9_room_105 ?_
    refine lv_iconst (v := (0 : Int32)) hx hb dX9_room_108 (by decide) ?_
    refine lv_iconst (v := (0 : Int32)) hx hb dX9_room_109 (by decide) ?_
    obtain ⟨hg26, hF⟩ := gd_some hF
    refine ast_z hx hb hK hP hD hS h47 hg26 dX9_room_110 (fun w27 H locs hP hD hk hc hS => ?_)
    have h47 : w27[47]? = some (a 47, .inl (cZ, 2, .inl (upd m_isKept (0 : Int32).toNatClampNeg (vp_nar .boolean (0 : Int32))))) := hc
    have h35 := (hk 35 (by omega)).trans h35
    have h36 := (hk 36 (by omega)).trans h36
    have h40 := (hk 40 (by omega)).trans h40
    have h37 := (hk 37 (by omega)).trans h37
    have h38 := (hk 38 (by omega)).trans h38
    have h39 := (hk 39 (by omega)).trans h39
    replace hs := sm_k hk (by simp) hs
    refine lv_aload_n hx hb dX9_room_111 rfl (lv_at hl 0 rfl) ?_
    refine gf_X9_45 hx hb hts hown hK hP h35 dX9_room_112 ?_
    refine lv_iconst (v := (1 : Int32)) hx hb dX9_room_115 (by decide) ?_
    refine lv_iconst (v := (0 : Int32)) hx hb dX9_room_116 (by decide) ?_
    obtain ⟨hg28, hF⟩ := gd_some hF
    refine ast_z hx hb hK hP hD hS h47 hg28 dX9_room_117 (fun w29 H locs hP hD hk hc hS => ?_)
    have h47 : w29[47]? = some (a 47, .inl (cZ, 2, .inl (upd (upd m_isKept (0 : Int32).toNatClampNeg (vp_nar .boolean (0 : Int32))) (1 : Int32).toNatClampNeg (vp_nar .boolean (0 : Int32))))) := hc
    have h35 := (hk 35 (by omega)).trans h35
    have h36 := (hk 36 (by omega)).trans h36
    have h40 := (hk 40 (by omega)).trans h40
    have h37 := (hk 37 (by omega)).trans h37
    have h38 := (hk 38 (by omega)).trans h38
    have h39 := (hk 39 (by omega)).trans h39
    replace hs := sm_k hk (by simp) hs
    refine lv_aload_n hx hb dX9_room_118 rfl (lv_at hl 0 rfl) ?_
    refine gf_X9_97 hx hb hts hown hK hP h35 dX9_room_119 ?_
    obtain rfl := Option.some.inj hF
    rw [hQ]
    exact rw_i X hS hP hD hs ⟨h35, h36, h37, h38, h39, h47⟩ dX9_room_122
  · replace hF := (if_neg c3).symm.trans hF
    refine lv_bipush (v := (-3 : Int32)) hx hb dX9_room_9 (by decide) ?_
    obtain rfl := Option.some.inj hF
    rw [hQ]
    exact rw_i X hS hP hD hs ⟨h35, h36, h37, h38, h39, h47⟩ dX9_room_11
def FX9_isPupil (m_pupils : Int32) (p1 : Int32) : Bool :=
  FX9_in p1.toInt64 (0 : Int64) ((m_pupils - (1 : Int32)).toInt64)
def rm_X9_isPupil : Room := { frames := 1, cells := 0, slots := 0, locals := 25 }
set_option maxHeartbeats 4000000 in
set_option maxRecDepth 100000 in
theorem c_X9_isPupil (l : Launch) (D : va_G) (cI cJ cZ : ClassId) (a : Nat → Nat) (ws0 : va_W)  (m_readMany : Int32) (m_pupils : Int32) (m_mood : Int32) (m_length : Int32) (m_at : Int32) (m_faultAt : Int32) (m_drawn : Int64) (m_questions : Int32) (m_rights : Int32) (m_wrongs : Int32) (m_tapes : Int32) (m_trials : Int32) (p1 : Int32) (u : Bool) (hF : FX9_isPupil m_pupils p1 = u) (h35 : ws0[35]? = some (a 35, .inr (9, [.ref (a 36), .int m_readMany, .ref (a 37), .int m_pupils, .ref (a 38), .ref (a 39), .int m_mood, .ref (a 40), .int m_length, .int m_at, .int m_faultAt, .ref (a 41), .ref (a 42), .long m_drawn, .int m_questions, .int m_rights, .int m_wrongs, .int m_tapes, .ref (a 43), .ref (a 44), .int m_trials, .ref (a 45), .ref (a 46), .ref (a 47), .ref (a 48), .ref (a 49), .ref (a 50), .ref (a 51)]))) : Met l yX9_isPupil (wq yX9_isPupil cX9_isPupil 2 (some .boolean)) rm_X9_isPupil (Pq [.ref (a 35), .int p1] D cI cJ cZ ws0) (Qq (some (.int (bi u)))) 0 0 (fun _ => False) := by
  refine mq_of (by decide) (Nat.le_of_ble_eq_true rfl) (fun p e s m args below meth c ls Q hQ X _ hP hl => ?_)
  obtain ⟨hx, hb, hr, hml, hown, hts, hlk, hK, hN⟩ := id X
  have hown : s.vm.findClass RX9 = some m.cls := hown
  have hl : lv_has ls 2 [(0, .ref (a 35)), (1, .int p1)] := hl
  unfold FX9_isPupil at hF
  refine lv_iload_n hx hb dX9_isPupil_0 rfl (lv_at hl 1 rfl) ?_
  refine lv_i2l hx hb dX9_isPupil_1 rfl ?_
  refine lv_lconst (v := (0 : Int64)) hx hb dX9_isPupil_2 (by decide) ?_
  refine lv_aload_n hx hb dX9_isPupil_3 rfl (lv_at hl 0 rfl) ?_
  refine gf_X9_97 hx hb hts hown hK hP h35 dX9_isPupil_4 ?_
  refine lv_iconst (v := (1 : Int32)) hx hb dX9_isPupil_7 (by decide) ?_
  refine lv_isub hx hb dX9_isPupil_8 ?_
  refine lv_i2l hx hb dX9_isPupil_9 rfl ?_
  refine rd_i (runS (As := [.long p1.toInt64, .long (0 : Int64), .long ((m_pupils - (1 : Int32)).toInt64)]) (rest := []) X cq_X9_in lk_X9_66 (c_X9_in l D cI cJ cZ a ws0 p1.toInt64 (0 : Int64) ((m_pupils - (1 : Int32)).toInt64) _ rfl ) rfl rfl ⟨Nat.le_of_ble_eq_true rfl, Nat.le_of_ble_eq_true rfl⟩ hP rfl hl.1 rfl (Nat.le_of_ble_eq_true rfl) dX9_isPupil_10 ⟨Nat.le_of_ble_eq_true rfl, Nat.le_of_ble_eq_true rfl⟩) ?_
  subst hF
  rw [hQ]
  exact rt_z (b := FX9_in p1.toInt64 (0 : Int64) ((m_pupils - (1 : Int32)).toInt64)) X dX9_isPupil_13
def FX9_isWait (p1 : Int32) : Bool :=
  FX9_in p1.toInt64 (0 : Int64) (9 : Int64)
def rm_X9_isWait : Room := { frames := 1, cells := 0, slots := 0, locals := 25 }
set_option maxHeartbeats 4000000 in
set_option maxRecDepth 100000 in
theorem c_X9_isWait (l : Launch) (D : va_G) (cI cJ cZ : ClassId) (a : Nat → Nat) (ws0 : va_W)   (p1 : Int32) (u : Bool) (hF : FX9_isWait p1 = u) : Met l yX9_isWait (wq yX9_isWait cX9_isWait 1 (some .boolean)) rm_X9_isWait (Pq [.int p1] D cI cJ cZ ws0) (Qq (some (.int (bi u)))) 0 0 (fun _ => False) := by
  refine mq_of (by decide) (Nat.le_of_ble_eq_true rfl) (fun p e s m args below meth c ls Q hQ X _ hP hl => ?_)
  obtain ⟨hx, hb, hr, hml, hown, hts, hlk, hK, hN⟩ := id X
  have hown : s.vm.findClass RX9 = some m.cls := hown
  have hl : lv_has ls 1 [(0, .int p1)] := hl
  unfold FX9_isWait at hF
  refine lv_iload_n hx hb dX9_isWait_0 rfl (lv_at hl 0 rfl) ?_
  refine lv_i2l hx hb dX9_isWait_1 rfl ?_
  refine lv_lconst (v := (0 : Int64)) hx hb dX9_isWait_2 (by decide) ?_
  refine lv_ldc2 (v := (9 : Int64)) hx hb hown (hts _ kl_X9_81) dX9_isWait_3 ?_
  refine rd_i (runS (As := [.long p1.toInt64, .long (0 : Int64), .long (9 : Int64)]) (rest := []) X cq_X9_in lk_X9_66 (c_X9_in l D cI cJ cZ a ws0 p1.toInt64 (0 : Int64) (9 : Int64) _ rfl ) rfl rfl ⟨Nat.le_of_ble_eq_true rfl, Nat.le_of_ble_eq_true rfl⟩ hP rfl hl.1 rfl (Nat.le_of_ble_eq_true rfl) dX9_isWait_6 ⟨Nat.le_of_ble_eq_true rfl, Nat.le_of_ble_eq_true rfl⟩) ?_
  subst hF
  rw [hQ]
  exact rt_z (b := FX9_in p1.toInt64 (0 : Int64) (9 : Int64)) X dX9_isWait_9
def FX9_isRule (p1 : Int32) : Bool :=
  FX9_in p1.toInt64 (0 : Int64) (4 : Int64)
def rm_X9_isRule : Room := { frames := 1, cells := 0, slots := 0, locals := 25 }
set_option maxHeartbeats 4000000 in
set_option maxRecDepth 100000 in
theorem c_X9_isRule (l : Launch) (D : va_G) (cI cJ cZ : ClassId) (a : Nat → Nat) (ws0 : va_W)   (p1 : Int32) (u : Bool) (hF : FX9_isRule p1 = u) : Met l yX9_isRule (wq yX9_isRule cX9_isRule 1 (some .boolean)) rm_X9_isRule (Pq [.int p1] D cI cJ cZ ws0) (Qq (some (.int (bi u)))) 0 0 (fun _ => False) := by
  refine mq_of (by decide) (Nat.le_of_ble_eq_true rfl) (fun p e s m args below meth c ls Q hQ X _ hP hl => ?_)
  obtain ⟨hx, hb, hr, hml, hown, hts, hlk, hK, hN⟩ := id X
  have hown : s.vm.findClass RX9 = some m.cls := hown
  have hl : lv_has ls 1 [(0, .int p1)] := hl
  unfold FX9_isRule at hF
  refine lv_iload_n hx hb dX9_isRule_0 rfl (lv_at hl 0 rfl) ?_
  refine lv_i2l hx hb dX9_isRule_1 rfl ?_
  refine lv_lconst (v := (0 : Int64)) hx hb dX9_isRule_2 (by decide) ?_
  refine lv_ldc2 (v := (4 : Int64)) hx hb hown (hts _ kl_X9_113) dX9_isRule_3 ?_
  refine rd_i (runS (As := [.long p1.toInt64, .long (0 : Int64), .long (4 : Int64)]) (rest := []) X cq_X9_in lk_X9_66 (c_X9_in l D cI cJ cZ a ws0 p1.toInt64 (0 : Int64) (4 : Int64) _ rfl ) rfl rfl ⟨Nat.le_of_ble_eq_true rfl, Nat.le_of_ble_eq_true rfl⟩ hP rfl hl.1 rfl (Nat.le_of_ble_eq_true rfl) dX9_isRule_6 ⟨Nat.le_of_ble_eq_true rfl, Nat.le_of_ble_eq_true rfl⟩) ?_
  subst hF
  rw [hQ]
  exact rt_z (b := FX9_in p1.toInt64 (0 : Int64) (4 : Int64)) X dX9_isRule_9
def FX9_about (m_pupils : Int32) (m_times : Nat → Int32) (m_dares : Nat → Int32) (m_pupil : Nat → Int32) (p1 : Int32) (p2 : Int32) : Option (Int32) :=
  if (FX9_isPupil m_pupils p1) = true then (if (FX9_in p2.toInt64 (0 : Int64) (7 : Int64)) = true then (if (6 : Int32) ≤ p2 then (if p2 = (6 : Int32) then (if p1 < 0 ∨ 12 ≤ p1.toNatClampNeg then none else some (m_dares p1.toNatClampNeg)) else (if p1 < 0 ∨ 12 ≤ p1.toNatClampNeg then none else some (m_times p1.toNatClampNeg))) else (if (((6 : Int32) * p1) + p2) < 0 ∨ 72 ≤ (((6 : Int32) * p1) + p2).toNatClampNeg then none else some (m_pupil (((6 : Int32) * p1) + p2).toNatClampNeg))) else (some (-2 : Int32))) else (some (-1 : Int32))
def rm_X9_about : Room := { frames := 2, cells := 0, slots := 0, locals := 46 }
set_option maxHeartbeats 4000000 in
set_option maxRecDepth 100000 in
theorem c_X9_about (l : Launch) (D : va_G) (cI cJ cZ : ClassId) (a : Nat → Nat) (ws0 : va_W)  (m_readMany : Int32) (m_pupils : Int32) (m_mood : Int32) (m_length : Int32) (m_at : Int32) (m_faultAt : Int32) (m_drawn : Int64) (m_questions : Int32) (m_rights : Int32) (m_wrongs : Int32) (m_tapes : Int32) (m_trials : Int32) (m_times : Nat → Int32) (m_dares : Nat → Int32) (m_pupil : Nat → Int32) (p1 : Int32) (p2 : Int32) (u : Int32) (hF : FX9_about m_pupils m_times m_dares m_pupil p1 p2 = some u) (h35 : ws0[35]? = some (a 35, .inr (9, [.ref (a 36), .int m_readMany, .ref (a 37), .int m_pupils, .ref (a 38), .ref (a 39), .int m_mood, .ref (a 40), .int m_length, .int m_at, .int m_faultAt, .ref (a 41), .ref (a 42), .long m_drawn, .int m_questions, .int m_rights, .int m_wrongs, .int m_tapes, .ref (a 43), .ref (a 44), .int m_trials, .ref (a 45), .ref (a 46), .ref (a 47), .ref (a 48), .ref (a 49), .ref (a 50), .ref (a 51)]))) (h37 : ws0[37]? = some (a 37, .inl (cI, 72, .inl m_pupil))) (h38 : ws0[38]? = some (a 38, .inl (cI, 12, .inl m_dares))) (h39 : ws0[39]? = some (a 39, .inl (cI, 12, .inl m_times))) : Met l yX9_about (wq yX9_about cX9_about 3 (some .int)) rm_X9_about (Pq [.ref (a 35), .int p1, .int p2] D cI cJ cZ ws0) (Qq (some (.int u))) 0 0 (fun _ => False) := by
  refine mq_of (by decide) (Nat.le_of_ble_eq_true rfl) (fun p e s m args below meth c ls Q hQ X _ hP hl => ?_)
  obtain ⟨hx, hb, hr, hml, hown, hts, hlk, hK, hN⟩ := id X
  have hown : s.vm.findClass RX9 = some m.cls := hown
  have hl : lv_has ls 3 [(0, .ref (a 35)), (1, .int p1), (2, .int p2)] := hl
  unfold FX9_about at hF
  refine lv_aload_n hx hb dX9_about_0 rfl (lv_at hl 0 rfl) ?_
  refine lv_iload_n hx hb dX9_about_1 rfl (lv_at hl 1 rfl) ?_
  refine rd_i (runV (As := [.int p1]) (rest := []) X cq_X9_isPupil lk_X9_115 (c_X9_isPupil l D cI cJ cZ a ws0 m_readMany m_pupils m_mood m_length m_at m_faultAt m_drawn m_questions m_rights m_wrongs m_tapes m_trials p1 _ rfl h35) rfl rfl ⟨Nat.le_of_ble_eq_true rfl, Nat.le_of_ble_eq_true rfl⟩ hP h35 rfl rfl hl.1 rfl (Nat.le_of_ble_eq_true rfl) dX9_about_2 ⟨Nat.le_of_ble_eq_true rfl, Nat.le_of_ble_eq_true rfl⟩) ?_
  refine zf_ne (tgt := 10) hx hb dX9_about_5 (by decide) (fun c1 => ?_) (fun c1 => ?_)
  · replace hF := (if_pos c1).symm.trans hF
    refine lv_iload_n hx hb dX9_about_10 rfl (lv_at hl 2 rfl) ?_
    refine lv_i2l hx hb dX9_about_11 rfl ?_
    refine lv_lconst (v := (0 : Int64)) hx hb dX9_about_12 (by decide) ?_
    refine lv_ldc2 (v := (7 : Int64)) hx hb hown (hts _ kl_X9_119) dX9_about_13 ?_
    refine rd_i (runS (As := [.long p2.toInt64, .long (0 : Int64), .long (7 : Int64)]) (rest := []) X cq_X9_in lk_X9_66 (c_X9_in l D cI cJ cZ a ws0 p2.toInt64 (0 : Int64) (7 : Int64) _ rfl ) rfl rfl ⟨Nat.le_of_ble_eq_true rfl, Nat.le_of_ble_eq_true rfl⟩ hP rfl hl.1 rfl (Nat.le_of_ble_eq_true rfl) dX9_about_16 ⟨Nat.le_of_ble_eq_true rfl, Nat.le_of_ble_eq_true rfl⟩) ?_
    refine zf_ne (tgt := 25) hx hb dX9_about_19 (by decide) (fun c2 => ?_) (fun c2 => ?_)
    · replace hF := (if_pos c2).symm.trans hF
      refine lv_iload_n hx hb dX9_about_25 rfl (lv_at hl 2 rfl) ?_
      refine lv_bipush (v := (6 : Int32)) hx hb dX9_about_26 (by decide) ?_
      refine lv_icmp_ge (tgt := 45) hx hb dX9_about_28 (by decide) (fun c3 => ?_) (fun c3 => ?_)
      · replace hF := (if_pos c3).symm.trans hF
        refine lv_iload_n hx hb dX9_about_45 rfl (lv_at hl 2 rfl) ?_
        refine lv_bipush (v := (6 : Int32)) hx hb dX9_about_46 (by decide) ?_
        refine lv_icmp_ne (tgt := 60) hx hb dX9_about_48 (by decide) (fun c4 => ?_) (fun c4 => ?_)
        · replace hF := (if_neg c4).symm.trans hF
          refine lv_aload_n hx hb dX9_about_60 rfl (lv_at hl 0 rfl) ?_
          refine gf_X9_19 hx hb hts hown hK hP h35 dX9_about_61 ?_
          refine lv_iload_n hx hb dX9_about_64 rfl (lv_at hl 1 rfl) ?_
          obtain ⟨hg5, hF⟩ := gd_some hF
          refine va_iald hx hb hK hP 39 0 h39 rfl hg5 dX9_about_65 ?_
          obtain rfl := Option.some.inj hF
          rw [hQ]
          exact rt_i X dX9_about_66
        · replace hF := (if_pos c4).symm.trans hF
          refine lv_aload_n hx hb dX9_about_51 rfl (lv_at hl 0 rfl) ?_
          refine gf_X9_16 hx hb hts hown hK hP h35 dX9_about_52 ?_
          refine lv_iload_n hx hb dX9_about_55 rfl (lv_at hl 1 rfl) ?_
          obtain ⟨hg6, hF⟩ := gd_some hF
          refine va_iald hx hb hK hP 38 0 h38 rfl hg6 dX9_about_56 ?_
          refine lv_goto (tgt := 66) hx hb dX9_about_57 (by decide) ?_
          obtain rfl := Option.some.inj hF
          rw [hQ]
          exact rt_i X dX9_about_66
      · replace hF := (if_neg c3).symm.trans hF
        refine lv_aload_n hx hb dX9_about_31 rfl (lv_at hl 0 rfl) ?_
        refine gf_X9_13 hx hb hts hown hK hP h35 dX9_about_32 ?_
        refine lv_bipush (v := (6 : Int32)) hx hb dX9_about_35 (by decide) ?_
        refine lv_iload_n hx hb dX9_about_37 rfl (lv_at hl 1 rfl) ?_
        refine lv_imul hx hb dX9_about_38 ?_
        refine lv_iload_n hx hb dX9_about_39 rfl (lv_at hl 2 rfl) ?_
        refine lv_iadd hx hb dX9_about_40 ?_
        obtain ⟨hg7, hF⟩ := gd_some hF
        refine va_iald hx hb hK hP 37 0 h37 rfl hg7 dX9_about_41 ?_
        refine lv_goto (tgt := 66) hx hb dX9_about_42 (by decide) ?_
        obtain rfl := Option.some.inj hF
        rw [hQ]
        exact rt_i X dX9_about_66
    · replace hF := (if_neg c2).symm.trans hF
      refine lv_bipush (v := (-2 : Int32)) hx hb dX9_about_22 (by decide) ?_
      obtain rfl := Option.some.inj hF
      rw [hQ]
      exact rt_i X dX9_about_24
  · replace hF := (if_neg c1).symm.trans hF
    refine lv_iconst (v := (-1 : Int32)) hx hb dX9_about_8 (by decide) ?_
    obtain rfl := Option.some.inj hF
    rw [hQ]
    exact rt_i X dX9_about_9
def FX9_mood (m_mood : Int32) (p1 : Int32) : Int32 × Int32 :=
  if (FX9_in p1.toInt64 (0 : Int64) (9 : Int64)) = true then ((m_mood, p1)) else (((-2 : Int32), m_mood))
def rm_X9_mood : Room := { frames := 1, cells := 0, slots := 0, locals := 25 }
set_option maxHeartbeats 4000000 in
set_option maxRecDepth 100000 in
theorem c_X9_mood (l : Launch) (D : va_G) (cI cJ cZ : ClassId) (a : Nat → Nat) (ws0 : va_W) (A : Nat → Prop)  (m_readMany : Int32) (m_pupils : Int32) (m_mood : Int32) (m_length : Int32) (m_at : Int32) (m_faultAt : Int32) (m_drawn : Int64) (m_questions : Int32) (m_rights : Int32) (m_wrongs : Int32) (m_tapes : Int32) (m_trials : Int32) (p1 : Int32) (u : Int32 × Int32) (hF : FX9_mood m_mood p1 = u) (z35 : ws0[35]? = some (a 35, .inr (9, [.ref (a 36), .int m_readMany, .ref (a 37), .int m_pupils, .ref (a 38), .ref (a 39), .int m_mood, .ref (a 40), .int m_length, .int m_at, .int m_faultAt, .ref (a 41), .ref (a 42), .long m_drawn, .int m_questions, .int m_rights, .int m_wrongs, .int m_tapes, .ref (a 43), .ref (a 44), .int m_trials, .ref (a 45), .ref (a 46), .ref (a 47), .ref (a 48), .ref (a 49), .ref (a 50), .ref (a 51)]))) (hD : va_D A ws0) : Met l yX9_mood (wq yX9_mood cX9_mood 3 (some .int)) rm_X9_mood (Pq [.ref (a 35), .int p1] D cI cJ cZ ws0) (Qw D A ws0 [35] (some (.int u.1)) (fun w => w[35]? = some (a 35, .inr (9, [.ref (a 36), .int m_readMany, .ref (a 37), .int m_pupils, .ref (a 38), .ref (a 39), .int u.2, .ref (a 40), .int m_length, .int m_at, .int m_faultAt, .ref (a 41), .ref (a 42), .long m_drawn, .int m_questions, .int m_rights, .int m_wrongs, .int m_tapes, .ref (a 43), .ref (a 44), .int m_trials, .ref (a 45), .ref (a 46), .ref (a 47), .ref (a 48), .ref (a 49), .ref (a 50), .ref (a 51)])))) 0 0 A := by
  refine mq_of (by decide) (Nat.le_of_ble_eq_true rfl) (fun p e s m args below meth c ls Q hQ X _ hP hl => ?_)
  obtain ⟨hx, hb, hr, hml, hown, hts, hlk, hK, hN⟩ := id X
  have hown : s.vm.findClass RX9 = some m.cls := hown
  have hl : lv_has ls 3 [(0, .ref (a 35)), (1, .int p1)] := hl
  have hS : va_S A s.heap s.heap [] := va_S.rf
  have hs : ∀ j : Nat, j ∉ [35] → ws0[j]? = ws0[j]? := fun _ _ => rfl
  have h35 := z35
  unfold FX9_mood at hF
  refine lv_iload_n hx hb dX9_mood_0 rfl (lv_at hl 1 rfl) ?_
  refine lv_i2l hx hb dX9_mood_1 rfl ?_
  refine lv_lconst (v := (0 : Int64)) hx hb dX9_mood_2 (by decide) ?_
  refine lv_ldc2 (v := (9 : Int64)) hx hb hown (hts _ kl_X9_81) dX9_mood_3 ?_
  refine rd_i (runS (As := [.long p1.toInt64, .long (0 : Int64), .long (9 : Int64)]) (rest := []) X cq_X9_in lk_X9_66 (c_X9_in l D cI cJ cZ a ws0 p1.toInt64 (0 : Int64) (9 : Int64) _ rfl ) rfl rfl ⟨Nat.le_of_ble_eq_true rfl, Nat.le_of_ble_eq_true rfl⟩ hP rfl hl.1 rfl (Nat.le_of_ble_eq_true rfl) dX9_mood_6 ⟨Nat.le_of_ble_eq_true rfl, Nat.le_of_ble_eq_true rfl⟩) ?_
  refine zf_ne (tgt := 15) hx hb dX9_mood_9 (by decide) (fun c1 => ?_) (fun c1 => ?_)
  · replace hF := (if_pos c1).symm.trans hF
    refine lv_aload_n hx hb dX9_mood_15 rfl (lv_at hl 0 rfl) ?_
    refine gf_X9_60 hx hb hts hown hK hP h35 dX9_mood_16 ?_
    refine lv_istore_n (lv' := [(2, .int m_mood), (0, .ref (a 35)), (1, .int p1)]) hx hb dX9_mood_19 rfl hl (by decide) rfl (fun ls hl => ?_)
    refine lv_aload_n hx hb dX9_mood_20 rfl (lv_at hl 1 rfl) ?_
    refine lv_iload_n hx hb dX9_mood_21 rfl (lv_at hl 2 rfl) ?_
    refine pf_X9_60 hx hb hts hown hK hP hD hS h35 rfl rfl dX9_mood_22 (fun w2 H locs hP hD hk hc hS => ?_)
    have h35 : w2[35]? = some (a 35, .inr (9, [.ref (a 36), .int m_readMany, .ref (a 37), .int m_pupils, .ref (a 38), .ref (a 39), .int p1, .ref (a 40), .int m_length, .int m_at, .int m_faultAt, .ref (a 41), .ref (a 42), .long m_drawn, .int m_questions, .int m_rights, .int m_wrongs, .int m_tapes, .ref (a 43), .ref (a 44), .int m_trials, .ref (a 45), .ref (a 46), .ref (a 47), .ref (a 48), .ref (a 49), .ref (a 50), .ref (a 51)])) := hc
    replace hs := sm_k hk (by simp) hs
    refine lv_iload_n hx hb dX9_mood_25 rfl (lv_at hl 0 rfl) ?_
    subst hF
    rw [hQ]
    exact rw_i X hS hP hD hs h35 dX9_mood_26
  · replace hF := (if_neg c1).symm.trans hF
    refine lv_bipush (v := (-2 : Int32)) hx hb dX9_mood_12 (by decide) ?_
    subst hF
    rw [hQ]
    exact rw_i X hS hP hD hs h35 dX9_mood_14
def FX9_upOf_J58 (m_pupil : Nat → Int32) (p1 : Int32) (x7 : Int32) (x8 : Int32) : Option (Int32) :=
  if x8 = 0 then (some (0 : Int32)) else (if x7 = 0 then (if (((6 : Int32) * p1) + (2 : Int32)) < 0 ∨ 72 ≤ (((6 : Int32) * p1) + (2 : Int32)).toNatClampNeg then none else some (m_pupil (((6 : Int32) * p1) + (2 : Int32)).toNatClampNeg)) else (some (10 : Int32)))
def FX9_upOf_J57 (m_pupil : Nat → Int32) (p1 : Int32) (x6 : Int32) : Option (Int32) :=
  FX9_upOf_J58 m_pupil p1 x6 (0 : Int32)
def FX9_upOf_J53 (m_pupil : Nat → Int32) (p1 : Int32) (x13 : Int32) : Option (Int32) :=
  FX9_upOf_J58 m_pupil p1 x13 (1 : Int32)
def FX9_upOf_J20 (m_mood : Int32) (m_pupil : Nat → Int32) (m_dares : Nat → Int32) (p1 : Int32) (p2 : Int32) (x3 : Int32) : Option (Int32) :=
  if p1 < 0 ∨ 12 ≤ p1.toNatClampNeg then none else if (m_dares p1.toNatClampNeg) < m_mood then (FX9_upOf_J57 m_pupil p1 x3) else (if x3 = 0 then (if (((6 : Int32) * p1) + (3 : Int32)) < 0 ∨ 72 ≤ (((6 : Int32) * p1) + (3 : Int32)).toNatClampNeg then none else if p2 < (m_pupil (((6 : Int32) * p1) + (3 : Int32)).toNatClampNeg) then (FX9_upOf_J57 m_pupil p1 x3) else (FX9_upOf_J53 m_pupil p1 x3)) else (FX9_upOf_J53 m_pupil p1 x3))
def FX9_upOf (m_mood : Int32) (m_pupil : Nat → Int32) (m_dares : Nat → Int32) (p1 : Int32) (p2 : Int32) : Option (Int32) :=
  if (((6 : Int32) * p1) + (5 : Int32)) < 0 ∨ 72 ≤ (((6 : Int32) * p1) + (5 : Int32)).toNatClampNeg then none else if (m_pupil (((6 : Int32) * p1) + (5 : Int32)).toNatClampNeg) = (1 : Int32) then (FX9_upOf_J20 m_mood m_pupil m_dares p1 p2 (1 : Int32)) else (FX9_upOf_J20 m_mood m_pupil m_dares p1 p2 (0 : Int32))
def rm_X9_upOf : Room := { frames := 0, cells := 0, slots := 0, locals := 0 }
set_option maxHeartbeats 4000000 in
set_option maxRecDepth 100000 in
theorem c_X9_upOf (l : Launch) (D : va_G) (cI cJ cZ : ClassId) (a : Nat → Nat) (ws0 : va_W)  (m_readMany : Int32) (m_pupils : Int32) (m_mood : Int32) (m_length : Int32) (m_at : Int32) (m_faultAt : Int32) (m_drawn : Int64) (m_questions : Int32) (m_rights : Int32) (m_wrongs : Int32) (m_tapes : Int32) (m_trials : Int32) (m_pupil : Nat → Int32) (m_dares : Nat → Int32) (p1 : Int32) (p2 : Int32) (u : Int32) (hF : FX9_upOf m_mood m_pupil m_dares p1 p2 = some u) (h35 : ws0[35]? = some (a 35, .inr (9, [.ref (a 36), .int m_readMany, .ref (a 37), .int m_pupils, .ref (a 38), .ref (a 39), .int m_mood, .ref (a 40), .int m_length, .int m_at, .int m_faultAt, .ref (a 41), .ref (a 42), .long m_drawn, .int m_questions, .int m_rights, .int m_wrongs, .int m_tapes, .ref (a 43), .ref (a 44), .int m_trials, .ref (a 45), .ref (a 46), .ref (a 47), .ref (a 48), .ref (a 49), .ref (a 50), .ref (a 51)]))) (h37 : ws0[37]? = some (a 37, .inl (cI, 72, .inl m_pupil))) (h38 : ws0[38]? = some (a 38, .inl (cI, 12, .inl m_dares))) : Met l yX9_upOf (wq yX9_upOf cX9_upOf 5 (some .int)) rm_X9_upOf (Pq [.ref (a 35), .int p1, .int p2] D cI cJ cZ ws0) (Qq (some (.int u))) 0 0 (fun _ => False) := by
  refine mq_of (by decide) (Nat.le_of_ble_eq_true rfl) (fun p e s m args below meth c ls Q hQ X _ hP hl => ?_)
  obtain ⟨hx, hb, hr, hml, hown, hts, hlk, hK, hN⟩ := id X
  have hown : s.vm.findClass RX9 = some m.cls := hown
  have hl : lv_has ls 5 [(0, .ref (a 35)), (1, .int p1), (2, .int p2)] := hl
  have hJ58 : ∀ (x7 : Int32) (x8 : Int32), ∀ ls, lv_has ls 5 [(3, .int x7), (0, .ref (a 35)), (1, .int p1)] → FX9_upOf_J58 m_pupil p1 x7 x8 = some u → W p l e rm_X9_upOf s m args below meth c s.heap [] 0 0 Q (F0 m 58 ls [.int x8]) := by
    intro x7 x8 ls hl hF
    unfold FX9_upOf_J58 at hF
    refine lv_istore (lv' := [(4, .int x8), (3, .int x7), (0, .ref (a 35)), (1, .int p1)]) hx hb dX9_upOf_58 hl (by decide) rfl (fun ls hl => ?_)
    refine lv_iload hx hb dX9_upOf_60 (lv_at hl 0 rfl) ?_
    refine lv_if_ne (tgt := 69) hx hb dX9_upOf_62 (by decide) (fun c9 => ?_) (fun c9 => ?_)
    · replace hF := (if_neg c9).symm.trans hF
      refine lv_iload_n hx hb dX9_upOf_69 rfl (lv_at hl 1 rfl) ?_
      refine lv_if_eq (tgt := 78) hx hb dX9_upOf_70 (by decide) (fun c10 => ?_) (fun c10 => ?_)
      · replace hF := (if_pos c10).symm.trans hF
        refine lv_aload_n hx hb dX9_upOf_78 rfl (lv_at hl 2 rfl) ?_
        refine gf_X9_13 hx hb hts hown hK hP h35 dX9_upOf_79 ?_
        refine lv_bipush (v := (6 : Int32)) hx hb dX9_upOf_82 (by decide) ?_
        refine lv_iload_n hx hb dX9_upOf_84 rfl (lv_at hl 3 rfl) ?_
        refine lv_imul hx hb dX9_upOf_85 ?_
        refine lv_iconst (v := (2 : Int32)) hx hb dX9_upOf_86 (by decide) ?_
        refine lv_iadd hx hb dX9_upOf_87 ?_
        obtain ⟨hg11, hF⟩ := gd_some hF
        refine va_iald hx hb hK hP 37 0 h37 rfl hg11 dX9_upOf_88 ?_
        obtain rfl := Option.some.inj hF
        rw [hQ]
        exact rt_i X dX9_upOf_89
      · replace hF := (if_neg c10).symm.trans hF
        refine lv_bipush (v := (10 : Int32)) hx hb dX9_upOf_73 (by decide) ?_
        refine lv_goto (tgt := 89) hx hb dX9_upOf_75 (by decide) ?_
        obtain rfl := Option.some.inj hF
        rw [hQ]
        exact rt_i X dX9_upOf_89
    · replace hF := (if_pos c9).symm.trans hF
      refine lv_iconst (v := (0 : Int32)) hx hb dX9_upOf_65 (by decide) ?_
      refine lv_goto (tgt := 89) hx hb dX9_upOf_66 (by decide) ?_
      obtain rfl := Option.some.inj hF
      rw [hQ]
      exact rt_i X dX9_upOf_89
  have hJ57 : ∀ (x6 : Int32), ∀ ls, lv_has ls 5 [(3, .int x6), (0, .ref (a 35)), (1, .int p1)] → FX9_upOf_J57 m_pupil p1 x6 = some u → W p l e rm_X9_upOf s m args below meth c s.heap [] 0 0 Q (F0 m 57 ls []) := by
    intro x6 ls hl hF
    unfold FX9_upOf_J57 at hF
    refine lv_iconst (v := (0 : Int32)) hx hb dX9_upOf_57 (by decide) ?_
    exact hJ58 x6 (0 : Int32) ls (lv_sub hl [0, 1, 2] rfl) hF
  have hJ53 : ∀ (x13 : Int32), ∀ ls, lv_has ls 5 [(3, .int x13), (0, .ref (a 35)), (1, .int p1)] → FX9_upOf_J53 m_pupil p1 x13 = some u → W p l e rm_X9_upOf s m args below meth c s.heap [] 0 0 Q (F0 m 53 ls []) := by
    intro x13 ls hl hF
    unfold FX9_upOf_J53 at hF
    refine lv_iconst (v := (1 : Int32)) hx hb dX9_upOf_53 (by decide) ?_
    refine lv_goto (tgt := 58) hx hb dX9_upOf_54 (by decide) ?_
    exact hJ58 x13 (1 : Int32) ls (lv_sub hl [0, 1, 2] rfl) hF
  have hJ20 : ∀ (x3 : Int32), ∀ ls, lv_has ls 5 [(0, .ref (a 35)), (1, .int p1), (2, .int p2)] → FX9_upOf_J20 m_mood m_pupil m_dares p1 p2 x3 = some u → W p l e rm_X9_upOf s m args below meth c s.heap [] 0 0 Q (F0 m 20 ls [.int x3]) := by
    intro x3 ls hl hF
    unfold FX9_upOf_J20 at hF
    refine lv_istore_n (lv' := [(3, .int x3), (0, .ref (a 35)), (1, .int p1), (2, .int p2)]) hx hb dX9_upOf_20 rfl hl (by decide) rfl (fun ls hl => ?_)
    refine lv_aload_n hx hb dX9_upOf_21 rfl (lv_at hl 1 rfl) ?_
    refine gf_X9_16 hx hb hts hown hK hP h35 dX9_upOf_22 ?_
    refine lv_iload_n hx hb dX9_upOf_25 rfl (lv_at hl 2 rfl) ?_
    obtain ⟨hg4, hF⟩ := gd_some hF
    refine va_iald hx hb hK hP 38 0 h38 rfl hg4 dX9_upOf_26 ?_
    refine lv_aload_n hx hb dX9_upOf_27 rfl (lv_at hl 1 rfl) ?_
    refine gf_X9_60 hx hb hts hown hK hP h35 dX9_upOf_28 ?_
    refine lv_icmp_lt (tgt := 57) hx hb dX9_upOf_31 (by decide) (fun c5 => ?_) (fun c5 => ?_)
    · replace hF := (if_pos c5).symm.trans hF
      exact hJ57 x3 ls (lv_sub hl [0, 1, 2] rfl) hF
    · replace hF := (if_neg c5).symm.trans hF
      refine lv_iload_n hx hb dX9_upOf_34 rfl (lv_at hl 0 rfl) ?_
      refine lv_if_ne (tgt := 53) hx hb dX9_upOf_35 (by decide) (fun c12 => ?_) (fun c12 => ?_)
      · replace hF := (if_neg c12).symm.trans hF
        exact hJ53 x3 ls (lv_sub hl [0, 1, 2] rfl) hF
      · replace hF := (if_pos c12).symm.trans hF
        refine lv_aload_n hx hb dX9_upOf_38 rfl (lv_at hl 1 rfl) ?_
        refine gf_X9_13 hx hb hts hown hK hP h35 dX9_upOf_39 ?_
        refine lv_bipush (v := (6 : Int32)) hx hb dX9_upOf_42 (by decide) ?_
        refine lv_iload_n hx hb dX9_upOf_44 rfl (lv_at hl 2 rfl) ?_
        refine lv_imul hx hb dX9_upOf_45 ?_
        refine lv_iconst (v := (3 : Int32)) hx hb dX9_upOf_46 (by decide) ?_
        refine lv_iadd hx hb dX9_upOf_47 ?_
        obtain ⟨hg14, hF⟩ := gd_some hF
        refine va_iald hx hb hK hP 37 0 h37 rfl hg14 dX9_upOf_48 ?_
        refine lv_iload_n hx hb dX9_upOf_49 rfl (lv_at hl 3 rfl) ?_
        refine lv_icmp_gt (tgt := 57) hx hb dX9_upOf_50 (by decide) (fun c15 => ?_) (fun c15 => ?_)
        · replace hF := (if_pos c15).symm.trans hF
          exact hJ57 x3 ls (lv_sub hl [0, 1, 2] rfl) hF
        · replace hF := (if_neg c15).symm.trans hF
          exact hJ53 x3 ls (lv_sub hl [0, 1, 2] rfl) hF
  unfold FX9_upOf at hF
  refine lv_aload_n hx hb dX9_upOf_0 rfl (lv_at hl 0 rfl) ?_
  refine gf_X9_13 hx hb hts hown hK hP h35 dX9_upOf_1 ?_
  refine lv_bipush (v := (6 : Int32)) hx hb dX9_upOf_4 (by decide) ?_
  refine lv_iload_n hx hb dX9_upOf_6 rfl (lv_at hl 1 rfl) ?_
  refine lv_imul hx hb dX9_upOf_7 ?_
  refine lv_iconst (v := (5 : Int32)) hx hb dX9_upOf_8 (by decide) ?_
  refine lv_iadd hx hb dX9_upOf_9 ?_
  obtain ⟨hg1, hF⟩ := gd_some hF
  refine va_iald hx hb hK hP 37 0 h37 rfl hg1 dX9_upOf_10 ?_
  refine lv_iconst (v := (1 : Int32)) hx hb dX9_upOf_11 (by decide) ?_
  refine lv_icmp_ne (tgt := 19) hx hb dX9_upOf_12 (by decide) (fun c2 => ?_) (fun c2 => ?_)
  · replace hF := (if_neg c2).symm.trans hF
    refine lv_iconst (v := (0 : Int32)) hx hb dX9_upOf_19 (by decide) ?_
    exact hJ20 (0 : Int32) ls (lv_sub hl [0, 1, 2] rfl) hF
  · replace hF := (if_pos c2).symm.trans hF
    refine lv_iconst (v := (1 : Int32)) hx hb dX9_upOf_15 (by decide) ?_
    refine lv_goto (tgt := 20) hx hb dX9_upOf_16 (by decide) ?_
    exact hJ20 (1 : Int32) ls (lv_sub hl [0, 1, 2] rfl) hF
def FX9_up (m_pupils : Int32) (m_mood : Int32) (m_pupil : Nat → Int32) (m_dares : Nat → Int32) (p1 : Int32) (p2 : Int32) : Option (Int32) :=
  if (FX9_isPupil m_pupils p1) = true then (if (FX9_isWait p2) = true then ((FX9_upOf m_mood m_pupil m_dares p1 p2).bind fun x3 => some x3) else (some (-2 : Int32))) else (some (-1 : Int32))
def rm_X9_up : Room := { frames := 2, cells := 0, slots := 0, locals := 46 }
set_option maxHeartbeats 4000000 in
set_option maxRecDepth 100000 in
theorem c_X9_up (l : Launch) (D : va_G) (cI cJ cZ : ClassId) (a : Nat → Nat) (ws0 : va_W)  (m_readMany : Int32) (m_pupils : Int32) (m_mood : Int32) (m_length : Int32) (m_at : Int32) (m_faultAt : Int32) (m_drawn : Int64) (m_questions : Int32) (m_rights : Int32) (m_wrongs : Int32) (m_tapes : Int32) (m_trials : Int32) (m_pupil : Nat → Int32) (m_dares : Nat → Int32) (p1 : Int32) (p2 : Int32) (u : Int32) (hF : FX9_up m_pupils m_mood m_pupil m_dares p1 p2 = some u) (h35 : ws0[35]? = some (a 35, .inr (9, [.ref (a 36), .int m_readMany, .ref (a 37), .int m_pupils, .ref (a 38), .ref (a 39), .int m_mood, .ref (a 40), .int m_length, .int m_at, .int m_faultAt, .ref (a 41), .ref (a 42), .long m_drawn, .int m_questions, .int m_rights, .int m_wrongs, .int m_tapes, .ref (a 43), .ref (a 44), .int m_trials, .ref (a 45), .ref (a 46), .ref (a 47), .ref (a 48), .ref (a 49), .ref (a 50), .ref (a 51)]))) (h37 : ws0[37]? = some (a 37, .inl (cI, 72, .inl m_pupil))) (h38 : ws0[38]? = some (a 38, .inl (cI, 12, .inl m_dares))) : Met l yX9_up (wq yX9_up cX9_up 3 (some .int)) rm_X9_up (Pq [.ref (a 35), .int p1, .int p2] D cI cJ cZ ws0) (Qq (some (.int u))) 0 0 (fun _ => False) := by
  refine mq_of (by decide) (Nat.le_of_ble_eq_true rfl) (fun p e s m args below meth c ls Q hQ X _ hP hl => ?_)
  obtain ⟨hx, hb, hr, hml, hown, hts, hlk, hK, hN⟩ := id X
  have hown : s.vm.findClass RX9 = some m.cls := hown
  have hl : lv_has ls 3 [(0, .ref (a 35)), (1, .int p1), (2, .int p2)] := hl
  unfold FX9_up at hF
  refine lv_aload_n hx hb dX9_up_0 rfl (lv_at hl 0 rfl) ?_
  refine lv_iload_n hx hb dX9_up_1 rfl (lv_at hl 1 rfl) ?_
  refine rd_i (runV (As := [.int p1]) (rest := []) X cq_X9_isPupil lk_X9_115 (c_X9_isPupil l D cI cJ cZ a ws0 m_readMany m_pupils m_mood m_length m_at m_faultAt m_drawn m_questions m_rights m_wrongs m_tapes m_trials p1 _ rfl h35) rfl rfl ⟨Nat.le_of_ble_eq_true rfl, Nat.le_of_ble_eq_true rfl⟩ hP h35 rfl rfl hl.1 rfl (Nat.le_of_ble_eq_true rfl) dX9_up_2 ⟨Nat.le_of_ble_eq_true rfl, Nat.le_of_ble_eq_true rfl⟩) ?_
  refine zf_ne (tgt := 10) hx hb dX9_up_5 (by decide) (fun c1 => ?_) (fun c1 => ?_)
  · replace hF := (if_pos c1).symm.trans hF
    refine lv_iload_n hx hb dX9_up_10 rfl (lv_at hl 2 rfl) ?_
    refine rd_i (runS (As := [.int p2]) (rest := []) X cq_X9_isWait lk_X9_121 (c_X9_isWait l D cI cJ cZ a ws0 p2 _ rfl ) rfl rfl ⟨Nat.le_of_ble_eq_true rfl, Nat.le_of_ble_eq_true rfl⟩ hP rfl hl.1 rfl (Nat.le_of_ble_eq_true rfl) dX9_up_11 ⟨Nat.le_of_ble_eq_true rfl, Nat.le_of_ble_eq_true rfl⟩) ?_
    refine zf_eq (tgt := 26) hx hb dX9_up_14 (by decide) (fun c2 => ?_) (fun c2 => ?_)
    · replace hF := (if_neg c2).symm.trans hF
      refine lv_bipush (v := (-2 : Int32)) hx hb dX9_up_26 (by decide) ?_
      obtain rfl := Option.some.inj hF
      rw [hQ]
      exact rt_i X dX9_up_28
    · replace hF := (if_pos c2).symm.trans hF
      refine lv_aload_n hx hb dX9_up_17 rfl (lv_at hl 0 rfl) ?_
      refine lv_iload_n hx hb dX9_up_18 rfl (lv_at hl 1 rfl) ?_
      refine lv_iload_n hx hb dX9_up_19 rfl (lv_at hl 2 rfl) ?_
      obtain ⟨x3, hx3, hF⟩ := bd_some hF
      refine rd_i (runV (As := [.int p1, .int p2]) (rest := []) X cq_X9_upOf lk_X9_124 (c_X9_upOf l D cI cJ cZ a ws0 m_readMany m_pupils m_mood m_length m_at m_faultAt m_drawn m_questions m_rights m_wrongs m_tapes m_trials m_pupil m_dares p1 p2 x3 hx3 h35 h37 h38) rfl rfl ⟨Nat.le_of_ble_eq_true rfl, Nat.le_of_ble_eq_true rfl⟩ hP h35 rfl rfl hl.1 rfl (Nat.le_of_ble_eq_true rfl) dX9_up_20 ⟨Nat.le_of_ble_eq_true rfl, Nat.le_of_ble_eq_true rfl⟩) ?_
      refine lv_goto (tgt := 28) hx hb dX9_up_23 (by decide) ?_
      obtain rfl := Option.some.inj hF
      rw [hQ]
      exact rt_i X dX9_up_28
  · replace hF := (if_neg c1).symm.trans hF
    refine lv_iconst (v := (-1 : Int32)) hx hb dX9_up_8 (by decide) ?_
    obtain rfl := Option.some.inj hF
    rw [hQ]
    exact rt_i X dX9_up_9
def FX9_meanOf_S4 (m_pupils : Int32) (m_mood : Int32) (m_pupil : Nat → Int32) (m_dares : Nat → Int32) (p1 : Int32) (x1 : Int32) (x2 : Int32) : Option ((Int32 × Int32) ⊕ (Int32)) :=
  if m_pupils ≤ x2 then (some (.inr x1)) else ((FX9_upOf m_mood m_pupil m_dares x2 p1).bind fun x4 => some (.inl (x1 + x4, x2 + (1 : Int32))))
def FX9_meanOf (m_pupils : Int32) (m_mood : Int32) (m_pupil : Nat → Int32) (m_dares : Nat → Int32) (p1 : Int32) : Option (Int32) :=
  (itr (fun v => FX9_meanOf_S4 m_pupils m_mood m_pupil m_dares p1 v.1 v.2) fu ((0 : Int32), (0 : Int32))).bind fun o5 => some o5
def rm_X9_meanOf : Room := { frames := 1, cells := 0, slots := 0, locals := 24 }
set_option maxHeartbeats 4000000 in
set_option maxRecDepth 100000 in
theorem c_X9_meanOf (l : Launch) (D : va_G) (cI cJ cZ : ClassId) (a : Nat → Nat) (ws0 : va_W)  (m_readMany : Int32) (m_pupils : Int32) (m_mood : Int32) (m_length : Int32) (m_at : Int32) (m_faultAt : Int32) (m_drawn : Int64) (m_questions : Int32) (m_rights : Int32) (m_wrongs : Int32) (m_tapes : Int32) (m_trials : Int32) (m_pupil : Nat → Int32) (m_dares : Nat → Int32) (p1 : Int32) (u : Int32) (hF : FX9_meanOf m_pupils m_mood m_pupil m_dares p1 = some u) (h35 : ws0[35]? = some (a 35, .inr (9, [.ref (a 36), .int m_readMany, .ref (a 37), .int m_pupils, .ref (a 38), .ref (a 39), .int m_mood, .ref (a 40), .int m_length, .int m_at, .int m_faultAt, .ref (a 41), .ref (a 42), .long m_drawn, .int m_questions, .int m_rights, .int m_wrongs, .int m_tapes, .ref (a 43), .ref (a 44), .int m_trials, .ref (a 45), .ref (a 46), .ref (a 47), .ref (a 48), .ref (a 49), .ref (a 50), .ref (a 51)]))) (h37 : ws0[37]? = some (a 37, .inl (cI, 72, .inl m_pupil))) (h38 : ws0[38]? = some (a 38, .inl (cI, 12, .inl m_dares))) : Met l yX9_meanOf (wq yX9_meanOf cX9_meanOf 4 (some .int)) rm_X9_meanOf (Pq [.ref (a 35), .int p1] D cI cJ cZ ws0) (Qq (some (.int u))) 0 0 (fun _ => False) := by
  refine mq_of (by decide) (Nat.le_of_ble_eq_true rfl) (fun p e s m args below meth c ls Q hQ X _ hP hl => ?_)
  obtain ⟨hx, hb, hr, hml, hown, hts, hlk, hK, hN⟩ := id X
  have hown : s.vm.findClass RX9 = some m.cls := hown
  have hl : lv_has ls 4 [(0, .ref (a 35)), (1, .int p1)] := hl
  unfold FX9_meanOf at hF
  refine lv_iconst (v := (0 : Int32)) hx hb dX9_meanOf_0 (by decide) ?_
  refine lv_istore_n (lv' := [(2, .int (0 : Int32)), (0, .ref (a 35)), (1, .int p1)]) hx hb dX9_meanOf_1 rfl hl (by decide) rfl (fun ls hl => ?_)
  refine lv_iconst (v := (0 : Int32)) hx hb dX9_meanOf_2 (by decide) ?_
  refine lv_istore_n (lv' := [(3, .int (0 : Int32)), (2, .int (0 : Int32)), (0, .ref (a 35)), (1, .int p1)]) hx hb dX9_meanOf_3 rfl hl (by decide) rfl (fun ls hl => ?_)
  have hL4 : ∀ (nf : Nat) (x1 : Int32) (x2 : Int32) (r : Int32), itr (fun v => FX9_meanOf_S4 m_pupils m_mood m_pupil m_dares p1 v.1 v.2) nf (x1, x2) = some r → ∀ ls, lv_has ls 4 [(3, .int x2), (2, .int x1), (0, .ref (a 35)), (1, .int p1)] → (∀ o : Int32, r = o → ∀ ls, lv_has ls 4 [(2, .int o)] → W p l e rm_X9_meanOf s m args below meth c s.heap [] 0 0 Q (F0 m 27 ls [])) → W p l e rm_X9_meanOf s m args below meth c s.heap [] 0 0 Q (F0 m 4 ls []) := by
    intro nf
    induction nf with
    | zero => intro _ _ r hF; exact (itr_0 hF).elim
    | succ nf ih =>
      intro x1 x2 r hF ls hl hE
      obtain ⟨wo, hF, hw⟩ := itr_s hF
      replace hF : FX9_meanOf_S4 m_pupils m_mood m_pupil m_dares p1 x1 x2 = some wo := hF
      unfold FX9_meanOf_S4 at hF
      refine lv_iload_n hx hb dX9_meanOf_4 rfl (lv_at hl 0 rfl) ?_
      refine lv_aload_n hx hb dX9_meanOf_5 rfl (lv_at hl 2 rfl) ?_
      refine gf_X9_97 hx hb hts hown hK hP h35 dX9_meanOf_6 ?_
      refine lv_icmp_ge (tgt := 27) hx hb dX9_meanOf_9 (by decide) (fun c3 => ?_) (fun c3 => ?_)
      · replace hF := (if_pos c3).symm.trans hF
        obtain rfl := Option.some.inj hF
        obtain rfl := hw
        exact hE _ rfl ls (lv_sub hl [1] rfl)
      · replace hF := (if_neg c3).symm.trans hF
        refine lv_iload_n hx hb dX9_meanOf_12 rfl (lv_at hl 1 rfl) ?_
        refine lv_aload_n hx hb dX9_meanOf_13 rfl (lv_at hl 2 rfl) ?_
        refine lv_iload_n hx hb dX9_meanOf_14 rfl (lv_at hl 0 rfl) ?_
        refine lv_iload_n hx hb dX9_meanOf_15 rfl (lv_at hl 3 rfl) ?_
        obtain ⟨x4, hx4, hF⟩ := bd_some hF
        refine rd_i (runV (As := [.int x2, .int p1]) (rest := [.int x1]) X cq_X9_upOf lk_X9_124 (c_X9_upOf l D cI cJ cZ a ws0 m_readMany m_pupils m_mood m_length m_at m_faultAt m_drawn m_questions m_rights m_wrongs m_tapes m_trials m_pupil m_dares x2 p1 x4 hx4 h35 h37 h38) rfl rfl ⟨Nat.le_of_ble_eq_true rfl, Nat.le_of_ble_eq_true rfl⟩ hP h35 rfl rfl hl.1 rfl (Nat.le_of_ble_eq_true rfl) dX9_meanOf_16 ⟨Nat.le_of_ble_eq_true rfl, Nat.le_of_ble_eq_true rfl⟩) ?_
        refine lv_iadd hx hb dX9_meanOf_19 ?_
        refine lv_istore_n (lv' := [(2, .int (x1 + x4)), (3, .int x2), (0, .ref (a 35)), (1, .int p1)]) hx hb dX9_meanOf_20 rfl hl (by decide) rfl (fun ls hl => ?_)
        refine lv_iinc (v := x2 + (1 : Int32)) (lv' := [(3, .int (x2 + (1 : Int32))), (2, .int (x1 + x4)), (0, .ref (a 35)), (1, .int p1)]) hx hb dX9_meanOf_21 hl (k := 1) rfl rfl (by decide) rfl (fun ls hl => ?_)
        refine lv_goto (tgt := 4) hx hb dX9_meanOf_24 (by decide) ?_
        obtain rfl := Option.some.inj hF
        exact ih _ _ _ hw ls (lv_sub hl [0, 1, 2, 3] rfl) hE
  obtain ⟨o5, ho5, hF⟩ := bd_some hF
  refine hL4 fu (0 : Int32) (0 : Int32) o5 ho5 ls (lv_sub hl [0, 1, 2, 3] rfl) ?_
  intro _ q_o5 ls hl
  subst q_o5
  refine lv_iload_n hx hb dX9_meanOf_27 rfl (lv_at hl 0 rfl) ?_
  obtain rfl := Option.some.inj hF
  rw [hQ]
  exact rt_i X dX9_meanOf_28
def FX9_mean (m_pupils : Int32) (m_mood : Int32) (m_pupil : Nat → Int32) (m_dares : Nat → Int32) (p1 : Int32) : Option (Int32) :=
  if (FX9_isWait p1) = true then ((FX9_meanOf m_pupils m_mood m_pupil m_dares p1).bind fun x2 => some x2) else (some (-2 : Int32))
def rm_X9_mean : Room := { frames := 2, cells := 0, slots := 0, locals := 47 }
set_option maxHeartbeats 4000000 in
set_option maxRecDepth 100000 in
theorem c_X9_mean (l : Launch) (D : va_G) (cI cJ cZ : ClassId) (a : Nat → Nat) (ws0 : va_W)  (m_readMany : Int32) (m_pupils : Int32) (m_mood : Int32) (m_length : Int32) (m_at : Int32) (m_faultAt : Int32) (m_drawn : Int64) (m_questions : Int32) (m_rights : Int32) (m_wrongs : Int32) (m_tapes : Int32) (m_trials : Int32) (m_pupil : Nat → Int32) (m_dares : Nat → Int32) (p1 : Int32) (u : Int32) (hF : FX9_mean m_pupils m_mood m_pupil m_dares p1 = some u) (h35 : ws0[35]? = some (a 35, .inr (9, [.ref (a 36), .int m_readMany, .ref (a 37), .int m_pupils, .ref (a 38), .ref (a 39), .int m_mood, .ref (a 40), .int m_length, .int m_at, .int m_faultAt, .ref (a 41), .ref (a 42), .long m_drawn, .int m_questions, .int m_rights, .int m_wrongs, .int m_tapes, .ref (a 43), .ref (a 44), .int m_trials, .ref (a 45), .ref (a 46), .ref (a 47), .ref (a 48), .ref (a 49), .ref (a 50), .ref (a 51)]))) (h37 : ws0[37]? = some (a 37, .inl (cI, 72, .inl m_pupil))) (h38 : ws0[38]? = some (a 38, .inl (cI, 12, .inl m_dares))) : Met l yX9_mean (wq yX9_mean cX9_mean 2 (some .int)) rm_X9_mean (Pq [.ref (a 35), .int p1] D cI cJ cZ ws0) (Qq (some (.int u))) 0 0 (fun _ => False) := by
  refine mq_of (by decide) (Nat.le_of_ble_eq_true rfl) (fun p e s m args below meth c ls Q hQ X _ hP hl => ?_)
  obtain ⟨hx, hb, hr, hml, hown, hts, hlk, hK, hN⟩ := id X
  have hown : s.vm.findClass RX9 = some m.cls := hown
  have hl : lv_has ls 2 [(0, .ref (a 35)), (1, .int p1)] := hl
  unfold FX9_mean at hF
  refine lv_iload_n hx hb dX9_mean_0 rfl (lv_at hl 1 rfl) ?_
  refine rd_i (runS (As := [.int p1]) (rest := []) X cq_X9_isWait lk_X9_121 (c_X9_isWait l D cI cJ cZ a ws0 p1 _ rfl ) rfl rfl ⟨Nat.le_of_ble_eq_true rfl, Nat.le_of_ble_eq_true rfl⟩ hP rfl hl.1 rfl (Nat.le_of_ble_eq_true rfl) dX9_mean_1 ⟨Nat.le_of_ble_eq_true rfl, Nat.le_of_ble_eq_true rfl⟩) ?_
  refine zf_eq (tgt := 15) hx hb dX9_mean_4 (by decide) (fun c1 => ?_) (fun c1 => ?_)
  · replace hF := (if_neg c1).symm.trans hF
    refine lv_bipush (v := (-2 : Int32)) hx hb dX9_mean_15 (by decide) ?_
    obtain rfl := Option.some.inj hF
    rw [hQ]
    exact rt_i X dX9_mean_17
  · replace hF := (if_pos c1).symm.trans hF
    refine lv_aload_n hx hb dX9_mean_7 rfl (lv_at hl 0 rfl) ?_
    refine lv_iload_n hx hb dX9_mean_8 rfl (lv_at hl 1 rfl) ?_
    obtain ⟨x2, hx2, hF⟩ := bd_some hF
    refine rd_i (runV (As := [.int p1]) (rest := []) X cq_X9_meanOf lk_X9_128 (c_X9_meanOf l D cI cJ cZ a ws0 m_readMany m_pupils m_mood m_length m_at m_faultAt m_drawn m_questions m_rights m_wrongs m_tapes m_trials m_pupil m_dares p1 x2 hx2 h35 h37 h38) rfl rfl ⟨Nat.le_of_ble_eq_true rfl, Nat.le_of_ble_eq_true rfl⟩ hP h35 rfl rfl hl.1 rfl (Nat.le_of_ble_eq_true rfl) dX9_mean_9 ⟨Nat.le_of_ble_eq_true rfl, Nat.le_of_ble_eq_true rfl⟩) ?_
    refine lv_goto (tgt := 17) hx hb dX9_mean_12 (by decide) ?_
    obtain rfl := Option.some.inj hF
    rw [hQ]
    exact rt_i X dX9_mean_17
def FX9_quiet_J93L14 (x14 : Int32) (x15 : Int32) (x16 : Int32) : Option ((Int32 × Int32) ⊕ (Int32)) :=
  some (.inl (x15 + x16, x14 + (1 : Int32)))
def FX9_quiet_J70L14 (m_pupil : Nat → Int32) (x9 : Int32) (x10 : Int32) (x11 : Int32) : Option ((Int32 × Int32) ⊕ (Int32)) :=
  if x11 = 0 then (if (((6 : Int32) * x9) + (2 : Int32)) < 0 ∨ 72 ≤ (((6 : Int32) * x9) + (2 : Int32)).toNatClampNeg then none else FX9_quiet_J93L14 x9 x10 (m_pupil (((6 : Int32) * x9) + (2 : Int32)).toNatClampNeg)) else (FX9_quiet_J93L14 x9 x10 (0 : Int32))
def FX9_quiet_J69L14 (m_pupil : Nat → Int32) (x7 : Int32) (x8 : Int32) : Option ((Int32 × Int32) ⊕ (Int32)) :=
  FX9_quiet_J70L14 m_pupil x7 x8 (0 : Int32)
def FX9_quiet_J65L14 (m_pupil : Nat → Int32) (x19 : Int32) (x20 : Int32) : Option ((Int32 × Int32) ⊕ (Int32)) :=
  FX9_quiet_J70L14 m_pupil x19 x20 (1 : Int32)
def FX9_quiet_S14 (m_pupils : Int32) (m_mood : Int32) (m_dares : Nat → Int32) (m_pupil : Nat → Int32) (p1 : Int32) (x2 : Int32) (x3 : Int32) : Option ((Int32 × Int32) ⊕ (Int32)) :=
  if m_pupils ≤ x3 then (some (.inr x2)) else (if x3 < 0 ∨ 12 ≤ x3.toNatClampNeg then none else if (m_dares x3.toNatClampNeg) < m_mood then (FX9_quiet_J69L14 m_pupil x3 x2) else (if (((6 : Int32) * x3) + (5 : Int32)) < 0 ∨ 72 ≤ (((6 : Int32) * x3) + (5 : Int32)).toNatClampNeg then none else if (m_pupil (((6 : Int32) * x3) + (5 : Int32)).toNatClampNeg) = (1 : Int32) then (FX9_quiet_J65L14 m_pupil x3 x2) else (if (((6 : Int32) * x3) + (3 : Int32)) < 0 ∨ 72 ≤ (((6 : Int32) * x3) + (3 : Int32)).toNatClampNeg then none else if p1 < (m_pupil (((6 : Int32) * x3) + (3 : Int32)).toNatClampNeg) then (FX9_quiet_J69L14 m_pupil x3 x2) else (FX9_quiet_J65L14 m_pupil x3 x2))))
def FX9_quiet (m_pupils : Int32) (m_mood : Int32) (m_dares : Nat → Int32) (m_pupil : Nat → Int32) (p1 : Int32) : Option (Int32) :=
  if (FX9_isWait p1) = true then ((itr (fun v => FX9_quiet_S14 m_pupils m_mood m_dares m_pupil p1 v.1 v.2) fu ((0 : Int32), (0 : Int32))).bind fun o23 => some o23) else (some (-2 : Int32))
def rm_X9_quiet : Room := { frames := 2, cells := 0, slots := 0, locals := 45 }
set_option maxHeartbeats 4000000 in
set_option maxRecDepth 100000 in
theorem c_X9_quiet (l : Launch) (D : va_G) (cI cJ cZ : ClassId) (a : Nat → Nat) (ws0 : va_W)  (m_readMany : Int32) (m_pupils : Int32) (m_mood : Int32) (m_length : Int32) (m_at : Int32) (m_faultAt : Int32) (m_drawn : Int64) (m_questions : Int32) (m_rights : Int32) (m_wrongs : Int32) (m_tapes : Int32) (m_trials : Int32) (m_dares : Nat → Int32) (m_pupil : Nat → Int32) (p1 : Int32) (u : Int32) (hF : FX9_quiet m_pupils m_mood m_dares m_pupil p1 = some u) (h35 : ws0[35]? = some (a 35, .inr (9, [.ref (a 36), .int m_readMany, .ref (a 37), .int m_pupils, .ref (a 38), .ref (a 39), .int m_mood, .ref (a 40), .int m_length, .int m_at, .int m_faultAt, .ref (a 41), .ref (a 42), .long m_drawn, .int m_questions, .int m_rights, .int m_wrongs, .int m_tapes, .ref (a 43), .ref (a 44), .int m_trials, .ref (a 45), .ref (a 46), .ref (a 47), .ref (a 48), .ref (a 49), .ref (a 50), .ref (a 51)]))) (h37 : ws0[37]? = some (a 37, .inl (cI, 72, .inl m_pupil))) (h38 : ws0[38]? = some (a 38, .inl (cI, 12, .inl m_dares))) : Met l yX9_quiet (wq yX9_quiet cX9_quiet 5 (some .int)) rm_X9_quiet (Pq [.ref (a 35), .int p1] D cI cJ cZ ws0) (Qq (some (.int u))) 0 0 (fun _ => False) := by
  refine mq_of (by decide) (Nat.le_of_ble_eq_true rfl) (fun p e s m args below meth c ls Q hQ X _ hP hl => ?_)
  obtain ⟨hx, hb, hr, hml, hown, hts, hlk, hK, hN⟩ := id X
  have hown : s.vm.findClass RX9 = some m.cls := hown
  have hl : lv_has ls 5 [(0, .ref (a 35)), (1, .int p1)] := hl
  unfold FX9_quiet at hF
  refine lv_iload_n hx hb dX9_quiet_0 rfl (lv_at hl 1 rfl) ?_
  refine rd_i (runS (As := [.int p1]) (rest := []) X cq_X9_isWait lk_X9_121 (c_X9_isWait l D cI cJ cZ a ws0 p1 _ rfl ) rfl rfl ⟨Nat.le_of_ble_eq_true rfl, Nat.le_of_ble_eq_true rfl⟩ hP rfl hl.1 rfl (Nat.le_of_ble_eq_true rfl) dX9_quiet_1 ⟨Nat.le_of_ble_eq_true rfl, Nat.le_of_ble_eq_true rfl⟩) ?_
  refine zf_ne (tgt := 10) hx hb dX9_quiet_4 (by decide) (fun c1 => ?_) (fun c1 => ?_)
  · replace hF := (if_pos c1).symm.trans hF
    refine lv_iconst (v := (0 : Int32)) hx hb dX9_quiet_10 (by decide) ?_
    refine lv_istore_n (lv' := [(2, .int (0 : Int32)), (0, .ref (a 35)), (1, .int p1)]) hx hb dX9_quiet_11 rfl hl (by decide) rfl (fun ls hl => ?_)
    refine lv_iconst (v := (0 : Int32)) hx hb dX9_quiet_12 (by decide) ?_
    refine lv_istore_n (lv' := [(3, .int (0 : Int32)), (2, .int (0 : Int32)), (0, .ref (a 35)), (1, .int p1)]) hx hb dX9_quiet_13 rfl hl (by decide) rfl (fun ls hl => ?_)
    have hL14 : ∀ (nf : Nat) (x2 : Int32) (x3 : Int32) (r : Int32), itr (fun v => FX9_quiet_S14 m_pupils m_mood m_dares m_pupil p1 v.1 v.2) nf (x2, x3) = some r → ∀ ls, lv_has ls 5 [(3, .int x3), (2, .int x2), (0, .ref (a 35)), (1, .int p1)] → (∀ o : Int32, r = o → ∀ ls, lv_has ls 5 [(2, .int o)] → W p l e rm_X9_quiet s m args below meth c s.heap [] 0 0 Q (F0 m 101 ls [])) → W p l e rm_X9_quiet s m args below meth c s.heap [] 0 0 Q (F0 m 14 ls []) := by
      intro nf
      induction nf with
      | zero => intro _ _ r hF; exact (itr_0 hF).elim
      | succ nf ih =>
        intro x2 x3 r hF ls hl hE
        obtain ⟨wo, hF, hw⟩ := itr_s hF
        replace hF : FX9_quiet_S14 m_pupils m_mood m_dares m_pupil p1 x2 x3 = some wo := hF
        have hJ93 : ∀ (x14 : Int32) (x15 : Int32) (x16 : Int32), ∀ ls, lv_has ls 5 [(3, .int x14), (0, .ref (a 35)), (1, .int p1)] → FX9_quiet_J93L14 x14 x15 x16 = some wo → W p l e rm_X9_quiet s m args below meth c s.heap [] 0 0 Q (F0 m 93 ls [.int x16, .int x15]) := by
          intro x14 x15 x16 ls hl hF
          unfold FX9_quiet_J93L14 at hF
          refine lv_iadd hx hb dX9_quiet_93 ?_
          refine lv_istore_n (lv' := [(2, .int (x15 + x16)), (3, .int x14), (0, .ref (a 35)), (1, .int p1)]) hx hb dX9_quiet_94 rfl hl (by decide) rfl (fun ls hl => ?_)
          refine lv_iinc (v := x14 + (1 : Int32)) (lv' := [(3, .int (x14 + (1 : Int32))), (2, .int (x15 + x16)), (0, .ref (a 35)), (1, .int p1)]) hx hb dX9_quiet_95 hl (k := 1) rfl rfl (by decide) rfl (fun ls hl => ?_)
          refine lv_goto (tgt := 14) hx hb dX9_quiet_98 (by decide) ?_
          obtain rfl := Option.some.inj hF
          exact ih _ _ _ hw ls (lv_sub hl [0, 1, 2, 3] rfl) hE
        have hJ70 : ∀ (x9 : Int32) (x10 : Int32) (x11 : Int32), ∀ ls, lv_has ls 5 [(3, .int x9), (2, .int x10), (0, .ref (a 35)), (1, .int p1)] → FX9_quiet_J70L14 m_pupil x9 x10 x11 = some wo → W p l e rm_X9_quiet s m args below meth c s.heap [] 0 0 Q (F0 m 70 ls [.int x11]) := by
          intro x9 x10 x11 ls hl hF
          unfold FX9_quiet_J70L14 at hF
          refine lv_istore (lv' := [(4, .int x11), (3, .int x9), (2, .int x10), (0, .ref (a 35)), (1, .int p1)]) hx hb dX9_quiet_70 hl (by decide) rfl (fun ls hl => ?_)
          refine lv_iload_n hx hb dX9_quiet_72 rfl (lv_at hl 2 rfl) ?_
          refine lv_iload hx hb dX9_quiet_73 (lv_at hl 0 rfl) ?_
          refine lv_if_eq (tgt := 82) hx hb dX9_quiet_75 (by decide) (fun c12 => ?_) (fun c12 => ?_)
          · replace hF := (if_pos c12).symm.trans hF
            refine lv_aload_n hx hb dX9_quiet_82 rfl (lv_at hl 3 rfl) ?_
            refine gf_X9_13 hx hb hts hown hK hP h35 dX9_quiet_83 ?_
            refine lv_bipush (v := (6 : Int32)) hx hb dX9_quiet_86 (by decide) ?_
            refine lv_iload_n hx hb dX9_quiet_88 rfl (lv_at hl 1 rfl) ?_
            refine lv_imul hx hb dX9_quiet_89 ?_
            refine lv_iconst (v := (2 : Int32)) hx hb dX9_quiet_90 (by decide) ?_
            refine lv_iadd hx hb dX9_quiet_91 ?_
            obtain ⟨hg13, hF⟩ := gd_some hF
            refine va_iald hx hb hK hP 37 0 h37 rfl hg13 dX9_quiet_92 ?_
            exact hJ93 x9 x10 (m_pupil (((6 : Int32) * x9) + (2 : Int32)).toNatClampNeg) ls (lv_sub hl [1, 3, 4] rfl) hF
          · replace hF := (if_neg c12).symm.trans hF
            refine lv_iconst (v := (0 : Int32)) hx hb dX9_quiet_78 (by decide) ?_
            refine lv_goto (tgt := 93) hx hb dX9_quiet_79 (by decide) ?_
            exact hJ93 x9 x10 (0 : Int32) ls (lv_sub hl [1, 3, 4] rfl) hF
        have hJ69 : ∀ (x7 : Int32) (x8 : Int32), ∀ ls, lv_has ls 5 [(3, .int x7), (2, .int x8), (0, .ref (a 35)), (1, .int p1)] → FX9_quiet_J69L14 m_pupil x7 x8 = some wo → W p l e rm_X9_quiet s m args below meth c s.heap [] 0 0 Q (F0 m 69 ls []) := by
          intro x7 x8 ls hl hF
          unfold FX9_quiet_J69L14 at hF
          refine lv_iconst (v := (0 : Int32)) hx hb dX9_quiet_69 (by decide) ?_
          exact hJ70 x7 x8 (0 : Int32) ls (lv_sub hl [0, 1, 2, 3] rfl) hF
        have hJ65 : ∀ (x19 : Int32) (x20 : Int32), ∀ ls, lv_has ls 5 [(3, .int x19), (2, .int x20), (0, .ref (a 35)), (1, .int p1)] → FX9_quiet_J65L14 m_pupil x19 x20 = some wo → W p l e rm_X9_quiet s m args below meth c s.heap [] 0 0 Q (F0 m 65 ls []) := by
          intro x19 x20 ls hl hF
          unfold FX9_quiet_J65L14 at hF
          refine lv_iconst (v := (1 : Int32)) hx hb dX9_quiet_65 (by decide) ?_
          refine lv_goto (tgt := 70) hx hb dX9_quiet_66 (by decide) ?_
          exact hJ70 x19 x20 (1 : Int32) ls (lv_sub hl [0, 1, 2, 3] rfl) hF
        unfold FX9_quiet_S14 at hF
        refine lv_iload_n hx hb dX9_quiet_14 rfl (lv_at hl 0 rfl) ?_
        refine lv_aload_n hx hb dX9_quiet_15 rfl (lv_at hl 2 rfl) ?_
        refine gf_X9_97 hx hb hts hown hK hP h35 dX9_quiet_16 ?_
        refine lv_icmp_ge (tgt := 101) hx hb dX9_quiet_19 (by decide) (fun c4 => ?_) (fun c4 => ?_)
        · replace hF := (if_pos c4).symm.trans hF
          obtain rfl := Option.some.inj hF
          obtain rfl := hw
          exact hE _ rfl ls (lv_sub hl [1] rfl)
        · replace hF := (if_neg c4).symm.trans hF
          refine lv_aload_n hx hb dX9_quiet_22 rfl (lv_at hl 2 rfl) ?_
          refine gf_X9_16 hx hb hts hown hK hP h35 dX9_quiet_23 ?_
          refine lv_iload_n hx hb dX9_quiet_26 rfl (lv_at hl 0 rfl) ?_
          obtain ⟨hg5, hF⟩ := gd_some hF
          refine va_iald hx hb hK hP 38 0 h38 rfl hg5 dX9_quiet_27 ?_
          refine lv_aload_n hx hb dX9_quiet_28 rfl (lv_at hl 2 rfl) ?_
          refine gf_X9_60 hx hb hts hown hK hP h35 dX9_quiet_29 ?_
          refine lv_icmp_lt (tgt := 69) hx hb dX9_quiet_32 (by decide) (fun c6 => ?_) (fun c6 => ?_)
          · replace hF := (if_pos c6).symm.trans hF
            exact hJ69 x3 x2 ls (lv_sub hl [0, 1, 2, 3] rfl) hF
          · replace hF := (if_neg c6).symm.trans hF
            refine lv_aload_n hx hb dX9_quiet_35 rfl (lv_at hl 2 rfl) ?_
            refine gf_X9_13 hx hb hts hown hK hP h35 dX9_quiet_36 ?_
            refine lv_bipush (v := (6 : Int32)) hx hb dX9_quiet_39 (by decide) ?_
            refine lv_iload_n hx hb dX9_quiet_41 rfl (lv_at hl 0 rfl) ?_
            refine lv_imul hx hb dX9_quiet_42 ?_
            refine lv_iconst (v := (5 : Int32)) hx hb dX9_quiet_43 (by decide) ?_
            refine lv_iadd hx hb dX9_quiet_44 ?_
            obtain ⟨hg17, hF⟩ := gd_some hF
            refine va_iald hx hb hK hP 37 0 h37 rfl hg17 dX9_quiet_45 ?_
            refine lv_iconst (v := (1 : Int32)) hx hb dX9_quiet_46 (by decide) ?_
            refine lv_icmp_eq (tgt := 65) hx hb dX9_quiet_47 (by decide) (fun c18 => ?_) (fun c18 => ?_)
            · replace hF := (if_pos c18).symm.trans hF
              exact hJ65 x3 x2 ls (lv_sub hl [0, 1, 2, 3] rfl) hF
            · replace hF := (if_neg c18).symm.trans hF
              refine lv_aload_n hx hb dX9_quiet_50 rfl (lv_at hl 2 rfl) ?_
              refine gf_X9_13 hx hb hts hown hK hP h35 dX9_quiet_51 ?_
              refine lv_bipush (v := (6 : Int32)) hx hb dX9_quiet_54 (by decide) ?_
              refine lv_iload_n hx hb dX9_quiet_56 rfl (lv_at hl 0 rfl) ?_
              refine lv_imul hx hb dX9_quiet_57 ?_
              refine lv_iconst (v := (3 : Int32)) hx hb dX9_quiet_58 (by decide) ?_
              refine lv_iadd hx hb dX9_quiet_59 ?_
              obtain ⟨hg21, hF⟩ := gd_some hF
              refine va_iald hx hb hK hP 37 0 h37 rfl hg21 dX9_quiet_60 ?_
              refine lv_iload_n hx hb dX9_quiet_61 rfl (lv_at hl 3 rfl) ?_
              refine lv_icmp_gt (tgt := 69) hx hb dX9_quiet_62 (by decide) (fun c22 => ?_) (fun c22 => ?_)
              · replace hF := (if_pos c22).symm.trans hF
                exact hJ69 x3 x2 ls (lv_sub hl [0, 1, 2, 3] rfl) hF
              · replace hF := (if_neg c22).symm.trans hF
                exact hJ65 x3 x2 ls (lv_sub hl [0, 1, 2, 3] rfl) hF
    obtain ⟨o23, ho23, hF⟩ := bd_some hF
    refine hL14 fu (0 : Int32) (0 : Int32) o23 ho23 ls (lv_sub hl [0, 1, 2, 3] rfl) ?_
    intro _ q_o23 ls hl
    subst q_o23
    refine lv_iload_n hx hb dX9_quiet_101 rfl (lv_at hl 0 rfl) ?_
    obtain rfl := Option.some.inj hF
    rw [hQ]
    exact rt_i X dX9_quiet_102
  · replace hF := (if_neg c1).symm.trans hF
    refine lv_bipush (v := (-2 : Int32)) hx hb dX9_quiet_7 (by decide) ?_
    obtain rfl := Option.some.inj hF
    rw [hQ]
    exact rt_i X dX9_quiet_9
def FX9_part_S6 (x1 : Int64) (x2 : Int64) : Option ((Int64 × Int64) ⊕ (Int64)) :=
  if x2 = (0 : Int64) then (some (.inr x1)) else (if x2 = 0 then none else some (.inl (x2, x1 - x1 / x2 * x2)))
def FX9_part (p1 : Int64) (p2 : Int64) (p3 : Int32) : Option (Int64) :=
  (itr (fun v => FX9_part_S6 v.1 v.2) fu (p1, p2)).bind fun o5 => if p3 = 0 then (if o5 = 0 then none else some (p2 / o5)) else (if o5 = 0 then none else some (p1 / o5))
def rm_X9_part : Room := { frames := 0, cells := 0, slots := 0, locals := 0 }
set_option maxHeartbeats 4000000 in
set_option maxRecDepth 100000 in
theorem c_X9_part (l : Launch) (D : va_G) (cI cJ cZ : ClassId) (a : Nat → Nat) (ws0 : va_W)   (p1 : Int64) (p2 : Int64) (p3 : Int32) (u : Int64) (hF : FX9_part p1 p2 p3 = some u) : Met l yX9_part (wq yX9_part cX9_part 11 (some .long)) rm_X9_part (Pq [.long p1, .long p2, .int p3] D cI cJ cZ ws0) (Qq (some (.long u))) 0 0 (fun _ => False) := by
  refine mq_of (by decide) (Nat.le_of_ble_eq_true rfl) (fun p e s m args below meth c ls Q hQ X _ hP hl => ?_)
  obtain ⟨hx, hb, hr, hml, hown, hts, hlk, hK, hN⟩ := id X
  have hown : s.vm.findClass RX9 = some m.cls := hown
  have hl : lv_has ls 11 [(0, .long p1), (2, .long p2), (4, .int p3)] := hl
  unfold FX9_part at hF
  refine lv_lload_n hx hb dX9_part_0 rfl (lv_at hl 0 rfl) ?_
  refine lv_lstore (lv' := [(5, .long p1), (0, .long p1), (2, .long p2), (4, .int p3)]) hx hb dX9_part_1 hl (by decide) rfl (fun ls hl => ?_)
  refine lv_lload_n hx hb dX9_part_3 rfl (lv_at hl 2 rfl) ?_
  refine lv_lstore (lv' := [(7, .long p2), (5, .long p1), (0, .long p1), (2, .long p2), (4, .int p3)]) hx hb dX9_part_4 hl (by decide) rfl (fun ls hl => ?_)
  have hL6 : ∀ (nf : Nat) (x1 : Int64) (x2 : Int64) (r : Int64), itr (fun v => FX9_part_S6 v.1 v.2) nf (x1, x2) = some r → ∀ ls, lv_has ls 11 [(7, .long x2), (5, .long x1), (0, .long p1), (2, .long p2), (4, .int p3)] → (∀ o : Int64, r = o → ∀ ls, lv_has ls 11 [(5, .long o), (0, .long p1), (2, .long p2), (4, .int p3)] → W p l e rm_X9_part s m args below meth c s.heap [] 0 0 Q (F0 m 31 ls [])) → W p l e rm_X9_part s m args below meth c s.heap [] 0 0 Q (F0 m 6 ls []) := by
    intro nf
    induction nf with
    | zero => intro _ _ r hF; exact (itr_0 hF).elim
    | succ nf ih =>
      intro x1 x2 r hF ls hl hE
      obtain ⟨wo, hF, hw⟩ := itr_s hF
      replace hF : FX9_part_S6 x1 x2 = some wo := hF
      unfold FX9_part_S6 at hF
      refine lv_lload hx hb dX9_part_6 (lv_at hl 0 rfl) ?_
      refine lv_lconst (v := (0 : Int64)) hx hb dX9_part_8 (by decide) ?_
      refine W.lcmp hx hb dX9_part_9 ?_
      refine lv_if_eq (tgt := 31) hx hb dX9_part_10 (by decide) (fun c3 => ?_) (fun c3 => ?_)
      · replace c3 := (lc_eq x2 (0 : Int64)).mp c3
        replace hF := (if_pos c3).symm.trans hF
        obtain rfl := Option.some.inj hF
        obtain rfl := hw
        exact hE _ rfl ls (lv_sub hl [1, 2, 3, 4] rfl)
      · replace c3 := fun q => c3 ((lc_eq x2 (0 : Int64)).mpr q)
        replace hF := (if_neg c3).symm.trans hF
        refine lv_lload hx hb dX9_part_13 (lv_at hl 1 rfl) ?_
        refine lv_lload hx hb dX9_part_15 (lv_at hl 0 rfl) ?_
        obtain ⟨hg4, hF⟩ := gd_some hF
        refine lv_lrem hx hb dX9_part_17 hg4 ?_
        refine lv_lstore (lv' := [(9, .long (x1 - x1 / x2 * x2)), (7, .long x2), (5, .long x1), (0, .long p1), (2, .long p2), (4, .int p3)]) hx hb dX9_part_18 hl (by decide) rfl (fun ls hl => ?_)
        refine lv_lload hx hb dX9_part_20 (lv_at hl 1 rfl) ?_
        refine lv_lstore (lv' := [(5, .long x2), (9, .long (x1 - x1 / x2 * x2)), (7, .long x2), (0, .long p1), (2, .long p2), (4, .int p3)]) hx hb dX9_part_22 hl (by decide) rfl (fun ls hl => ?_)
        refine lv_lload hx hb dX9_part_24 (lv_at hl 1 rfl) ?_
        refine lv_lstore (lv' := [(7, .long (x1 - x1 / x2 * x2)), (5, .long x2), (9, .long (x1 - x1 / x2 * x2)), (0, .long p1), (2, .long p2), (4, .int p3)]) hx hb dX9_part_26 hl (by decide) rfl (fun ls hl => ?_)
        refine lv_goto (tgt := 6) hx hb dX9_part_28 (by decide) ?_
        obtain rfl := Option.some.inj hF
        exact ih _ _ _ hw ls (lv_sub hl [0, 1, 3, 4, 5] rfl) hE
  obtain ⟨o5, ho5, hF⟩ := bd_some hF
  refine hL6 fu p1 p2 o5 ho5 ls (lv_sub hl [0, 1, 2, 3, 4] rfl) ?_
  intro _ q_o5 ls hl
  subst q_o5
  refine lv_iload hx hb dX9_part_31 (lv_at hl 3 rfl) ?_
  refine lv_if_eq (tgt := 43) hx hb dX9_part_33 (by decide) (fun c6 => ?_) (fun c6 => ?_)
  · replace hF := (if_pos c6).symm.trans hF
    refine lv_lload_n hx hb dX9_part_43 rfl (lv_at hl 2 rfl) ?_
    refine lv_lload hx hb dX9_part_44 (lv_at hl 0 rfl) ?_
    obtain ⟨hg7, hF⟩ := gd_some hF
    refine lv_ldiv hx hb dX9_part_46 hg7 ?_
    obtain rfl := Option.some.inj hF
    rw [hQ]
    exact rt_l X dX9_part_47
  · replace hF := (if_neg c6).symm.trans hF
    refine lv_lload_n hx hb dX9_part_36 rfl (lv_at hl 1 rfl) ?_
    refine lv_lload hx hb dX9_part_37 (lv_at hl 0 rfl) ?_
    obtain ⟨hg8, hF⟩ := gd_some hF
    refine lv_ldiv hx hb dX9_part_39 hg8 ?_
    refine lv_goto (tgt := 47) hx hb dX9_part_40 (by decide) ?_
    obtain rfl := Option.some.inj hF
    rw [hQ]
    exact rt_l X dX9_part_47
def FX9_whole_S4 (m_pupils : Int32) (x1 : Int64) (x2 : Int32) : Option ((Int64 × Int32) ⊕ (Int64)) :=
  if m_pupils ≤ x2 then (some (.inr x1)) else (some (.inl (x1 * (10 : Int64), x2 + (1 : Int32))))
def FX9_whole (m_pupils : Int32) : Option (Int64) :=
  (itr (fun v => FX9_whole_S4 m_pupils v.1 v.2) fu ((1 : Int64), (0 : Int32))).bind fun o4 => some o4
def rm_X9_whole : Room := { frames := 0, cells := 0, slots := 0, locals := 0 }
set_option maxHeartbeats 4000000 in
set_option maxRecDepth 100000 in
theorem c_X9_whole (l : Launch) (D : va_G) (cI cJ cZ : ClassId) (a : Nat → Nat) (ws0 : va_W)  (m_readMany : Int32) (m_pupils : Int32) (m_mood : Int32) (m_length : Int32) (m_at : Int32) (m_faultAt : Int32) (m_drawn : Int64) (m_questions : Int32) (m_rights : Int32) (m_wrongs : Int32) (m_tapes : Int32) (m_trials : Int32)  (u : Int64) (hF : FX9_whole m_pupils = some u) (h35 : ws0[35]? = some (a 35, .inr (9, [.ref (a 36), .int m_readMany, .ref (a 37), .int m_pupils, .ref (a 38), .ref (a 39), .int m_mood, .ref (a 40), .int m_length, .int m_at, .int m_faultAt, .ref (a 41), .ref (a 42), .long m_drawn, .int m_questions, .int m_rights, .int m_wrongs, .int m_tapes, .ref (a 43), .ref (a 44), .int m_trials, .ref (a 45), .ref (a 46), .ref (a 47), .ref (a 48), .ref (a 49), .ref (a 50), .ref (a 51)]))) : Met l yX9_whole (wq yX9_whole cX9_whole 4 (some .long)) rm_X9_whole (Pq [.ref (a 35)] D cI cJ cZ ws0) (Qq (some (.long u))) 0 0 (fun _ => False) := by
  refine mq_of (by decide) (Nat.le_of_ble_eq_true rfl) (fun p e s m args below meth c ls Q hQ X _ hP hl => ?_)
  obtain ⟨hx, hb, hr, hml, hown, hts, hlk, hK, hN⟩ := id X
  have hown : s.vm.findClass RX9 = some m.cls := hown
  have hl : lv_has ls 4 [(0, .ref (a 35))] := hl
  unfold FX9_whole at hF
  refine lv_lconst (v := (1 : Int64)) hx hb dX9_whole_0 (by decide) ?_
  refine lv_lstore_n (lv' := [(1, .long (1 : Int64)), (0, .ref (a 35))]) hx hb dX9_whole_1 rfl hl (by decide) rfl (fun ls hl => ?_)
  refine lv_iconst (v := (0 : Int32)) hx hb dX9_whole_2 (by decide) ?_
  refine lv_istore_n (lv' := [(3, .int (0 : Int32)), (1, .long (1 : Int64)), (0, .ref (a 35))]) hx hb dX9_whole_3 rfl hl (by decide) rfl (fun ls hl => ?_)
  have hL4 : ∀ (nf : Nat) (x1 : Int64) (x2 : Int32) (r : Int64), itr (fun v => FX9_whole_S4 m_pupils v.1 v.2) nf (x1, x2) = some r → ∀ ls, lv_has ls 4 [(3, .int x2), (1, .long x1), (0, .ref (a 35))] → (∀ o : Int64, r = o → ∀ ls, lv_has ls 4 [(1, .long o)] → W p l e rm_X9_whole s m args below meth c s.heap [] 0 0 Q (F0 m 24 ls [])) → W p l e rm_X9_whole s m args below meth c s.heap [] 0 0 Q (F0 m 4 ls []) := by
    intro nf
    induction nf with
    | zero => intro _ _ r hF; exact (itr_0 hF).elim
    | succ nf ih =>
      intro x1 x2 r hF ls hl hE
      obtain ⟨wo, hF, hw⟩ := itr_s hF
      replace hF : FX9_whole_S4 m_pupils x1 x2 = some wo := hF
      unfold FX9_whole_S4 at hF
      refine lv_iload_n hx hb dX9_whole_4 rfl (lv_at hl 0 rfl) ?_
      refine lv_aload_n hx hb dX9_whole_5 rfl (lv_at hl 2 rfl) ?_
      refine gf_X9_97 hx hb hts hown hK hP h35 dX9_whole_6 ?_
      refine lv_icmp_ge (tgt := 24) hx hb dX9_whole_9 (by decide) (fun c3 => ?_) (fun c3 => ?_)
      · replace hF := (if_pos c3).symm.trans hF
        obtain rfl := Option.some.inj hF
        obtain rfl := hw
        exact hE _ rfl ls (lv_sub hl [1] rfl)
      · replace hF := (if_neg c3).symm.trans hF
        refine lv_lload_n hx hb dX9_whole_12 rfl (lv_at hl 1 rfl) ?_
        refine lv_ldc2 (v := (10 : Int64)) hx hb hown (hts _ kl_X9_131) dX9_whole_13 ?_
        refine lv_lmul hx hb dX9_whole_16 ?_
        refine lv_lstore_n (lv' := [(1, .long (x1 * (10 : Int64))), (3, .int x2), (0, .ref (a 35))]) hx hb dX9_whole_17 rfl hl (by decide) rfl (fun ls hl => ?_)
        refine lv_iinc (v := x2 + (1 : Int32)) (lv' := [(3, .int (x2 + (1 : Int32))), (1, .long (x1 * (10 : Int64))), (0, .ref (a 35))]) hx hb dX9_whole_18 hl (k := 1) rfl rfl (by decide) rfl (fun ls hl => ?_)
        refine lv_goto (tgt := 4) hx hb dX9_whole_21 (by decide) ?_
        obtain rfl := Option.some.inj hF
        exact ih _ _ _ hw ls (lv_sub hl [0, 1, 2] rfl) hE
  obtain ⟨o4, ho4, hF⟩ := bd_some hF
  refine hL4 fu (1 : Int64) (0 : Int32) o4 ho4 ls (lv_sub hl [0, 1, 2] rfl) ?_
  intro _ q_o4 ls hl
  subst q_o4
  refine lv_lload_n hx hb dX9_whole_24 rfl (lv_at hl 0 rfl) ?_
  obtain rfl := Option.some.inj hF
  rw [hQ]
  exact rt_l X dX9_whole_25
def FX9_layJoint_S2 (x1 : Int32) (x2 : Nat → Int64) : Option ((Int32 × (Nat → Int64)) ⊕ ((Nat → Int64))) :=
  if (169 : Int32) ≤ x1 then (some (.inr x2)) else (if x1 < 0 ∨ 169 ≤ x1.toNatClampNeg then none else some (.inl (x1 + (1 : Int32), vp_updL x2 x1.toNatClampNeg (0 : Int64))))
def FX9_layJoint_J236L149 (x56 : Int32) (x57 : Int32) (x58 : Int64) (x59 : Int64) (x60 : Nat → Int64) : Option ((Int32 × (Nat → Int64)) ⊕ ((Nat → Int64))) :=
  if x57 < 0 ∨ 169 ≤ x57.toNatClampNeg then none else some (.inl (x56 + (-1 : Int32), vp_updL x60 x57.toNatClampNeg (x58 + x59)))
def FX9_layJoint_J202L149 (x42 : Int32) (x43 : Int32) (x52 : Int32) (x53 : Int64) (x54 : Nat → Int64) : Option ((Int32 × (Nat → Int64)) ⊕ ((Nat → Int64))) :=
  if x52 < x42 then (FX9_layJoint_J236L149 x52 x52 x53 (0 : Int64) x54) else (if (x52 - x42) < 0 ∨ 169 ≤ (x52 - x42).toNatClampNeg then none else FX9_layJoint_J236L149 x52 x52 x53 ((x54 (x52 - x42).toNatClampNeg) * x43.toInt64) x54)
def FX9_layJoint_S149 (x42 : Int32) (x43 : Int32) (x45 : Int32) (x47 : Int32) (x48 : Nat → Int64) : Option ((Int32 × (Nat → Int64)) ⊕ ((Nat → Int64))) :=
  if x47 < 0 then (some (.inr x48)) else (if x45 = 0 then (if x47 < 0 ∨ 169 ≤ x47.toNatClampNeg then none else FX9_layJoint_J202L149 x42 x43 x47 ((x48 x47.toNatClampNeg) * (((10 : Int32) - x43).toInt64)) x48) else (if x47 < x45 then (FX9_layJoint_J202L149 x42 x43 x47 (0 : Int64) x48) else (if (x47 - x45) < 0 ∨ 169 ≤ (x47 - x45).toNatClampNeg then none else FX9_layJoint_J202L149 x42 x43 x47 ((x48 (x47 - x45).toNatClampNeg) * (((10 : Int32) - x43).toInt64)) x48)))
def FX9_layJoint_J142L31 (x42 : Int32) (x43 : Int32) (x44 : Int32) (x45 : Int32) (x46 : Nat → Int64) : Option ((Int32 × (Nat → Int64)) ⊕ ((Nat → Int64))) :=
  (itr (fun v => FX9_layJoint_S149 x42 x43 x45 v.1 v.2) fu ((168 : Int32), x46)).bind fun o66 => some (.inl (x44 + (1 : Int32), o66))
def FX9_layJoint_J141L31 (x38 : Int32) (x39 : Int32) (x40 : Int32) (x41 : Nat → Int64) : Option ((Int32 × (Nat → Int64)) ⊕ ((Nat → Int64))) :=
  FX9_layJoint_J142L31 x38 x39 x40 (0 : Int32) x41
def FX9_layJoint_J124L31 (x31 : Int32) (x32 : Int32) (x33 : Int32) (x34 : Int32) (x35 : Int32) (x36 : Nat → Int64) : Option ((Int32 × (Nat → Int64)) ⊕ ((Nat → Int64))) :=
  if x31 = 0 then (FX9_layJoint_J141L31 x35 x33 x34 x36) else (if x32 = 0 then (FX9_layJoint_J141L31 x35 x33 x34 x36) else (FX9_layJoint_J142L31 x35 x33 x34 (13 : Int32) x36))
def FX9_layJoint_J111L31 (x25 : Int32) (x26 : Int32) (x27 : Int32) (x28 : Int32) (x29 : Nat → Int64) : Option ((Int32 × (Nat → Int64)) ⊕ ((Nat → Int64))) :=
  if x28 = 0 then (FX9_layJoint_J124L31 x28 x25 x26 x27 (1 : Int32) x29) else (FX9_layJoint_J124L31 x28 x25 x26 x27 (14 : Int32) x29)
def FX9_layJoint_J110L31 (x21 : Int32) (x22 : Int32) (x23 : Int32) (x24 : Nat → Int64) : Option ((Int32 × (Nat → Int64)) ⊕ ((Nat → Int64))) :=
  FX9_layJoint_J111L31 x21 x22 x23 (0 : Int32) x24
def FX9_layJoint_J106L31 (x69 : Int32) (x70 : Int32) (x71 : Int32) (x72 : Nat → Int64) : Option ((Int32 × (Nat → Int64)) ⊕ ((Nat → Int64))) :=
  FX9_layJoint_J111L31 x69 x70 x71 (1 : Int32) x72
def FX9_layJoint_J71L31 (m_mood : Int32) (m_pupil : Nat → Int32) (m_dares : Nat → Int32) (p1 : Int32) (x15 : Int32) (x16 : Int32) (x17 : Int32) (x18 : Nat → Int64) : Option ((Int32 × (Nat → Int64)) ⊕ ((Nat → Int64))) :=
  if x16 < 0 ∨ 12 ≤ x16.toNatClampNeg then none else if (m_dares x16.toNatClampNeg) < m_mood then (FX9_layJoint_J110L31 x17 x15 x16 x18) else (if x17 = 0 then (if (((6 : Int32) * x16) + (3 : Int32)) < 0 ∨ 72 ≤ (((6 : Int32) * x16) + (3 : Int32)).toNatClampNeg then none else if p1 < (m_pupil (((6 : Int32) * x16) + (3 : Int32)).toNatClampNeg) then (FX9_layJoint_J110L31 x17 x15 x16 x18) else (FX9_layJoint_J106L31 x17 x15 x16 x18)) else (FX9_layJoint_J106L31 x17 x15 x16 x18))
def FX9_layJoint_S31 (m_pupils : Int32) (m_mood : Int32) (m_pupil : Nat → Int32) (m_dares : Nat → Int32) (p1 : Int32) (x9 : Int32) (x10 : Nat → Int64) : Option ((Int32 × (Nat → Int64)) ⊕ ((Nat → Int64))) :=
  if m_pupils ≤ x9 then (some (.inr x10)) else (if (((6 : Int32) * x9) + (2 : Int32)) < 0 ∨ 72 ≤ (((6 : Int32) * x9) + (2 : Int32)).toNatClampNeg then none else if (((6 : Int32) * x9) + (5 : Int32)) < 0 ∨ 72 ≤ (((6 : Int32) * x9) + (5 : Int32)).toNatClampNeg then none else if (m_pupil (((6 : Int32) * x9) + (5 : Int32)).toNatClampNeg) = (1 : Int32) then (FX9_layJoint_J71L31 m_mood m_pupil m_dares p1 (m_pupil (((6 : Int32) * x9) + (2 : Int32)).toNatClampNeg) x9 (1 : Int32) x10) else (FX9_layJoint_J71L31 m_mood m_pupil m_dares p1 (m_pupil (((6 : Int32) * x9) + (2 : Int32)).toNatClampNeg) x9 (0 : Int32) x10))
def FX9_layJoint (m_pupils : Int32) (m_mood : Int32) (m_joint : Nat → Int64) (m_pupil : Nat → Int32) (m_dares : Nat → Int32) (p1 : Int32) : Option ((Nat → Int64)) :=
  (itr (fun v => FX9_layJoint_S2 v.1 v.2) fu ((0 : Int32), m_joint)).bind fun o6 => if (0 : Int32) < 0 ∨ 169 ≤ (0 : Int32).toNatClampNeg then none else (itr (fun v => FX9_layJoint_S31 m_pupils m_mood m_pupil m_dares p1 v.1 v.2) fu ((0 : Int32), vp_updL o6 (0 : Int32).toNatClampNeg (1 : Int64))).bind fun o75 => some o75
def rm_X9_layJoint : Room := { frames := 0, cells := 0, slots := 0, locals := 0 }
set_option maxHeartbeats 4000000 in
set_option maxRecDepth 100000 in
theorem c_X9_layJoint (l : Launch) (D : va_G) (cI cJ cZ : ClassId) (a : Nat → Nat) (ws0 : va_W) (A : Nat → Prop)  (m_readMany : Int32) (m_pupils : Int32) (m_mood : Int32) (m_length : Int32) (m_at : Int32) (m_faultAt : Int32) (m_drawn : Int64) (m_questions : Int32) (m_rights : Int32) (m_wrongs : Int32) (m_tapes : Int32) (m_trials : Int32) (m_joint : Nat → Int64) (m_pupil : Nat → Int32) (m_dares : Nat → Int32) (p1 : Int32) (u : (Nat → Int64)) (hF : FX9_layJoint m_pupils m_mood m_joint m_pupil m_dares p1 = some u) (z35 : ws0[35]? = some (a 35, .inr (9, [.ref (a 36), .int m_readMany, .ref (a 37), .int m_pupils, .ref (a 38), .ref (a 39), .int m_mood, .ref (a 40), .int m_length, .int m_at, .int m_faultAt, .ref (a 41), .ref (a 42), .long m_drawn, .int m_questions, .int m_rights, .int m_wrongs, .int m_tapes, .ref (a 43), .ref (a 44), .int m_trials, .ref (a 45), .ref (a 46), .ref (a 47), .ref (a 48), .ref (a 49), .ref (a 50), .ref (a 51)]))) (z37 : ws0[37]? = some (a 37, .inl (cI, 72, .inl m_pupil))) (z38 : ws0[38]? = some (a 38, .inl (cI, 12, .inl m_dares))) (z41 : ws0[41]? = some (a 41, .inl (cJ, 169, .inr (.inl m_joint)))) (hD : va_D A ws0) : Met l yX9_layJoint (wq yX9_layJoint cX9_layJoint 11 none) rm_X9_layJoint (Pq [.ref (a 35), .int p1] D cI cJ cZ ws0) (Qw D A ws0 [41] none (fun w => w[41]? = some (a 41, .inl (cJ, 169, .inr (.inl u))))) 0 0 A := by
  refine mq_of (by decide) (Nat.le_of_ble_eq_true rfl) (fun p e s m args below meth c ls Q hQ X _ hP hl => ?_)
  obtain ⟨hx, hb, hr, hml, hown, hts, hlk, hK, hN⟩ := id X
  have hown : s.vm.findClass RX9 = some m.cls := hown
  have hl : lv_has ls 11 [(0, .ref (a 35)), (1, .int p1)] := hl
  have hS : va_S A s.heap s.heap [] := va_S.rf
  have hs : ∀ j : Nat, j ∉ [41] → ws0[j]? = ws0[j]? := fun _ _ => rfl
  have h35 := z35
  have h37 := z37
  have h38 := z38
  have h41 := z41
  unfold FX9_layJoint at hF
  refine lv_iconst (v := (0 : Int32)) hx hb dX9_layJoint_0 (by decide) ?_
  refine lv_istore_n (lv' := [(2, .int (0 : Int32)), (0, .ref (a 35)), (1, .int p1)]) hx hb dX9_layJoint_1 rfl hl (by decide) rfl (fun ls hl => ?_)
  have hL2 : ∀ (nf : Nat) (x1 : Int32) (x2 : Nat → Int64) (r : (Nat → Int64)), itr (fun v => FX9_layJoint_S2 v.1 v.2) nf (x1, x2) = some r → ∀ (wJ : va_W) (HJ : Heap) (lJ : List Loc), va_P D vwCl wJ HJ → va_D A wJ → va_S A s.heap HJ lJ → (∀ j : Nat, j ∉ [41] → wJ[j]? = ws0[j]?) → wJ[41]? = some (a 41, .inl (cJ, 169, .inr (.inl x2))) → ∀ ls, lv_has ls 11 [(2, .int x1), (0, .ref (a 35)), (1, .int p1)] → (∀ o : (Nat → Int64), r = o → ∀ (wK : va_W) (HK : Heap) (lK : List Loc), va_P D vwCl wK HK → va_D A wK → va_S A s.heap HK lK → (∀ j : Nat, j ∉ [41] → wK[j]? = ws0[j]?) → wK[41]? = some (a 41, .inl (cJ, 169, .inr (.inl o))) → ∀ ls, lv_has ls 11 [(0, .ref (a 35)), (1, .int p1)] → W p l e rm_X9_layJoint s m args below meth c HK lK 0 0 Q (F0 m 22 ls [])) → W p l e rm_X9_layJoint s m args below meth c HJ lJ 0 0 Q (F0 m 2 ls []) := by
    intro nf
    induction nf with
    | zero => intro _ _ r hF; exact (itr_0 hF).elim
    | succ nf ih =>
      intro x1 x2 r hF w H locs hP hD hS hs h41 ls hl hE
      obtain ⟨wo, hF, hw⟩ := itr_s hF
      replace hF : FX9_layJoint_S2 x1 x2 = some wo := hF
      have h35 := (hs 35 (by simp only [List.mem_cons, List.not_mem_nil, or_false, not_or]; omega)).trans z35
      have h37 := (hs 37 (by simp only [List.mem_cons, List.not_mem_nil, or_false, not_or]; omega)).trans z37
      have h38 := (hs 38 (by simp only [List.mem_cons, List.not_mem_nil, or_false, not_or]; omega)).trans z38
      unfold FX9_layJoint_S2 at hF
      refine lv_iload_n hx hb dX9_layJoint_2 rfl (lv_at hl 0 rfl) ?_
      refine lv_sipush (v := (169 : Int32)) hx hb dX9_layJoint_3 (by decide) ?_
      refine lv_icmp_ge (tgt := 22) hx hb dX9_layJoint_6 (by decide) (fun c3 => ?_) (fun c3 => ?_)
      · replace hF := (if_pos c3).symm.trans hF
        obtain rfl := Option.some.inj hF
        obtain rfl := hw
        exact hE _ rfl _ _ _ hP hD hS hs h41 ls (lv_sub hl [1, 2] rfl)
      · replace hF := (if_neg c3).symm.trans hF
        refine lv_aload_n hx hb dX9_layJoint_9 rfl (lv_at hl 1 rfl) ?_
        refine gf_X9_25 hx hb hts hown hK hP h35 dX9_layJoint_10 ?_
        refine lv_iload_n hx hb dX9_layJoint_13 rfl (lv_at hl 0 rfl) ?_
        refine lv_lconst (v := (0 : Int64)) hx hb dX9_layJoint_14 (by decide) ?_
        obtain ⟨hg4, hF⟩ := gd_some hF
        refine ast_l hx hb hK hP hD hS h41 hg4 dX9_layJoint_15 (fun w5 H locs hP hD hk hc hS => ?_)
        have h41 : w5[41]? = some (a 41, .inl (cJ, 169, .inr (.inl (vp_updL x2 x1.toNatClampNeg (0 : Int64))))) := hc
        have h35 := (hk 35 (by omega)).trans h35
        have h37 := (hk 37 (by omega)).trans h37
        have h38 := (hk 38 (by omega)).trans h38
        replace hs := sm_k hk (by simp) hs
        refine lv_iinc (v := x1 + (1 : Int32)) (lv' := [(2, .int (x1 + (1 : Int32))), (0, .ref (a 35)), (1, .int p1)]) hx hb dX9_layJoint_16 hl (k := 0) rfl rfl (by decide) rfl (fun ls hl => ?_)
        refine lv_goto (tgt := 2) hx hb dX9_layJoint_19 (by decide) ?_
        obtain rfl := Option.some.inj hF
        exact ih _ _ _ hw _ _ _ hP hD hS hs h41 ls (lv_sub hl [0, 1, 2] rfl) hE
  obtain ⟨o6, ho6, hF⟩ := bd_some hF
  refine hL2 fu (0 : Int32) m_joint o6 ho6 _ _ _ hP hD hS hs h41 ls (lv_sub hl [0, 1, 2] rfl) ?_
  intro _ q_o6 w H locs hP hD hS hs h41 ls hl
  subst q_o6
  have h35 := (hs 35 (by simp only [List.mem_cons, List.not_mem_nil, or_false, not_or]; omega)).trans z35
  have h37 := (hs 37 (by simp only [List.mem_cons, List.not_mem_nil, or_false, not_or]; omega)).trans z37
  have h38 := (hs 38 (by simp only [List.mem_cons, List.not_mem_nil, or_false, not_or]; omega)).trans z38
  refine lv_aload_n hx hb dX9_layJoint_22 rfl (lv_at hl 0 rfl) ?_
  refine gf_X9_25 hx hb hts hown hK hP h35 dX9_layJoint_23 ?_
  refine lv_iconst (v := (0 : Int32)) hx hb dX9_layJoint_26 (by decide) ?_
  refine lv_lconst (v := (1 : Int64)) hx hb dX9_layJoint_27 (by decide) ?_
  obtain ⟨hg7, hF⟩ := gd_some hF
  refine ast_l hx hb hK hP hD hS h41 hg7 dX9_layJoint_28 (fun w8 H locs hP hD hk hc hS => ?_)
  have h41 : w8[41]? = some (a 41, .inl (cJ, 169, .inr (.inl (vp_updL o6 (0 : Int32).toNatClampNeg (1 : Int64))))) := hc
  have h35 := (hk 35 (by omega)).trans h35
  have h37 := (hk 37 (by omega)).trans h37
  have h38 := (hk 38 (by omega)).trans h38
  replace hs := sm_k hk (by simp) hs
  refine lv_iconst (v := (0 : Int32)) hx hb dX9_layJoint_29 (by decide) ?_
  refine lv_istore_n (lv' := [(2, .int (0 : Int32)), (0, .ref (a 35)), (1, .int p1)]) hx hb dX9_layJoint_30 rfl hl (by decide) rfl (fun ls hl => ?_)
  have hL31 : ∀ (nf : Nat) (x9 : Int32) (x10 : Nat → Int64) (r : (Nat → Int64)), itr (fun v => FX9_layJoint_S31 m_pupils m_mood m_pupil m_dares p1 v.1 v.2) nf (x9, x10) = some r → ∀ (wJ : va_W) (HJ : Heap) (lJ : List Loc), va_P D vwCl wJ HJ → va_D A wJ → va_S A s.heap HJ lJ → (∀ j : Nat, j ∉ [41] → wJ[j]? = ws0[j]?) → wJ[41]? = some (a 41, .inl (cJ, 169, .inr (.inl x10))) → ∀ ls, lv_has ls 11 [(2, .int x9), (0, .ref (a 35)), (1, .int p1)] → (∀ o : (Nat → Int64), r = o → ∀ (wK : va_W) (HK : Heap) (lK : List Loc), va_P D vwCl wK HK → va_D A wK → va_S A s.heap HK lK → (∀ j : Nat, j ∉ [41] → wK[j]? = ws0[j]?) → wK[41]? = some (a 41, .inl (cJ, 169, .inr (.inl o))) → ∀ ls, lv_has ls 11 [] → W p l e rm_X9_layJoint s m args below meth c HK lK 0 0 Q (F0 m 250 ls [])) → W p l e rm_X9_layJoint s m args below meth c HJ lJ 0 0 Q (F0 m 31 ls []) := by
    intro nf
    induction nf with
    | zero => intro _ _ r hF; exact (itr_0 hF).elim
    | succ nf ih =>
      intro x9 x10 r hF w H locs hP hD hS hs h41 ls hl hE
      obtain ⟨wo, hF, hw⟩ := itr_s hF
      replace hF : FX9_layJoint_S31 m_pupils m_mood m_pupil m_dares p1 x9 x10 = some wo := hF
      have h35 := (hs 35 (by simp only [List.mem_cons, List.not_mem_nil, or_false, not_or]; omega)).trans z35
      have h37 := (hs 37 (by simp only [List.mem_cons, List.not_mem_nil, or_false, not_or]; omega)).trans z37
      have h38 := (hs 38 (by simp only [List.mem_cons, List.not_mem_nil, or_false, not_or]; omega)).trans z38
      have hJ142 : ∀ (x42 : Int32) (x43 : Int32) (x44 : Int32) (x45 : Int32) (x46 : Nat → Int64), ∀ (wJ : va_W) (HJ : Heap) (lJ : List Loc), va_P D vwCl wJ HJ → va_D A wJ → va_S A s.heap HJ lJ → (∀ j : Nat, j ∉ [41] → wJ[j]? = ws0[j]?) → wJ[41]? = some (a 41, .inl (cJ, 169, .inr (.inl x46))) → ∀ ls, lv_has ls 11 [(6, .int x42), (3, .int x43), (2, .int x44), (0, .ref (a 35)), (1, .int p1)] → FX9_layJoint_J142L31 x42 x43 x44 x45 x46 = some wo → W p l e rm_X9_layJoint s m args below meth c HJ lJ 0 0 Q (F0 m 142 ls [.int x45]) := by
        intro x42 x43 x44 x45 x46 w H locs hP hD hS hs h41 ls hl hF
        have h35 := (hs 35 (by simp only [List.mem_cons, List.not_mem_nil, or_false, not_or]; omega)).trans z35
        have h37 := (hs 37 (by simp only [List.mem_cons, List.not_mem_nil, or_false, not_or]; omega)).trans z37
        have h38 := (hs 38 (by simp only [List.mem_cons, List.not_mem_nil, or_false, not_or]; omega)).trans z38
        unfold FX9_layJoint_J142L31 at hF
        refine lv_istore (lv' := [(7, .int x45), (6, .int x42), (3, .int x43), (2, .int x44), (0, .ref (a 35)), (1, .int p1)]) hx hb dX9_layJoint_142 hl (by decide) rfl (fun ls hl => ?_)
        refine lv_sipush (v := (168 : Int32)) hx hb dX9_layJoint_144 (by decide) ?_
        refine lv_istore (lv' := [(8, .int (168 : Int32)), (7, .int x45), (6, .int x42), (3, .int x43), (2, .int x44), (0, .ref (a 35)), (1, .int p1)]) hx hb dX9_layJoint_147 hl (by decide) rfl (fun ls hl => ?_)
        have hL149 : ∀ (nf : Nat) (x47 : Int32) (x48 : Nat → Int64) (r : (Nat → Int64)), itr (fun v => FX9_layJoint_S149 x42 x43 x45 v.1 v.2) nf (x47, x48) = some r → ∀ (wJ : va_W) (HJ : Heap) (lJ : List Loc), va_P D vwCl wJ HJ → va_D A wJ → va_S A s.heap HJ lJ → (∀ j : Nat, j ∉ [41] → wJ[j]? = ws0[j]?) → wJ[41]? = some (a 41, .inl (cJ, 169, .inr (.inl x48))) → ∀ ls, lv_has ls 11 [(8, .int x47), (7, .int x45), (6, .int x42), (3, .int x43), (2, .int x44), (0, .ref (a 35)), (1, .int p1)] → (∀ o : (Nat → Int64), r = o → ∀ (wK : va_W) (HK : Heap) (lK : List Loc), va_P D vwCl wK HK → va_D A wK → va_S A s.heap HK lK → (∀ j : Nat, j ∉ [41] → wK[j]? = ws0[j]?) → wK[41]? = some (a 41, .inl (cJ, 169, .inr (.inl o))) → ∀ ls, lv_has ls 11 [(2, .int x44), (0, .ref (a 35)), (1, .int p1)] → W p l e rm_X9_layJoint s m args below meth c HK lK 0 0 Q (F0 m 244 ls [])) → W p l e rm_X9_layJoint s m args below meth c HJ lJ 0 0 Q (F0 m 149 ls []) := by
          intro nf
          induction nf with
          | zero => intro _ _ r hF; exact (itr_0 hF).elim
          | succ nf ih =>
            intro x47 x48 r hF w H locs hP hD hS hs h41 ls hl hE
            obtain ⟨wo, hF, hw⟩ := itr_s hF
            replace hF : FX9_layJoint_S149 x42 x43 x45 x47 x48 = some wo := hF
            have h35 := (hs 35 (by simp only [List.mem_cons, List.not_mem_nil, or_false, not_or]; omega)).trans z35
            have h37 := (hs 37 (by simp only [List.mem_cons, List.not_mem_nil, or_false, not_or]; omega)).trans z37
            have h38 := (hs 38 (by simp only [List.mem_cons, List.not_mem_nil, or_false, not_or]; omega)).trans z38
            have hJ236 : ∀ (x56 : Int32) (x57 : Int32) (x58 : Int64) (x59 : Int64) (x60 : Nat → Int64), ∀ (wJ : va_W) (HJ : Heap) (lJ : List Loc), va_P D vwCl wJ HJ → va_D A wJ → va_S A s.heap HJ lJ → (∀ j : Nat, j ∉ [41] → wJ[j]? = ws0[j]?) → wJ[41]? = some (a 41, .inl (cJ, 169, .inr (.inl x60))) → ∀ ls, lv_has ls 11 [(8, .int x56), (7, .int x45), (6, .int x42), (3, .int x43), (2, .int x44), (0, .ref (a 35)), (1, .int p1)] → FX9_layJoint_J236L149 x56 x57 x58 x59 x60 = some wo → W p l e rm_X9_layJoint s m args below meth c HJ lJ 0 0 Q (F0 m 236 ls [.long x59, .long x58, .int x57, .ref (a 41)]) := by
              intro x56 x57 x58 x59 x60 w H locs hP hD hS hs h41 ls hl hF
              have h35 := (hs 35 (by simp only [List.mem_cons, List.not_mem_nil, or_false, not_or]; omega)).trans z35
              have h37 := (hs 37 (by simp only [List.mem_cons, List.not_mem_nil, or_false, not_or]; omega)).trans z37
              have h38 := (hs 38 (by simp only [List.mem_cons, List.not_mem_nil, or_false, not_or]; omega)).trans z38
              unfold FX9_layJoint_J236L149 at hF
              refine lv_ladd hx hb dX9_layJoint_236 ?_
              obtain ⟨hg61, hF⟩ := gd_some hF
              refine ast_l hx hb hK hP hD hS h41 hg61 dX9_layJoint_237 (fun w62 H locs hP hD hk hc hS => ?_)
              have h41 : w62[41]? = some (a 41, .inl (cJ, 169, .inr (.inl (vp_updL x60 x57.toNatClampNeg (x58 + x59))))) := hc
              have h35 := (hk 35 (by omega)).trans h35
              have h37 := (hk 37 (by omega)).trans h37
              have h38 := (hk 38 (by omega)).trans h38
              replace hs := sm_k hk (by simp) hs
              refine lv_iinc (v := x56 + (-1 : Int32)) (lv' := [(8, .int (x56 + (-1 : Int32))), (7, .int x45), (6, .int x42), (3, .int x43), (2, .int x44), (0, .ref (a 35)), (1, .int p1)]) hx hb dX9_layJoint_238 hl (k := 0) rfl rfl (by decide) rfl (fun ls hl => ?_)
              refine lv_goto (tgt := 149) hx hb dX9_layJoint_241 (by decide) ?_
              obtain rfl := Option.some.inj hF
              exact ih _ _ _ hw _ _ _ hP hD hS hs h41 ls (lv_sub hl [0, 1, 2, 3, 4, 5, 6] rfl) hE
            have hJ202 : ∀ (x52 : Int32) (x53 : Int64) (x54 : Nat → Int64), ∀ (wJ : va_W) (HJ : Heap) (lJ : List Loc), va_P D vwCl wJ HJ → va_D A wJ → va_S A s.heap HJ lJ → (∀ j : Nat, j ∉ [41] → wJ[j]? = ws0[j]?) → wJ[41]? = some (a 41, .inl (cJ, 169, .inr (.inl x54))) → ∀ ls, lv_has ls 11 [(8, .int x52), (7, .int x45), (6, .int x42), (3, .int x43), (2, .int x44), (0, .ref (a 35)), (1, .int p1)] → FX9_layJoint_J202L149 x42 x43 x52 x53 x54 = some wo → W p l e rm_X9_layJoint s m args below meth c HJ lJ 0 0 Q (F0 m 202 ls [.long x53]) := by
              intro x52 x53 x54 w H locs hP hD hS hs h41 ls hl hF
              have h35 := (hs 35 (by simp only [List.mem_cons, List.not_mem_nil, or_false, not_or]; omega)).trans z35
              have h37 := (hs 37 (by simp only [List.mem_cons, List.not_mem_nil, or_false, not_or]; omega)).trans z37
              have h38 := (hs 38 (by simp only [List.mem_cons, List.not_mem_nil, or_false, not_or]; omega)).trans z38
              unfold FX9_layJoint_J202L149 at hF
              refine lv_lstore (lv' := [(9, .long x53), (8, .int x52), (7, .int x45), (6, .int x42), (3, .int x43), (2, .int x44), (0, .ref (a 35)), (1, .int p1)]) hx hb dX9_layJoint_202 hl (by decide) rfl (fun ls hl => ?_)
              refine lv_aload_n hx hb dX9_layJoint_204 rfl (lv_at hl 6 rfl) ?_
              refine gf_X9_25 hx hb hts hown hK hP h35 dX9_layJoint_205 ?_
              refine lv_iload hx hb dX9_layJoint_208 (lv_at hl 1 rfl) ?_
              refine lv_lload hx hb dX9_layJoint_210 (lv_at hl 0 rfl) ?_
              refine lv_iload hx hb dX9_layJoint_212 (lv_at hl 1 rfl) ?_
              refine lv_iload hx hb dX9_layJoint_214 (lv_at hl 3 rfl) ?_
              refine lv_icmp_lt (tgt := 235) hx hb dX9_layJoint_216 (by decide) (fun c55 => ?_) (fun c55 => ?_)
              · replace hF := (if_pos c55).symm.trans hF
                refine lv_lconst (v := (0 : Int64)) hx hb dX9_layJoint_235 (by decide) ?_
                exact hJ236 x52 x52 x53 (0 : Int64) x54 _ _ _ hP hD hS hs h41 ls (lv_sub hl [1, 2, 3, 4, 5, 6, 7] rfl) hF
              · replace hF := (if_neg c55).symm.trans hF
                refine lv_aload_n hx hb dX9_layJoint_219 rfl (lv_at hl 6 rfl) ?_
                refine gf_X9_25 hx hb hts hown hK hP h35 dX9_layJoint_220 ?_
                refine lv_iload hx hb dX9_layJoint_223 (lv_at hl 1 rfl) ?_
                refine lv_iload hx hb dX9_layJoint_225 (lv_at hl 3 rfl) ?_
                refine lv_isub hx hb dX9_layJoint_227 ?_
                obtain ⟨hg63, hF⟩ := gd_some hF
                refine va_lald hx hb hK hP 41 1 h41 rfl hg63 dX9_layJoint_228 ?_
                refine lv_iload_n hx hb dX9_layJoint_229 rfl (lv_at hl 4 rfl) ?_
                refine lv_i2l hx hb dX9_layJoint_230 rfl ?_
                refine lv_lmul hx hb dX9_layJoint_231 ?_
                refine lv_goto (tgt := 236) hx hb dX9_layJoint_232 (by decide) ?_
                exact hJ236 x52 x52 x53 ((x54 (x52 - x42).toNatClampNeg) * x43.toInt64) x54 _ _ _ hP hD hS hs h41 ls (lv_sub hl [1, 2, 3, 4, 5, 6, 7] rfl) hF
            unfold FX9_layJoint_S149 at hF
            refine lv_iload hx hb dX9_layJoint_149 (lv_at hl 0 rfl) ?_
            refine lv_if_lt (tgt := 244) hx hb dX9_layJoint_151 (by decide) (fun c49 => ?_) (fun c49 => ?_)
            · replace hF := (if_pos c49).symm.trans hF
              obtain rfl := Option.some.inj hF
              obtain rfl := hw
              exact hE _ rfl _ _ _ hP hD hS hs h41 ls (lv_sub hl [4, 5, 6] rfl)
            · replace hF := (if_neg c49).symm.trans hF
              refine lv_iload hx hb dX9_layJoint_154 (lv_at hl 1 rfl) ?_
              refine lv_if_ne (tgt := 175) hx hb dX9_layJoint_156 (by decide) (fun c50 => ?_) (fun c50 => ?_)
              · replace hF := (if_neg c50).symm.trans hF
                refine lv_iload hx hb dX9_layJoint_175 (lv_at hl 0 rfl) ?_
                refine lv_iload hx hb dX9_layJoint_177 (lv_at hl 1 rfl) ?_
                refine lv_icmp_lt (tgt := 201) hx hb dX9_layJoint_179 (by decide) (fun c51 => ?_) (fun c51 => ?_)
                · replace hF := (if_pos c51).symm.trans hF
                  refine lv_lconst (v := (0 : Int64)) hx hb dX9_layJoint_201 (by decide) ?_
                  exact hJ202 x47 (0 : Int64) x48 _ _ _ hP hD hS hs h41 ls (lv_sub hl [0, 1, 2, 3, 4, 5, 6] rfl) hF
                · replace hF := (if_neg c51).symm.trans hF
                  refine lv_aload_n hx hb dX9_layJoint_182 rfl (lv_at hl 5 rfl) ?_
                  refine gf_X9_25 hx hb hts hown hK hP h35 dX9_layJoint_183 ?_
                  refine lv_iload hx hb dX9_layJoint_186 (lv_at hl 0 rfl) ?_
                  refine lv_iload hx hb dX9_layJoint_188 (lv_at hl 1 rfl) ?_
                  refine lv_isub hx hb dX9_layJoint_190 ?_
                  obtain ⟨hg64, hF⟩ := gd_some hF
                  refine va_lald hx hb hK hP 41 1 h41 rfl hg64 dX9_layJoint_191 ?_
                  refine lv_bipush (v := (10 : Int32)) hx hb dX9_layJoint_192 (by decide) ?_
                  refine lv_iload_n hx hb dX9_layJoint_194 rfl (lv_at hl 3 rfl) ?_
                  refine lv_isub hx hb dX9_layJoint_195 ?_
                  refine lv_i2l hx hb dX9_layJoint_196 rfl ?_
                  refine lv_lmul hx hb dX9_layJoint_197 ?_
                  refine lv_goto (tgt := 202) hx hb dX9_layJoint_198 (by decide) ?_
                  exact hJ202 x47 ((x48 (x47 - x45).toNatClampNeg) * (((10 : Int32) - x43).toInt64)) x48 _ _ _ hP hD hS hs h41 ls (lv_sub hl [0, 1, 2, 3, 4, 5, 6] rfl) hF
              · replace hF := (if_pos c50).symm.trans hF
                refine lv_aload_n hx hb dX9_layJoint_159 rfl (lv_at hl 5 rfl) ?_
                refine gf_X9_25 hx hb hts hown hK hP h35 dX9_layJoint_160 ?_
                refine lv_iload hx hb dX9_layJoint_163 (lv_at hl 0 rfl) ?_
                obtain ⟨hg65, hF⟩ := gd_some hF
                refine va_lald hx hb hK hP 41 1 h41 rfl hg65 dX9_layJoint_165 ?_
                refine lv_bipush (v := (10 : Int32)) hx hb dX9_layJoint_166 (by decide) ?_
                refine lv_iload_n hx hb dX9_layJoint_168 rfl (lv_at hl 3 rfl) ?_
                refine lv_isub hx hb dX9_layJoint_169 ?_
                refine lv_i2l hx hb dX9_layJoint_170 rfl ?_
                refine lv_lmul hx hb dX9_layJoint_171 ?_
                refine lv_goto (tgt := 202) hx hb dX9_layJoint_172 (by decide) ?_
                exact hJ202 x47 ((x48 x47.toNatClampNeg) * (((10 : Int32) - x43).toInt64)) x48 _ _ _ hP hD hS hs h41 ls (lv_sub hl [0, 1, 2, 3, 4, 5, 6] rfl) hF
        obtain ⟨o66, ho66, hF⟩ := bd_some hF
        refine hL149 fu (168 : Int32) x46 o66 ho66 _ _ _ hP hD hS hs h41 ls (lv_sub hl [0, 1, 2, 3, 4, 5, 6] rfl) ?_
        intro _ q_o66 w H locs hP hD hS hs h41 ls hl
        subst q_o66
        have h35 := (hs 35 (by simp only [List.mem_cons, List.not_mem_nil, or_false, not_or]; omega)).trans z35
        have h37 := (hs 37 (by simp only [List.mem_cons, List.not_mem_nil, or_false, not_or]; omega)).trans z37
        have h38 := (hs 38 (by simp only [List.mem_cons, List.not_mem_nil, or_false, not_or]; omega)).trans z38
        refine lv_iinc (v := x44 + (1 : Int32)) (lv' := [(2, .int (x44 + (1 : Int32))), (0, .ref (a 35)), (1, .int p1)]) hx hb dX9_layJoint_244 hl (k := 0) rfl rfl (by decide) rfl (fun ls hl => ?_)
        refine lv_goto (tgt := 31) hx hb dX9_layJoint_247 (by decide) ?_
        obtain rfl := Option.some.inj hF
        exact ih _ _ _ hw _ _ _ hP hD hS hs h41 ls (lv_sub hl [0, 1, 2] rfl) hE
      have hJ141 : ∀ (x38 : Int32) (x39 : Int32) (x40 : Int32) (x41 : Nat → Int64), ∀ (wJ : va_W) (HJ : Heap) (lJ : List Loc), va_P D vwCl wJ HJ → va_D A wJ → va_S A s.heap HJ lJ → (∀ j : Nat, j ∉ [41] → wJ[j]? = ws0[j]?) → wJ[41]? = some (a 41, .inl (cJ, 169, .inr (.inl x41))) → ∀ ls, lv_has ls 11 [(6, .int x38), (3, .int x39), (2, .int x40), (0, .ref (a 35)), (1, .int p1)] → FX9_layJoint_J141L31 x38 x39 x40 x41 = some wo → W p l e rm_X9_layJoint s m args below meth c HJ lJ 0 0 Q (F0 m 141 ls []) := by
        intro x38 x39 x40 x41 w H locs hP hD hS hs h41 ls hl hF
        have h35 := (hs 35 (by simp only [List.mem_cons, List.not_mem_nil, or_false, not_or]; omega)).trans z35
        have h37 := (hs 37 (by simp only [List.mem_cons, List.not_mem_nil, or_false, not_or]; omega)).trans z37
        have h38 := (hs 38 (by simp only [List.mem_cons, List.not_mem_nil, or_false, not_or]; omega)).trans z38
        unfold FX9_layJoint_J141L31 at hF
        refine lv_iconst (v := (0 : Int32)) hx hb dX9_layJoint_141 (by decide) ?_
        exact hJ142 x38 x39 x40 (0 : Int32) x41 _ _ _ hP hD hS hs h41 ls (lv_sub hl [0, 1, 2, 3, 4] rfl) hF
      have hJ124 : ∀ (x31 : Int32) (x32 : Int32) (x33 : Int32) (x34 : Int32) (x35 : Int32) (x36 : Nat → Int64), ∀ (wJ : va_W) (HJ : Heap) (lJ : List Loc), va_P D vwCl wJ HJ → va_D A wJ → va_S A s.heap HJ lJ → (∀ j : Nat, j ∉ [41] → wJ[j]? = ws0[j]?) → wJ[41]? = some (a 41, .inl (cJ, 169, .inr (.inl x36))) → ∀ ls, lv_has ls 11 [(5, .int x31), (4, .int x32), (3, .int x33), (2, .int x34), (0, .ref (a 35)), (1, .int p1)] → FX9_layJoint_J124L31 x31 x32 x33 x34 x35 x36 = some wo → W p l e rm_X9_layJoint s m args below meth c HJ lJ 0 0 Q (F0 m 124 ls [.int x35]) := by
        intro x31 x32 x33 x34 x35 x36 w H locs hP hD hS hs h41 ls hl hF
        have h35 := (hs 35 (by simp only [List.mem_cons, List.not_mem_nil, or_false, not_or]; omega)).trans z35
        have h37 := (hs 37 (by simp only [List.mem_cons, List.not_mem_nil, or_false, not_or]; omega)).trans z37
        have h38 := (hs 38 (by simp only [List.mem_cons, List.not_mem_nil, or_false, not_or]; omega)).trans z38
        unfold FX9_layJoint_J124L31 at hF
        refine lv_istore (lv' := [(6, .int x35), (5, .int x31), (4, .int x32), (3, .int x33), (2, .int x34), (0, .ref (a 35)), (1, .int p1)]) hx hb dX9_layJoint_124 hl (by decide) rfl (fun ls hl => ?_)
        refine lv_iload hx hb dX9_layJoint_126 (lv_at hl 1 rfl) ?_
        refine lv_if_eq (tgt := 141) hx hb dX9_layJoint_128 (by decide) (fun c37 => ?_) (fun c37 => ?_)
        · replace hF := (if_pos c37).symm.trans hF
          exact hJ141 x35 x33 x34 x36 _ _ _ hP hD hS hs h41 ls (lv_sub hl [0, 3, 4, 5, 6] rfl) hF
        · replace hF := (if_neg c37).symm.trans hF
          refine lv_iload hx hb dX9_layJoint_131 (lv_at hl 2 rfl) ?_
          refine lv_if_eq (tgt := 141) hx hb dX9_layJoint_133 (by decide) (fun c67 => ?_) (fun c67 => ?_)
          · replace hF := (if_pos c67).symm.trans hF
            exact hJ141 x35 x33 x34 x36 _ _ _ hP hD hS hs h41 ls (lv_sub hl [0, 3, 4, 5, 6] rfl) hF
          · replace hF := (if_neg c67).symm.trans hF
            refine lv_bipush (v := (13 : Int32)) hx hb dX9_layJoint_136 (by decide) ?_
            refine lv_goto (tgt := 142) hx hb dX9_layJoint_138 (by decide) ?_
            exact hJ142 x35 x33 x34 (13 : Int32) x36 _ _ _ hP hD hS hs h41 ls (lv_sub hl [0, 3, 4, 5, 6] rfl) hF
      have hJ111 : ∀ (x25 : Int32) (x26 : Int32) (x27 : Int32) (x28 : Int32) (x29 : Nat → Int64), ∀ (wJ : va_W) (HJ : Heap) (lJ : List Loc), va_P D vwCl wJ HJ → va_D A wJ → va_S A s.heap HJ lJ → (∀ j : Nat, j ∉ [41] → wJ[j]? = ws0[j]?) → wJ[41]? = some (a 41, .inl (cJ, 169, .inr (.inl x29))) → ∀ ls, lv_has ls 11 [(4, .int x25), (3, .int x26), (2, .int x27), (0, .ref (a 35)), (1, .int p1)] → FX9_layJoint_J111L31 x25 x26 x27 x28 x29 = some wo → W p l e rm_X9_layJoint s m args below meth c HJ lJ 0 0 Q (F0 m 111 ls [.int x28]) := by
        intro x25 x26 x27 x28 x29 w H locs hP hD hS hs h41 ls hl hF
        have h35 := (hs 35 (by simp only [List.mem_cons, List.not_mem_nil, or_false, not_or]; omega)).trans z35
        have h37 := (hs 37 (by simp only [List.mem_cons, List.not_mem_nil, or_false, not_or]; omega)).trans z37
        have h38 := (hs 38 (by simp only [List.mem_cons, List.not_mem_nil, or_false, not_or]; omega)).trans z38
        unfold FX9_layJoint_J111L31 at hF
        refine lv_istore (lv' := [(5, .int x28), (4, .int x25), (3, .int x26), (2, .int x27), (0, .ref (a 35)), (1, .int p1)]) hx hb dX9_layJoint_111 hl (by decide) rfl (fun ls hl => ?_)
        refine lv_iload hx hb dX9_layJoint_113 (lv_at hl 0 rfl) ?_
        refine lv_if_eq (tgt := 123) hx hb dX9_layJoint_115 (by decide) (fun c30 => ?_) (fun c30 => ?_)
        · replace hF := (if_pos c30).symm.trans hF
          refine lv_iconst (v := (1 : Int32)) hx hb dX9_layJoint_123 (by decide) ?_
          exact hJ124 x28 x25 x26 x27 (1 : Int32) x29 _ _ _ hP hD hS hs h41 ls (lv_sub hl [0, 1, 2, 3, 4, 5] rfl) hF
        · replace hF := (if_neg c30).symm.trans hF
          refine lv_bipush (v := (14 : Int32)) hx hb dX9_layJoint_118 (by decide) ?_
          refine lv_goto (tgt := 124) hx hb dX9_layJoint_120 (by decide) ?_
          exact hJ124 x28 x25 x26 x27 (14 : Int32) x29 _ _ _ hP hD hS hs h41 ls (lv_sub hl [0, 1, 2, 3, 4, 5] rfl) hF
      have hJ110 : ∀ (x21 : Int32) (x22 : Int32) (x23 : Int32) (x24 : Nat → Int64), ∀ (wJ : va_W) (HJ : Heap) (lJ : List Loc), va_P D vwCl wJ HJ → va_D A wJ → va_S A s.heap HJ lJ → (∀ j : Nat, j ∉ [41] → wJ[j]? = ws0[j]?) → wJ[41]? = some (a 41, .inl (cJ, 169, .inr (.inl x24))) → ∀ ls, lv_has ls 11 [(4, .int x21), (3, .int x22), (2, .int x23), (0, .ref (a 35)), (1, .int p1)] → FX9_layJoint_J110L31 x21 x22 x23 x24 = some wo → W p l e rm_X9_layJoint s m args below meth c HJ lJ 0 0 Q (F0 m 110 ls []) := by
        intro x21 x22 x23 x24 w H locs hP hD hS hs h41 ls hl hF
        have h35 := (hs 35 (by simp only [List.mem_cons, List.not_mem_nil, or_false, not_or]; omega)).trans z35
        have h37 := (hs 37 (by simp only [List.mem_cons, List.not_mem_nil, or_false, not_or]; omega)).trans z37
        have h38 := (hs 38 (by simp only [List.mem_cons, List.not_mem_nil, or_false, not_or]; omega)).trans z38
        unfold FX9_layJoint_J110L31 at hF
        refine lv_iconst (v := (0 : Int32)) hx hb dX9_layJoint_110 (by decide) ?_
        exact hJ111 x21 x22 x23 (0 : Int32) x24 _ _ _ hP hD hS hs h41 ls (lv_sub hl [0, 1, 2, 3, 4] rfl) hF
      have hJ106 : ∀ (x69 : Int32) (x70 : Int32) (x71 : Int32) (x72 : Nat → Int64), ∀ (wJ : va_W) (HJ : Heap) (lJ : List Loc), va_P D vwCl wJ HJ → va_D A wJ → va_S A s.heap HJ lJ → (∀ j : Nat, j ∉ [41] → wJ[j]? = ws0[j]?) → wJ[41]? = some (a 41, .inl (cJ, 169, .inr (.inl x72))) → ∀ ls, lv_has ls 11 [(4, .int x69), (3, .int x70), (2, .int x71), (0, .ref (a 35)), (1, .int p1)] → FX9_layJoint_J106L31 x69 x70 x71 x72 = some wo → W p l e rm_X9_layJoint s m args below meth c HJ lJ 0 0 Q (F0 m 106 ls []) := by
        intro x69 x70 x71 x72 w H locs hP hD hS hs h41 ls hl hF
        have h35 := (hs 35 (by simp only [List.mem_cons, List.not_mem_nil, or_false, not_or]; omega)).trans z35
        have h37 := (hs 37 (by simp only [List.mem_cons, List.not_mem_nil, or_false, not_or]; omega)).trans z37
        have h38 := (hs 38 (by simp only [List.mem_cons, List.not_mem_nil, or_false, not_or]; omega)).trans z38
        unfold FX9_layJoint_J106L31 at hF
        refine lv_iconst (v := (1 : Int32)) hx hb dX9_layJoint_106 (by decide) ?_
        refine lv_goto (tgt := 111) hx hb dX9_layJoint_107 (by decide) ?_
        exact hJ111 x69 x70 x71 (1 : Int32) x72 _ _ _ hP hD hS hs h41 ls (lv_sub hl [0, 1, 2, 3, 4] rfl) hF
      have hJ71 : ∀ (x15 : Int32) (x16 : Int32) (x17 : Int32) (x18 : Nat → Int64), ∀ (wJ : va_W) (HJ : Heap) (lJ : List Loc), va_P D vwCl wJ HJ → va_D A wJ → va_S A s.heap HJ lJ → (∀ j : Nat, j ∉ [41] → wJ[j]? = ws0[j]?) → wJ[41]? = some (a 41, .inl (cJ, 169, .inr (.inl x18))) → ∀ ls, lv_has ls 11 [(3, .int x15), (2, .int x16), (0, .ref (a 35)), (1, .int p1)] → FX9_layJoint_J71L31 m_mood m_pupil m_dares p1 x15 x16 x17 x18 = some wo → W p l e rm_X9_layJoint s m args below meth c HJ lJ 0 0 Q (F0 m 71 ls [.int x17]) := by
        intro x15 x16 x17 x18 w H locs hP hD hS hs h41 ls hl hF
        have h35 := (hs 35 (by simp only [List.mem_cons, List.not_mem_nil, or_false, not_or]; omega)).trans z35
        have h37 := (hs 37 (by simp only [List.mem_cons, List.not_mem_nil, or_false, not_or]; omega)).trans z37
        have h38 := (hs 38 (by simp only [List.mem_cons, List.not_mem_nil, or_false, not_or]; omega)).trans z38
        unfold FX9_layJoint_J71L31 at hF
        refine lv_istore (lv' := [(4, .int x17), (3, .int x15), (2, .int x16), (0, .ref (a 35)), (1, .int p1)]) hx hb dX9_layJoint_71 hl (by decide) rfl (fun ls hl => ?_)
        refine lv_aload_n hx hb dX9_layJoint_73 rfl (lv_at hl 3 rfl) ?_
        refine gf_X9_16 hx hb hts hown hK hP h35 dX9_layJoint_74 ?_
        refine lv_iload_n hx hb dX9_layJoint_77 rfl (lv_at hl 2 rfl) ?_
        obtain ⟨hg19, hF⟩ := gd_some hF
        refine va_iald hx hb hK hP 38 0 h38 rfl hg19 dX9_layJoint_78 ?_
        refine lv_aload_n hx hb dX9_layJoint_79 rfl (lv_at hl 3 rfl) ?_
        refine gf_X9_60 hx hb hts hown hK hP h35 dX9_layJoint_80 ?_
        refine lv_icmp_lt (tgt := 110) hx hb dX9_layJoint_83 (by decide) (fun c20 => ?_) (fun c20 => ?_)
        · replace hF := (if_pos c20).symm.trans hF
          exact hJ110 x17 x15 x16 x18 _ _ _ hP hD hS hs h41 ls (lv_sub hl [0, 1, 2, 3, 4] rfl) hF
        · replace hF := (if_neg c20).symm.trans hF
          refine lv_iload hx hb dX9_layJoint_86 (lv_at hl 0 rfl) ?_
          refine lv_if_ne (tgt := 106) hx hb dX9_layJoint_88 (by decide) (fun c68 => ?_) (fun c68 => ?_)
          · replace hF := (if_neg c68).symm.trans hF
            exact hJ106 x17 x15 x16 x18 _ _ _ hP hD hS hs h41 ls (lv_sub hl [0, 1, 2, 3, 4] rfl) hF
          · replace hF := (if_pos c68).symm.trans hF
            refine lv_aload_n hx hb dX9_layJoint_91 rfl (lv_at hl 3 rfl) ?_
            refine gf_X9_13 hx hb hts hown hK hP h35 dX9_layJoint_92 ?_
            refine lv_bipush (v := (6 : Int32)) hx hb dX9_layJoint_95 (by decide) ?_
            refine lv_iload_n hx hb dX9_layJoint_97 rfl (lv_at hl 2 rfl) ?_
            refine lv_imul hx hb dX9_layJoint_98 ?_
            refine lv_iconst (v := (3 : Int32)) hx hb dX9_layJoint_99 (by decide) ?_
            refine lv_iadd hx hb dX9_layJoint_100 ?_
            obtain ⟨hg73, hF⟩ := gd_some hF
            refine va_iald hx hb hK hP 37 0 h37 rfl hg73 dX9_layJoint_101 ?_
            refine lv_iload_n hx hb dX9_layJoint_102 rfl (lv_at hl 4 rfl) ?_
            refine lv_icmp_gt (tgt := 110) hx hb dX9_layJoint_103 (by decide) (fun c74 => ?_) (fun c74 => ?_)
            · replace hF := (if_pos c74).symm.trans hF
              exact hJ110 x17 x15 x16 x18 _ _ _ hP hD hS hs h41 ls (lv_sub hl [0, 1, 2, 3, 4] rfl) hF
            · replace hF := (if_neg c74).symm.trans hF
              exact hJ106 x17 x15 x16 x18 _ _ _ hP hD hS hs h41 ls (lv_sub hl [0, 1, 2, 3, 4] rfl) hF
      unfold FX9_layJoint_S31 at hF
      refine lv_iload_n hx hb dX9_layJoint_31 rfl (lv_at hl 0 rfl) ?_
      refine lv_aload_n hx hb dX9_layJoint_32 rfl (lv_at hl 1 rfl) ?_
      refine gf_X9_97 hx hb hts hown hK hP h35 dX9_layJoint_33 ?_
      refine lv_icmp_ge (tgt := 250) hx hb dX9_layJoint_36 (by decide) (fun c11 => ?_) (fun c11 => ?_)
      · replace hF := (if_pos c11).symm.trans hF
        obtain rfl := Option.some.inj hF
        obtain rfl := hw
        exact hE _ rfl _ _ _ hP hD hS hs h41 ls (lv_sub hl [] rfl)
      · replace hF := (if_neg c11).symm.trans hF
        refine lv_aload_n hx hb dX9_layJoint_39 rfl (lv_at hl 1 rfl) ?_
        refine gf_X9_13 hx hb hts hown hK hP h35 dX9_layJoint_40 ?_
        refine lv_bipush (v := (6 : Int32)) hx hb dX9_layJoint_43 (by decide) ?_
        refine lv_iload_n hx hb dX9_layJoint_45 rfl (lv_at hl 0 rfl) ?_
        refine lv_imul hx hb dX9_layJoint_46 ?_
        refine lv_iconst (v := (2 : Int32)) hx hb dX9_layJoint_47 (by decide) ?_
        refine lv_iadd hx hb dX9_layJoint_48 ?_
        obtain ⟨hg12, hF⟩ := gd_some hF
        refine va_iald hx hb hK hP 37 0 h37 rfl hg12 dX9_layJoint_49 ?_
        refine lv_istore_n (lv' := [(3, .int (m_pupil (((6 : Int32) * x9) + (2 : Int32)).toNatClampNeg)), (2, .int x9), (0, .ref (a 35)), (1, .int p1)]) hx hb dX9_layJoint_50 rfl hl (by decide) rfl (fun ls hl => ?_)
        refine lv_aload_n hx hb dX9_layJoint_51 rfl (lv_at hl 2 rfl) ?_
        refine gf_X9_13 hx hb hts hown hK hP h35 dX9_layJoint_52 ?_
        refine lv_bipush (v := (6 : Int32)) hx hb dX9_layJoint_55 (by decide) ?_
        refine lv_iload_n hx hb dX9_layJoint_57 rfl (lv_at hl 1 rfl) ?_
        refine lv_imul hx hb dX9_layJoint_58 ?_
        refine lv_iconst (v := (5 : Int32)) hx hb dX9_layJoint_59 (by decide) ?_
        refine lv_iadd hx hb dX9_layJoint_60 ?_
        obtain ⟨hg13, hF⟩ := gd_some hF
        refine va_iald hx hb hK hP 37 0 h37 rfl hg13 dX9_layJoint_61 ?_
        refine lv_iconst (v := (1 : Int32)) hx hb dX9_layJoint_62 (by decide) ?_
        refine lv_icmp_ne (tgt := 70) hx hb dX9_layJoint_63 (by decide) (fun c14 => ?_) (fun c14 => ?_)
        · replace hF := (if_neg c14).symm.trans hF
          refine lv_iconst (v := (0 : Int32)) hx hb dX9_layJoint_70 (by decide) ?_
          exact hJ71 (m_pupil (((6 : Int32) * x9) + (2 : Int32)).toNatClampNeg) x9 (0 : Int32) x10 _ _ _ hP hD hS hs h41 ls (lv_sub hl [0, 1, 2, 3] rfl) hF
        · replace hF := (if_pos c14).symm.trans hF
          refine lv_iconst (v := (1 : Int32)) hx hb dX9_layJoint_66 (by decide) ?_
          refine lv_goto (tgt := 71) hx hb dX9_layJoint_67 (by decide) ?_
          exact hJ71 (m_pupil (((6 : Int32) * x9) + (2 : Int32)).toNatClampNeg) x9 (1 : Int32) x10 _ _ _ hP hD hS hs h41 ls (lv_sub hl [0, 1, 2, 3] rfl) hF
  obtain ⟨o75, ho75, hF⟩ := bd_some hF
  refine hL31 fu (0 : Int32) (vp_updL o6 (0 : Int32).toNatClampNeg (1 : Int64)) o75 ho75 _ _ _ hP hD hS hs h41 ls (lv_sub hl [0, 1, 2] rfl) ?_
  intro _ q_o75 w H locs hP hD hS hs h41 ls hl
  subst q_o75
  have h35 := (hs 35 (by simp only [List.mem_cons, List.not_mem_nil, or_false, not_or]; omega)).trans z35
  have h37 := (hs 37 (by simp only [List.mem_cons, List.not_mem_nil, or_false, not_or]; omega)).trans z37
  have h38 := (hs 38 (by simp only [List.mem_cons, List.not_mem_nil, or_false, not_or]; omega)).trans z38
  obtain rfl := Option.some.inj hF
  rw [hQ]
  exact rw_v X hS hP hD hs h41 dX9_layJoint_250
def FX9_handsOf_S5 (m_joint : Nat → Int64) (p1 : Int32) (x1 : Int64) (x2 : Int32) : Option ((Int64 × Int32) ⊕ (Int64)) :=
  if (13 : Int32) ≤ x2 then (some (.inr x1)) else (if (((13 : Int32) * p1) + x2) < 0 ∨ 169 ≤ (((13 : Int32) * p1) + x2).toNatClampNeg then none else some (.inl (x1 + (m_joint (((13 : Int32) * p1) + x2).toNatClampNeg), x2 + (1 : Int32))))
def FX9_handsOf (m_joint : Nat → Int64) (p1 : Int32) : Option (Int64) :=
  (itr (fun v => FX9_handsOf_S5 m_joint p1 v.1 v.2) fu ((0 : Int64), (0 : Int32))).bind fun o5 => some o5
def rm_X9_handsOf : Room := { frames := 0, cells := 0, slots := 0, locals := 0 }
set_option maxHeartbeats 4000000 in
set_option maxRecDepth 100000 in
theorem c_X9_handsOf (l : Launch) (D : va_G) (cI cJ cZ : ClassId) (a : Nat → Nat) (ws0 : va_W)  (m_readMany : Int32) (m_pupils : Int32) (m_mood : Int32) (m_length : Int32) (m_at : Int32) (m_faultAt : Int32) (m_drawn : Int64) (m_questions : Int32) (m_rights : Int32) (m_wrongs : Int32) (m_tapes : Int32) (m_trials : Int32) (m_joint : Nat → Int64) (p1 : Int32) (u : Int64) (hF : FX9_handsOf m_joint p1 = some u) (h35 : ws0[35]? = some (a 35, .inr (9, [.ref (a 36), .int m_readMany, .ref (a 37), .int m_pupils, .ref (a 38), .ref (a 39), .int m_mood, .ref (a 40), .int m_length, .int m_at, .int m_faultAt, .ref (a 41), .ref (a 42), .long m_drawn, .int m_questions, .int m_rights, .int m_wrongs, .int m_tapes, .ref (a 43), .ref (a 44), .int m_trials, .ref (a 45), .ref (a 46), .ref (a 47), .ref (a 48), .ref (a 49), .ref (a 50), .ref (a 51)]))) (h41 : ws0[41]? = some (a 41, .inl (cJ, 169, .inr (.inl m_joint)))) : Met l yX9_handsOf (wq yX9_handsOf cX9_handsOf 5 (some .long)) rm_X9_handsOf (Pq [.ref (a 35), .int p1] D cI cJ cZ ws0) (Qq (some (.long u))) 0 0 (fun _ => False) := by
  refine mq_of (by decide) (Nat.le_of_ble_eq_true rfl) (fun p e s m args below meth c ls Q hQ X _ hP hl => ?_)
  obtain ⟨hx, hb, hr, hml, hown, hts, hlk, hK, hN⟩ := id X
  have hown : s.vm.findClass RX9 = some m.cls := hown
  have hl : lv_has ls 5 [(0, .ref (a 35)), (1, .int p1)] := hl
  unfold FX9_handsOf at hF
  refine lv_lconst (v := (0 : Int64)) hx hb dX9_handsOf_0 (by decide) ?_
  refine lv_lstore_n (lv' := [(2, .long (0 : Int64)), (0, .ref (a 35)), (1, .int p1)]) hx hb dX9_handsOf_1 rfl hl (by decide) rfl (fun ls hl => ?_)
  refine lv_iconst (v := (0 : Int32)) hx hb dX9_handsOf_2 (by decide) ?_
  refine lv_istore (lv' := [(4, .int (0 : Int32)), (2, .long (0 : Int64)), (0, .ref (a 35)), (1, .int p1)]) hx hb dX9_handsOf_3 hl (by decide) rfl (fun ls hl => ?_)
  have hL5 : ∀ (nf : Nat) (x1 : Int64) (x2 : Int32) (r : Int64), itr (fun v => FX9_handsOf_S5 m_joint p1 v.1 v.2) nf (x1, x2) = some r → ∀ ls, lv_has ls 5 [(4, .int x2), (2, .long x1), (0, .ref (a 35)), (1, .int p1)] → (∀ o : Int64, r = o → ∀ ls, lv_has ls 5 [(2, .long o)] → W p l e rm_X9_handsOf s m args below meth c s.heap [] 0 0 Q (F0 m 33 ls [])) → W p l e rm_X9_handsOf s m args below meth c s.heap [] 0 0 Q (F0 m 5 ls []) := by
    intro nf
    induction nf with
    | zero => intro _ _ r hF; exact (itr_0 hF).elim
    | succ nf ih =>
      intro x1 x2 r hF ls hl hE
      obtain ⟨wo, hF, hw⟩ := itr_s hF
      replace hF : FX9_handsOf_S5 m_joint p1 x1 x2 = some wo := hF
      unfold FX9_handsOf_S5 at hF
      refine lv_iload hx hb dX9_handsOf_5 (lv_at hl 0 rfl) ?_
      refine lv_bipush (v := (13 : Int32)) hx hb dX9_handsOf_7 (by decide) ?_
      refine lv_icmp_ge (tgt := 33) hx hb dX9_handsOf_9 (by decide) (fun c3 => ?_) (fun c3 => ?_)
      · replace hF := (if_pos c3).symm.trans hF
        obtain rfl := Option.some.inj hF
        obtain rfl := hw
        exact hE _ rfl ls (lv_sub hl [1] rfl)
      · replace hF := (if_neg c3).symm.trans hF
        refine lv_lload_n hx hb dX9_handsOf_12 rfl (lv_at hl 1 rfl) ?_
        refine lv_aload_n hx hb dX9_handsOf_13 rfl (lv_at hl 2 rfl) ?_
        refine gf_X9_25 hx hb hts hown hK hP h35 dX9_handsOf_14 ?_
        refine lv_bipush (v := (13 : Int32)) hx hb dX9_handsOf_17 (by decide) ?_
        refine lv_iload_n hx hb dX9_handsOf_19 rfl (lv_at hl 3 rfl) ?_
        refine lv_imul hx hb dX9_handsOf_20 ?_
        refine lv_iload hx hb dX9_handsOf_21 (lv_at hl 0 rfl) ?_
        refine lv_iadd hx hb dX9_handsOf_23 ?_
        obtain ⟨hg4, hF⟩ := gd_some hF
        refine va_lald hx hb hK hP 41 1 h41 rfl hg4 dX9_handsOf_24 ?_
        refine lv_ladd hx hb dX9_handsOf_25 ?_
        refine lv_lstore_n (lv' := [(2, .long (x1 + (m_joint (((13 : Int32) * p1) + x2).toNatClampNeg))), (4, .int x2), (0, .ref (a 35)), (1, .int p1)]) hx hb dX9_handsOf_26 rfl hl (by decide) rfl (fun ls hl => ?_)
        refine lv_iinc (v := x2 + (1 : Int32)) (lv' := [(4, .int (x2 + (1 : Int32))), (2, .long (x1 + (m_joint (((13 : Int32) * p1) + x2).toNatClampNeg))), (0, .ref (a 35)), (1, .int p1)]) hx hb dX9_handsOf_27 hl (k := 1) rfl rfl (by decide) rfl (fun ls hl => ?_)
        refine lv_goto (tgt := 5) hx hb dX9_handsOf_30 (by decide) ?_
        obtain rfl := Option.some.inj hF
        exact ih _ _ _ hw ls (lv_sub hl [0, 1, 2, 3] rfl) hE
  obtain ⟨o5, ho5, hF⟩ := bd_some hF
  refine hL5 fu (0 : Int64) (0 : Int32) o5 ho5 ls (lv_sub hl [0, 1, 2, 3] rfl) ?_
  intro _ q_o5 ls hl
  subst q_o5
  refine lv_lload_n hx hb dX9_handsOf_33 rfl (lv_at hl 0 rfl) ?_
  obtain rfl := Option.some.inj hF
  rw [hQ]
  exact rt_l X dX9_handsOf_34
def FX9_hands (m_pupils : Int32) (m_mood : Int32) (m_pupil : Nat → Int32) (m_dares : Nat → Int32) (m_joint : Nat → Int64) (p1 : Int32) (p2 : Int32) (p3 : Int32) : Option (Int64 × (Nat → Int64)) :=
  if (FX9_isWait p1) = true then (if (FX9_in p2.toInt64 (0 : Int64) (12 : Int64)) = true then ((FX9_layJoint m_pupils m_mood m_joint m_pupil m_dares p1).bind fun u3 => (FX9_handsOf u3 p2).bind fun x5 => (FX9_whole m_pupils).bind fun x6 => (FX9_part x5 x6 p3).bind fun x7 => some (x7, u3)) else (some ((-2 : Int64), m_joint))) else (some ((-2 : Int64), m_joint))
def rm_X9_hands : Room := { frames := 2, cells := 0, slots := 0, locals := 45 }
set_option maxHeartbeats 4000000 in
set_option maxRecDepth 100000 in
theorem c_X9_hands (l : Launch) (D : va_G) (cI cJ cZ : ClassId) (a : Nat → Nat) (ws0 : va_W) (A : Nat → Prop)  (m_readMany : Int32) (m_pupils : Int32) (m_mood : Int32) (m_length : Int32) (m_at : Int32) (m_faultAt : Int32) (m_drawn : Int64) (m_questions : Int32) (m_rights : Int32) (m_wrongs : Int32) (m_tapes : Int32) (m_trials : Int32) (m_pupil : Nat → Int32) (m_dares : Nat → Int32) (m_joint : Nat → Int64) (p1 : Int32) (p2 : Int32) (p3 : Int32) (u : Int64 × (Nat → Int64)) (hF : FX9_hands m_pupils m_mood m_pupil m_dares m_joint p1 p2 p3 = some u) (z35 : ws0[35]? = some (a 35, .inr (9, [.ref (a 36), .int m_readMany, .ref (a 37), .int m_pupils, .ref (a 38), .ref (a 39), .int m_mood, .ref (a 40), .int m_length, .int m_at, .int m_faultAt, .ref (a 41), .ref (a 42), .long m_drawn, .int m_questions, .int m_rights, .int m_wrongs, .int m_tapes, .ref (a 43), .ref (a 44), .int m_trials, .ref (a 45), .ref (a 46), .ref (a 47), .ref (a 48), .ref (a 49), .ref (a 50), .ref (a 51)]))) (z37 : ws0[37]? = some (a 37, .inl (cI, 72, .inl m_pupil))) (z38 : ws0[38]? = some (a 38, .inl (cI, 12, .inl m_dares))) (z41 : ws0[41]? = some (a 41, .inl (cJ, 169, .inr (.inl m_joint)))) (hD : va_D A ws0) : Met l yX9_hands (wq yX9_hands cX9_hands 4 (some .long)) rm_X9_hands (Pq [.ref (a 35), .int p1, .int p2, .int p3] D cI cJ cZ ws0) (Qw D A ws0 [41] (some (.long u.1)) (fun w => w[41]? = some (a 41, .inl (cJ, 169, .inr (.inl u.2))))) 0 0 A := by
  refine mq_of (by decide) (Nat.le_of_ble_eq_true rfl) (fun p e s m args below meth c ls Q hQ X _ hP hl => ?_)
  obtain ⟨hx, hb, hr, hml, hown, hts, hlk, hK, hN⟩ := id X
  have hown : s.vm.findClass RX9 = some m.cls := hown
  have hl : lv_has ls 4 [(0, .ref (a 35)), (1, .int p1), (2, .int p2), (3, .int p3)] := hl
  have hS : va_S A s.heap s.heap [] := va_S.rf
  have hs : ∀ j : Nat, j ∉ [41] → ws0[j]? = ws0[j]? := fun _ _ => rfl
  have h35 := z35
  have h37 := z37
  have h38 := z38
  have h41 := z41
  unfold FX9_hands at hF
  refine lv_iload_n hx hb dX9_hands_0 rfl (lv_at hl 1 rfl) ?_
  refine rd_i (runS (As := [.int p1]) (rest := []) X cq_X9_isWait lk_X9_121 (c_X9_isWait l D cI cJ cZ a ws0 p1 _ rfl ) rfl rfl ⟨Nat.le_of_ble_eq_true rfl, Nat.le_of_ble_eq_true rfl⟩ hP rfl hl.1 rfl (Nat.le_of_ble_eq_true rfl) dX9_hands_1 ⟨Nat.le_of_ble_eq_true rfl, Nat.le_of_ble_eq_true rfl⟩) ?_
  refine zf_eq (tgt := 19) hx hb dX9_hands_4 (by decide) (fun c1 => ?_) (fun c1 => ?_)
  · replace hF := (if_neg c1).symm.trans hF
    refine lv_ldc2 (v := (-2 : Int64)) hx hb hown (hts _ kl_X9_135) dX9_hands_19 ?_
    obtain rfl := Option.some.inj hF
    rw [hQ]
    exact rw_l X hS hP hD hs h41 dX9_hands_22
  · replace hF := (if_pos c1).symm.trans hF
    refine lv_iload_n hx hb dX9_hands_7 rfl (lv_at hl 2 rfl) ?_
    refine lv_i2l hx hb dX9_hands_8 rfl ?_
    refine lv_lconst (v := (0 : Int64)) hx hb dX9_hands_9 (by decide) ?_
    refine lv_ldc2 (v := (12 : Int64)) hx hb hown (hts _ kl_X9_133) dX9_hands_10 ?_
    refine rd_i (runS (As := [.long p2.toInt64, .long (0 : Int64), .long (12 : Int64)]) (rest := []) X cq_X9_in lk_X9_66 (c_X9_in l D cI cJ cZ a ws0 p2.toInt64 (0 : Int64) (12 : Int64) _ rfl ) rfl rfl ⟨Nat.le_of_ble_eq_true rfl, Nat.le_of_ble_eq_true rfl⟩ hP rfl hl.1 rfl (Nat.le_of_ble_eq_true rfl) dX9_hands_13 ⟨Nat.le_of_ble_eq_true rfl, Nat.le_of_ble_eq_true rfl⟩) ?_
    refine zf_ne (tgt := 23) hx hb dX9_hands_16 (by decide) (fun c2 => ?_) (fun c2 => ?_)
    · replace hF := (if_pos c2).symm.trans hF
      refine lv_aload_n hx hb dX9_hands_23 rfl (lv_at hl 0 rfl) ?_
      refine lv_iload_n hx hb dX9_hands_24 rfl (lv_at hl 1 rfl) ?_
      obtain ⟨u3, hu3, hF⟩ := bd_some hF
      refine wr_v (runV (As := [.int p1]) (rest := []) X cq_X9_layJoint lk_X9_137 (c_X9_layJoint l D cI cJ cZ a ws0 A m_readMany m_pupils m_mood m_length m_at m_faultAt m_drawn m_questions m_rights m_wrongs m_tapes m_trials m_joint m_pupil m_dares p1 u3 hu3 h35 h37 h38 h41 hD) rfl rfl ⟨Nat.le_of_ble_eq_true rfl, Nat.le_of_ble_eq_true rfl⟩ hP h35 rfl rfl hl.1 rfl (Nat.le_of_ble_eq_true rfl) dX9_hands_25 ⟨Nat.le_of_ble_eq_true rfl, Nat.le_of_ble_eq_true rfl⟩) hS (fun w4 H locs hP hD hk hB hS => ?_)
      have h41 : w4[41]? = some (a 41, .inl (cJ, 169, .inr (.inl u3))) := hB
      have h35 := (hk 35 (by simp only [List.mem_cons, List.not_mem_nil, or_false, not_or]; omega)).trans h35
      have h37 := (hk 37 (by simp only [List.mem_cons, List.not_mem_nil, or_false, not_or]; omega)).trans h37
      have h38 := (hk 38 (by simp only [List.mem_cons, List.not_mem_nil, or_false, not_or]; omega)).trans h38
      replace hs := st_tr hk (fun j hj => by simp only [List.mem_cons, List.not_mem_nil, or_false] at hj ⊢; omega) hs
      refine lv_aload_n hx hb dX9_hands_28 rfl (lv_at hl 0 rfl) ?_
      refine lv_iload_n hx hb dX9_hands_29 rfl (lv_at hl 2 rfl) ?_
      obtain ⟨x5, hx5, hF⟩ := bd_some hF
      refine rd_l (runV (As := [.int p2]) (rest := []) X cq_X9_handsOf lk_X9_141 (c_X9_handsOf l D cI cJ cZ a w4 m_readMany m_pupils m_mood m_length m_at m_faultAt m_drawn m_questions m_rights m_wrongs m_tapes m_trials u3 p2 x5 hx5 h35 h41) rfl rfl ⟨Nat.le_of_ble_eq_true rfl, Nat.le_of_ble_eq_true rfl⟩ hP h35 rfl rfl hl.1 rfl (Nat.le_of_ble_eq_true rfl) dX9_hands_30 ⟨Nat.le_of_ble_eq_true rfl, Nat.le_of_ble_eq_true rfl⟩) ?_
      refine lv_aload_n hx hb dX9_hands_33 rfl (lv_at hl 0 rfl) ?_
      obtain ⟨x6, hx6, hF⟩ := bd_some hF
      refine rd_l (runV (As := []) (rest := [.long x5]) X cq_X9_whole lk_X9_145 (c_X9_whole l D cI cJ cZ a w4 m_readMany m_pupils m_mood m_length m_at m_faultAt m_drawn m_questions m_rights m_wrongs m_tapes m_trials x6 hx6 h35) rfl rfl ⟨Nat.le_of_ble_eq_true rfl, Nat.le_of_ble_eq_true rfl⟩ hP h35 rfl rfl hl.1 rfl (Nat.le_of_ble_eq_true rfl) dX9_hands_34 ⟨Nat.le_of_ble_eq_true rfl, Nat.le_of_ble_eq_true rfl⟩) ?_
      refine lv_iload_n hx hb dX9_hands_37 rfl (lv_at hl 3 rfl) ?_
      obtain ⟨x7, hx7, hF⟩ := bd_some hF
      refine rd_l (runS (As := [.long x5, .long x6, .int p3]) (rest := []) X cq_X9_part lk_X9_149 (c_X9_part l D cI cJ cZ a w4 x5 x6 p3 x7 hx7 ) rfl rfl ⟨Nat.le_of_ble_eq_true rfl, Nat.le_of_ble_eq_true rfl⟩ hP rfl hl.1 rfl (Nat.le_of_ble_eq_true rfl) dX9_hands_38 ⟨Nat.le_of_ble_eq_true rfl, Nat.le_of_ble_eq_true rfl⟩) ?_
      obtain rfl := Option.some.inj hF
      rw [hQ]
      exact rw_l X hS hP hD hs h41 dX9_hands_41
    · replace hF := (if_neg c2).symm.trans hF
      refine lv_ldc2 (v := (-2 : Int64)) hx hb hown (hts _ kl_X9_135) dX9_hands_19 ?_
      obtain rfl := Option.some.inj hF
      rw [hQ]
      exact rw_l X hS hP hD hs h41 dX9_hands_22
def FX9_given (m_pupils : Int32) (m_mood : Int32) (m_pupil : Nat → Int32) (m_dares : Nat → Int32) (m_joint : Nat → Int64) (p1 : Int32) (p2 : Int32) (p3 : Int32) (p4 : Int32) : Option (Int64 × (Nat → Int64)) :=
  if (FX9_isWait p1) = true then (if (FX9_in p2.toInt64 (0 : Int64) (12 : Int64)) = true then (if (FX9_in p3.toInt64 (0 : Int64) (12 : Int64)) = true then ((FX9_layJoint m_pupils m_mood m_joint m_pupil m_dares p1).bind fun u4 => (FX9_handsOf u4 p2).bind fun x6 => if x6 = (0 : Int64) then (some ((-3 : Int64), u4)) else (if (((13 : Int32) * p2) + p3) < 0 ∨ 169 ≤ (((13 : Int32) * p2) + p3).toNatClampNeg then none else (FX9_handsOf u4 p2).bind fun x9 => (FX9_part (u4 (((13 : Int32) * p2) + p3).toNatClampNeg) x9 p4).bind fun x10 => some (x10, u4))) else (some ((-2 : Int64), m_joint))) else (some ((-2 : Int64), m_joint))) else (some ((-2 : Int64), m_joint))
def rm_X9_given : Room := { frames := 2, cells := 0, slots := 0, locals := 45 }
set_option maxHeartbeats 4000000 in
set_option maxRecDepth 100000 in
theorem c_X9_given (l : Launch) (D : va_G) (cI cJ cZ : ClassId) (a : Nat → Nat) (ws0 : va_W) (A : Nat → Prop)  (m_readMany : Int32) (m_pupils : Int32) (m_mood : Int32) (m_length : Int32) (m_at : Int32) (m_faultAt : Int32) (m_drawn : Int64) (m_questions : Int32) (m_rights : Int32) (m_wrongs : Int32) (m_tapes : Int32) (m_trials : Int32) (m_pupil : Nat → Int32) (m_dares : Nat → Int32) (m_joint : Nat → Int64) (p1 : Int32) (p2 : Int32) (p3 : Int32) (p4 : Int32) (u : Int64 × (Nat → Int64)) (hF : FX9_given m_pupils m_mood m_pupil m_dares m_joint p1 p2 p3 p4 = some u) (z35 : ws0[35]? = some (a 35, .inr (9, [.ref (a 36), .int m_readMany, .ref (a 37), .int m_pupils, .ref (a 38), .ref (a 39), .int m_mood, .ref (a 40), .int m_length, .int m_at, .int m_faultAt, .ref (a 41), .ref (a 42), .long m_drawn, .int m_questions, .int m_rights, .int m_wrongs, .int m_tapes, .ref (a 43), .ref (a 44), .int m_trials, .ref (a 45), .ref (a 46), .ref (a 47), .ref (a 48), .ref (a 49), .ref (a 50), .ref (a 51)]))) (z37 : ws0[37]? = some (a 37, .inl (cI, 72, .inl m_pupil))) (z38 : ws0[38]? = some (a 38, .inl (cI, 12, .inl m_dares))) (z41 : ws0[41]? = some (a 41, .inl (cJ, 169, .inr (.inl m_joint)))) (hD : va_D A ws0) : Met l yX9_given (wq yX9_given cX9_given 5 (some .long)) rm_X9_given (Pq [.ref (a 35), .int p1, .int p2, .int p3, .int p4] D cI cJ cZ ws0) (Qw D A ws0 [41] (some (.long u.1)) (fun w => w[41]? = some (a 41, .inl (cJ, 169, .inr (.inl u.2))))) 0 0 A := by
  refine mq_of (by decide) (Nat.le_of_ble_eq_true rfl) (fun p e s m args below meth c ls Q hQ X _ hP hl => ?_)
  obtain ⟨hx, hb, hr, hml, hown, hts, hlk, hK, hN⟩ := id X
  have hown : s.vm.findClass RX9 = some m.cls := hown
  have hl : lv_has ls 5 [(0, .ref (a 35)), (1, .int p1), (2, .int p2), (3, .int p3), (4, .int p4)] := hl
  have hS : va_S A s.heap s.heap [] := va_S.rf
  have hs : ∀ j : Nat, j ∉ [41] → ws0[j]? = ws0[j]? := fun _ _ => rfl
  have h35 := z35
  have h37 := z37
  have h38 := z38
  have h41 := z41
  unfold FX9_given at hF
  refine lv_iload_n hx hb dX9_given_0 rfl (lv_at hl 1 rfl) ?_
  refine rd_i (runS (As := [.int p1]) (rest := []) X cq_X9_isWait lk_X9_121 (c_X9_isWait l D cI cJ cZ a ws0 p1 _ rfl ) rfl rfl ⟨Nat.le_of_ble_eq_true rfl, Nat.le_of_ble_eq_true rfl⟩ hP rfl hl.1 rfl (Nat.le_of_ble_eq_true rfl) dX9_given_1 ⟨Nat.le_of_ble_eq_true rfl, Nat.le_of_ble_eq_true rfl⟩) ?_
  refine zf_eq (tgt := 31) hx hb dX9_given_4 (by decide) (fun c1 => ?_) (fun c1 => ?_)
  · replace hF := (if_neg c1).symm.trans hF
    refine lv_ldc2 (v := (-2 : Int64)) hx hb hown (hts _ kl_X9_135) dX9_given_31 ?_
    obtain rfl := Option.some.inj hF
    rw [hQ]
    exact rw_l X hS hP hD hs h41 dX9_given_34
  · replace hF := (if_pos c1).symm.trans hF
    refine lv_iload_n hx hb dX9_given_7 rfl (lv_at hl 2 rfl) ?_
    refine lv_i2l hx hb dX9_given_8 rfl ?_
    refine lv_lconst (v := (0 : Int64)) hx hb dX9_given_9 (by decide) ?_
    refine lv_ldc2 (v := (12 : Int64)) hx hb hown (hts _ kl_X9_133) dX9_given_10 ?_
    refine rd_i (runS (As := [.long p2.toInt64, .long (0 : Int64), .long (12 : Int64)]) (rest := []) X cq_X9_in lk_X9_66 (c_X9_in l D cI cJ cZ a ws0 p2.toInt64 (0 : Int64) (12 : Int64) _ rfl ) rfl rfl ⟨Nat.le_of_ble_eq_true rfl, Nat.le_of_ble_eq_true rfl⟩ hP rfl hl.1 rfl (Nat.le_of_ble_eq_true rfl) dX9_given_13 ⟨Nat.le_of_ble_eq_true rfl, Nat.le_of_ble_eq_true rfl⟩) ?_
    refine zf_eq (tgt := 31) hx hb dX9_given_16 (by decide) (fun c2 => ?_) (fun c2 => ?_)
    · replace hF := (if_neg c2).symm.trans hF
      refine lv_ldc2 (v := (-2 : Int64)) hx hb hown (hts _ kl_X9_135) dX9_given_31 ?_
      obtain rfl := Option.some.inj hF
      rw [hQ]
      exact rw_l X hS hP hD hs h41 dX9_given_34
    · replace hF := (if_pos c2).symm.trans hF
      refine lv_iload_n hx hb dX9_given_19 rfl (lv_at hl 3 rfl) ?_
      refine lv_i2l hx hb dX9_given_20 rfl ?_
      refine lv_lconst (v := (0 : Int64)) hx hb dX9_given_21 (by decide) ?_
      refine lv_ldc2 (v := (12 : Int64)) hx hb hown (hts _ kl_X9_133) dX9_given_22 ?_
      refine rd_i (runS (As := [.long p3.toInt64, .long (0 : Int64), .long (12 : Int64)]) (rest := []) X cq_X9_in lk_X9_66 (c_X9_in l D cI cJ cZ a ws0 p3.toInt64 (0 : Int64) (12 : Int64) _ rfl ) rfl rfl ⟨Nat.le_of_ble_eq_true rfl, Nat.le_of_ble_eq_true rfl⟩ hP rfl hl.1 rfl (Nat.le_of_ble_eq_true rfl) dX9_given_25 ⟨Nat.le_of_ble_eq_true rfl, Nat.le_of_ble_eq_true rfl⟩) ?_
      refine zf_ne (tgt := 35) hx hb dX9_given_28 (by decide) (fun c3 => ?_) (fun c3 => ?_)
      · replace hF := (if_pos c3).symm.trans hF
        refine lv_aload_n hx hb dX9_given_35 rfl (lv_at hl 0 rfl) ?_
        refine lv_iload_n hx hb dX9_given_36 rfl (lv_at hl 1 rfl) ?_
        obtain ⟨u4, hu4, hF⟩ := bd_some hF
        refine wr_v (runV (As := [.int p1]) (rest := []) X cq_X9_layJoint lk_X9_137 (c_X9_layJoint l D cI cJ cZ a ws0 A m_readMany m_pupils m_mood m_length m_at m_faultAt m_drawn m_questions m_rights m_wrongs m_tapes m_trials m_joint m_pupil m_dares p1 u4 hu4 h35 h37 h38 h41 hD) rfl rfl ⟨Nat.le_of_ble_eq_true rfl, Nat.le_of_ble_eq_true rfl⟩ hP h35 rfl rfl hl.1 rfl (Nat.le_of_ble_eq_true rfl) dX9_given_37 ⟨Nat.le_of_ble_eq_true rfl, Nat.le_of_ble_eq_true rfl⟩) hS (fun w5 H locs hP hD hk hB hS => ?_)
        have h41 : w5[41]? = some (a 41, .inl (cJ, 169, .inr (.inl u4))) := hB
        have h35 := (hk 35 (by simp only [List.mem_cons, List.not_mem_nil, or_false, not_or]; omega)).trans h35
        have h37 := (hk 37 (by simp only [List.mem_cons, List.not_mem_nil, or_false, not_or]; omega)).trans h37
        have h38 := (hk 38 (by simp only [List.mem_cons, List.not_mem_nil, or_false, not_or]; omega)).trans h38
        replace hs := st_tr hk (fun j hj => by simp only [List.mem_cons, List.not_mem_nil, or_false] at hj ⊢; omega) hs
        refine lv_aload_n hx hb dX9_given_40 rfl (lv_at hl 0 rfl) ?_
        refine lv_iload_n hx hb dX9_given_41 rfl (lv_at hl 2 rfl) ?_
        obtain ⟨x6, hx6, hF⟩ := bd_some hF
        refine rd_l (runV (As := [.int p2]) (rest := []) X cq_X9_handsOf lk_X9_141 (c_X9_handsOf l D cI cJ cZ a w5 m_readMany m_pupils m_mood m_length m_at m_faultAt m_drawn m_questions m_rights m_wrongs m_tapes m_trials u4 p2 x6 hx6 h35 h41) rfl rfl ⟨Nat.le_of_ble_eq_true rfl, Nat.le_of_ble_eq_true rfl⟩ hP h35 rfl rfl hl.1 rfl (Nat.le_of_ble_eq_true rfl) dX9_given_42 ⟨Nat.le_of_ble_eq_true rfl, Nat.le_of_ble_eq_true rfl⟩) ?_
        refine lv_lconst (v := (0 : Int64)) hx hb dX9_given_45 (by decide) ?_
        refine W.lcmp hx hb dX9_given_46 ?_
        refine lv_if_ne (tgt := 56) hx hb dX9_given_47 (by decide) (fun c7 => ?_) (fun c7 => ?_)
        · replace c7 := fun q => c7 ((lc_eq x6 (0 : Int64)).mpr q)
          replace hF := (if_neg c7).symm.trans hF
          refine lv_aload_n hx hb dX9_given_56 rfl (lv_at hl 0 rfl) ?_
          refine gf_X9_25 hx hb hts hown hK hP h35 dX9_given_57 ?_
          refine lv_bipush (v := (13 : Int32)) hx hb dX9_given_60 (by decide) ?_
          refine lv_iload_n hx hb dX9_given_62 rfl (lv_at hl 2 rfl) ?_
          refine lv_imul hx hb dX9_given_63 ?_
          refine lv_iload_n hx hb dX9_given_64 rfl (lv_at hl 3 rfl) ?_
          refine lv_iadd hx hb dX9_given_65 ?_
          obtain ⟨hg8, hF⟩ := gd_some hF
          refine va_lald hx hb hK hP 41 1 h41 rfl hg8 dX9_given_66 ?_
          refine lv_aload_n hx hb dX9_given_67 rfl (lv_at hl 0 rfl) ?_
          refine lv_iload_n hx hb dX9_given_68 rfl (lv_at hl 2 rfl) ?_
          obtain ⟨x9, hx9, hF⟩ := bd_some hF
          refine rd_l (runV (As := [.int p2]) (rest := [.long (u4 (((13 : Int32) * p2) + p3).toNatClampNeg)]) X cq_X9_handsOf lk_X9_141 (c_X9_handsOf l D cI cJ cZ a w5 m_readMany m_pupils m_mood m_length m_at m_faultAt m_drawn m_questions m_rights m_wrongs m_tapes m_trials u4 p2 x9 hx9 h35 h41) rfl rfl ⟨Nat.le_of_ble_eq_true rfl, Nat.le_of_ble_eq_true rfl⟩ hP h35 rfl rfl hl.1 rfl (Nat.le_of_ble_eq_true rfl) dX9_given_69 ⟨Nat.le_of_ble_eq_true rfl, Nat.le_of_ble_eq_true rfl⟩) ?_
          refine lv_iload hx hb dX9_given_72 (lv_at hl 4 rfl) ?_
          obtain ⟨x10, hx10, hF⟩ := bd_some hF
          refine rd_l (runS (As := [.long (u4 (((13 : Int32) * p2) + p3).toNatClampNeg), .long x9, .int p4]) (rest := []) X cq_X9_part lk_X9_149 (c_X9_part l D cI cJ cZ a w5 (u4 (((13 : Int32) * p2) + p3).toNatClampNeg) x9 p4 x10 hx10 ) rfl rfl ⟨Nat.le_of_ble_eq_true rfl, Nat.le_of_ble_eq_true rfl⟩ hP rfl hl.1 rfl (Nat.le_of_ble_eq_true rfl) dX9_given_74 ⟨Nat.le_of_ble_eq_true rfl, Nat.le_of_ble_eq_true rfl⟩) ?_
          obtain rfl := Option.some.inj hF
          rw [hQ]
          exact rw_l X hS hP hD hs h41 dX9_given_77
        · replace c7 := (lc_eq x6 (0 : Int64)).mp c7
          replace hF := (if_pos c7).symm.trans hF
          refine lv_ldc2 (v := (-3 : Int64)) hx hb hown (hts _ kl_X9_153) dX9_given_50 ?_
          refine lv_goto (tgt := 77) hx hb dX9_given_53 (by decide) ?_
          obtain rfl := Option.some.inj hF
          rw [hQ]
          exact rw_l X hS hP hD hs h41 dX9_given_77
      · replace hF := (if_neg c3).symm.trans hF
        refine lv_ldc2 (v := (-2 : Int64)) hx hb hown (hts _ kl_X9_135) dX9_given_31 ?_
        obtain rfl := Option.some.inj hF
        rw [hQ]
        exact rw_l X hS hP hD hs h41 dX9_given_34
