def FX9_likely_S45 (p2 : Int32) (u3 : (Nat → Int64)) (x7 : Int32) (x8 : Int32) : Option ((Int32 × Int32) ⊕ (Int32)) :=
  if (13 : Int32) ≤ x8 then (some (.inr x7)) else (if (((13 : Int32) * p2) + x8) < 0 ∨ 169 ≤ (((13 : Int32) * p2) + x8).toNatClampNeg then none else if (((13 : Int32) * p2) + x7) < 0 ∨ 169 ≤ (((13 : Int32) * p2) + x7).toNatClampNeg then none else if (u3 (((13 : Int32) * p2) + x8).toNatClampNeg) ≤ (u3 (((13 : Int32) * p2) + x7).toNatClampNeg) then (some (.inl (x7, x8 + (1 : Int32)))) else (some (.inl (x8, x8 + (1 : Int32)))))
def FX9_likely (m_pupils : Int32) (m_mood : Int32) (m_pupil : Nat → Int32) (m_dares : Nat → Int32) (m_joint : Nat → Int64) (p1 : Int32) (p2 : Int32) : Option (Int32 × (Nat → Int64)) :=
  if (FX9_isWait p1) = true then (if (FX9_in p2.toInt64 (0 : Int64) (12 : Int64)) = true then ((FX9_layJoint m_pupils m_mood m_joint m_pupil m_dares p1).bind fun u3 => (FX9_handsOf u3 p2).bind fun x5 => if x5 = (0 : Int64) then (some ((-3 : Int32), u3)) else ((itr (fun v => FX9_likely_S45 p2 u3 v.1 v.2) fu ((0 : Int32), (1 : Int32))).bind fun o13 => some (o13, u3))) else (some ((-2 : Int32), m_joint))) else (some ((-2 : Int32), m_joint))
def rm_X9_likely : Room := { frames := 2, cells := 0, slots := 0, locals := 45 }
set_option maxHeartbeats 4000000 in
set_option maxRecDepth 100000 in
theorem c_X9_likely (l : Launch) (D : va_G) (cI cJ cZ : ClassId) (a : Nat → Nat) (ws0 : va_W) (A : Nat → Prop)  (m_readMany : Int32) (m_pupils : Int32) (m_mood : Int32) (m_length : Int32) (m_at : Int32) (m_faultAt : Int32) (m_drawn : Int64) (m_questions : Int32) (m_rights : Int32) (m_wrongs : Int32) (m_tapes : Int32) (m_trials : Int32) (m_pupil : Nat → Int32) (m_dares : Nat → Int32) (m_joint : Nat → Int64) (p1 : Int32) (p2 : Int32) (u : Int32 × (Nat → Int64)) (hF : FX9_likely m_pupils m_mood m_pupil m_dares m_joint p1 p2 = some u) (z35 : ws0[35]? = some (a 35, .inr (9, [.ref (a 36), .int m_readMany, .ref (a 37), .int m_pupils, .ref (a 38), .ref (a 39), .int m_mood, .ref (a 40), .int m_length, .int m_at, .int m_faultAt, .ref (a 41), .ref (a 42), .long m_drawn, .int m_questions, .int m_rights, .int m_wrongs, .int m_tapes, .ref (a 43), .ref (a 44), .int m_trials, .ref (a 45), .ref (a 46), .ref (a 47), .ref (a 48), .ref (a 49), .ref (a 50), .ref (a 51)]))) (z37 : ws0[37]? = some (a 37, .inl (cI, 72, .inl m_pupil))) (z38 : ws0[38]? = some (a 38, .inl (cI, 12, .inl m_dares))) (z41 : ws0[41]? = some (a 41, .inl (cJ, 169, .inr (.inl m_joint)))) (hD : va_D A ws0) : Met l yX9_likely (wq yX9_likely cX9_likely 5 (some .int)) rm_X9_likely (Pq [.ref (a 35), .int p1, .int p2] D cI cJ cZ ws0) (Qw D A ws0 [41] (some (.int u.1)) (fun w => w[41]? = some (a 41, .inl (cJ, 169, .inr (.inl u.2))))) 0 0 A := by
  refine mq_of (by decide) (Nat.le_of_ble_eq_true rfl) (fun p e s m args below meth c ls Q hQ X _ hP hl => ?_)
  obtain ⟨hx, hb, hr, hml, hown, hts, hlk, hK, hN⟩ := id X
  have hown : s.vm.findClass RX9 = some m.cls := hown
  have hl : lv_has ls 5 [(0, .ref (a 35)), (1, .int p1), (2, .int p2)] := hl
  have hS : va_S A s.heap s.heap [] := va_S.rf
  have hs : ∀ j : Nat, j ∉ [41] → ws0[j]? = ws0[j]? := fun _ _ => rfl
  have h35 := z35
  have h37 := z37
  have h38 := z38
  have h41 := z41
  unfold FX9_likely at hF
  refine lv_iload_n hx hb dX9_likely_0 rfl (lv_at hl 1 rfl) ?_
  refine rd_i (runS (As := [.int p1]) (rest := []) X cq_X9_isWait lk_X9_121 (c_X9_isWait l D cI cJ cZ a ws0 p1 _ rfl ) rfl rfl ⟨Nat.le_of_ble_eq_true rfl, Nat.le_of_ble_eq_true rfl⟩ hP rfl hl.1 rfl (Nat.le_of_ble_eq_true rfl) dX9_likely_1 ⟨Nat.le_of_ble_eq_true rfl, Nat.le_of_ble_eq_true rfl⟩) ?_
  refine zf_eq (tgt := 19) hx hb dX9_likely_4 (by decide) (fun c1 => ?_) (fun c1 => ?_)
  · replace hF := (if_neg c1).symm.trans hF
    refine lv_bipush (v := (-2 : Int32)) hx hb dX9_likely_19 (by decide) ?_
    obtain rfl := Option.some.inj hF
    rw [hQ]
    exact rw_i X hS hP hD hs h41 dX9_likely_21
  · replace hF := (if_pos c1).symm.trans hF
    refine lv_iload_n hx hb dX9_likely_7 rfl (lv_at hl 2 rfl) ?_
    refine lv_i2l hx hb dX9_likely_8 rfl ?_
    refine lv_lconst (v := (0 : Int64)) hx hb dX9_likely_9 (by decide) ?_
    refine lv_ldc2 (v := (12 : Int64)) hx hb hown (hts _ kl_X9_133) dX9_likely_10 ?_
    refine rd_i (runS (As := [.long p2.toInt64, .long (0 : Int64), .long (12 : Int64)]) (rest := []) X cq_X9_in lk_X9_66 (c_X9_in l D cI cJ cZ a ws0 p2.toInt64 (0 : Int64) (12 : Int64) _ rfl ) rfl rfl ⟨Nat.le_of_ble_eq_true rfl, Nat.le_of_ble_eq_true rfl⟩ hP rfl hl.1 rfl (Nat.le_of_ble_eq_true rfl) dX9_likely_13 ⟨Nat.le_of_ble_eq_true rfl, Nat.le_of_ble_eq_true rfl⟩) ?_
    refine zf_ne (tgt := 22) hx hb dX9_likely_16 (by decide) (fun c2 => ?_) (fun c2 => ?_)
    · replace hF := (if_pos c2).symm.trans hF
      refine lv_aload_n hx hb dX9_likely_22 rfl (lv_at hl 0 rfl) ?_
      refine lv_iload_n hx hb dX9_likely_23 rfl (lv_at hl 1 rfl) ?_
      obtain ⟨u3, hu3, hF⟩ := bd_some hF
      refine wr_v (runV (As := [.int p1]) (rest := []) X cq_X9_layJoint lk_X9_137 (c_X9_layJoint l D cI cJ cZ a ws0 A m_readMany m_pupils m_mood m_length m_at m_faultAt m_drawn m_questions m_rights m_wrongs m_tapes m_trials m_joint m_pupil m_dares p1 u3 hu3 h35 h37 h38 h41 hD) rfl rfl ⟨Nat.le_of_ble_eq_true rfl, Nat.le_of_ble_eq_true rfl⟩ hP h35 rfl rfl hl.1 rfl (Nat.le_of_ble_eq_true rfl) dX9_likely_24 ⟨Nat.le_of_ble_eq_true rfl, Nat.le_of_ble_eq_true rfl⟩) hS (fun w4 H locs hP hD hk hB hS => ?_)
      have h41 : w4[41]? = some (a 41, .inl (cJ, 169, .inr (.inl u3))) := hB
      have h35 := (hk 35 (by simp only [List.mem_cons, List.not_mem_nil, or_false, not_or]; omega)).trans h35
      have h37 := (hk 37 (by simp only [List.mem_cons, List.not_mem_nil, or_false, not_or]; omega)).trans h37
      have h38 := (hk 38 (by simp only [List.mem_cons, List.not_mem_nil, or_false, not_or]; omega)).trans h38
      replace hs := st_tr hk (fun j hj => by simp only [List.mem_cons, List.not_mem_nil, or_false] at hj ⊢; omega) hs
      refine lv_aload_n hx hb dX9_likely_27 rfl (lv_at hl 0 rfl) ?_
      refine lv_iload_n hx hb dX9_likely_28 rfl (lv_at hl 2 rfl) ?_
      obtain ⟨x5, hx5, hF⟩ := bd_some hF
      refine rd_l (runV (As := [.int p2]) (rest := []) X cq_X9_handsOf lk_X9_141 (c_X9_handsOf l D cI cJ cZ a w4 m_readMany m_pupils m_mood m_length m_at m_faultAt m_drawn m_questions m_rights m_wrongs m_tapes m_trials u3 p2 x5 hx5 h35 h41) rfl rfl ⟨Nat.le_of_ble_eq_true rfl, Nat.le_of_ble_eq_true rfl⟩ hP h35 rfl rfl hl.1 rfl (Nat.le_of_ble_eq_true rfl) dX9_likely_29 ⟨Nat.le_of_ble_eq_true rfl, Nat.le_of_ble_eq_true rfl⟩) ?_
      refine lv_lconst (v := (0 : Int64)) hx hb dX9_likely_32 (by decide) ?_
      refine W.lcmp hx hb dX9_likely_33 ?_
      refine lv_if_ne (tgt := 40) hx hb dX9_likely_34 (by decide) (fun c6 => ?_) (fun c6 => ?_)
      · replace c6 := fun q => c6 ((lc_eq x5 (0 : Int64)).mpr q)
        replace hF := (if_neg c6).symm.trans hF
        refine lv_iconst (v := (0 : Int32)) hx hb dX9_likely_40 (by decide) ?_
        refine lv_istore_n (lv' := [(3, .int (0 : Int32)), (0, .ref (a 35)), (1, .int p1), (2, .int p2)]) hx hb dX9_likely_41 rfl hl (by decide) rfl (fun ls hl => ?_)
        refine lv_iconst (v := (1 : Int32)) hx hb dX9_likely_42 (by decide) ?_
        refine lv_istore (lv' := [(4, .int (1 : Int32)), (3, .int (0 : Int32)), (0, .ref (a 35)), (1, .int p1), (2, .int p2)]) hx hb dX9_likely_43 hl (by decide) rfl (fun ls hl => ?_)
        have hL45 : ∀ (nf : Nat) (x7 : Int32) (x8 : Int32) (r : Int32), itr (fun v => FX9_likely_S45 p2 u3 v.1 v.2) nf (x7, x8) = some r → ∀ (wJ : va_W) (HJ : Heap) (lJ : List Loc), va_P D vwCl wJ HJ → va_D A wJ → va_S A s.heap HJ lJ → (∀ j : Nat, j ∉ [41] → wJ[j]? = ws0[j]?) → wJ[41]? = some (a 41, .inl (cJ, 169, .inr (.inl u3))) → ∀ ls, lv_has ls 5 [(4, .int x8), (3, .int x7), (0, .ref (a 35)), (2, .int p2)] → (∀ o : Int32, r = o → ∀ (wK : va_W) (HK : Heap) (lK : List Loc), va_P D vwCl wK HK → va_D A wK → va_S A s.heap HK lK → (∀ j : Nat, j ∉ [41] → wK[j]? = ws0[j]?) → wK[41]? = some (a 41, .inl (cJ, 169, .inr (.inl u3))) → ∀ ls, lv_has ls 5 [(3, .int o)] → W p l e rm_X9_likely s m args below meth c HK lK 0 0 Q (F0 m 92 ls [])) → W p l e rm_X9_likely s m args below meth c HJ lJ 0 0 Q (F0 m 45 ls []) := by
          intro nf
          induction nf with
          | zero => intro _ _ r hF; exact (itr_0 hF).elim
          | succ nf ih =>
            intro x7 x8 r hF w H locs hP hD hS hs h41 ls hl hE
            obtain ⟨wo, hF, hw⟩ := itr_s hF
            replace hF : FX9_likely_S45 p2 u3 x7 x8 = some wo := hF
            have h35 := (hs 35 (by simp only [List.mem_cons, List.not_mem_nil, or_false, not_or]; omega)).trans z35
            have h37 := (hs 37 (by simp only [List.mem_cons, List.not_mem_nil, or_false, not_or]; omega)).trans z37
            have h38 := (hs 38 (by simp only [List.mem_cons, List.not_mem_nil, or_false, not_or]; omega)).trans z38
            unfold FX9_likely_S45 at hF
            refine lv_iload hx hb dX9_likely_45 (lv_at hl 0 rfl) ?_
            refine lv_bipush (v := (13 : Int32)) hx hb dX9_likely_47 (by decide) ?_
            refine lv_icmp_ge (tgt := 92) hx hb dX9_likely_49 (by decide) (fun c9 => ?_) (fun c9 => ?_)
            · replace hF := (if_pos c9).symm.trans hF
              obtain rfl := Option.some.inj hF
              obtain rfl := hw
              exact hE _ rfl _ _ _ hP hD hS hs h41 ls (lv_sub hl [1] rfl)
            · replace hF := (if_neg c9).symm.trans hF
              refine lv_aload_n hx hb dX9_likely_52 rfl (lv_at hl 2 rfl) ?_
              refine gf_X9_25 hx hb hts hown hK hP h35 dX9_likely_53 ?_
              refine lv_bipush (v := (13 : Int32)) hx hb dX9_likely_56 (by decide) ?_
              refine lv_iload_n hx hb dX9_likely_58 rfl (lv_at hl 3 rfl) ?_
              refine lv_imul hx hb dX9_likely_59 ?_
              refine lv_iload hx hb dX9_likely_60 (lv_at hl 0 rfl) ?_
              refine lv_iadd hx hb dX9_likely_62 ?_
              obtain ⟨hg10, hF⟩ := gd_some hF
              refine va_lald hx hb hK hP 41 1 h41 rfl hg10 dX9_likely_63 ?_
              refine lv_aload_n hx hb dX9_likely_64 rfl (lv_at hl 2 rfl) ?_
              refine gf_X9_25 hx hb hts hown hK hP h35 dX9_likely_65 ?_
              refine lv_bipush (v := (13 : Int32)) hx hb dX9_likely_68 (by decide) ?_
              refine lv_iload_n hx hb dX9_likely_70 rfl (lv_at hl 3 rfl) ?_
              refine lv_imul hx hb dX9_likely_71 ?_
              refine lv_iload_n hx hb dX9_likely_72 rfl (lv_at hl 1 rfl) ?_
              refine lv_iadd hx hb dX9_likely_73 ?_
              obtain ⟨hg11, hF⟩ := gd_some hF
              refine va_lald hx hb hK hP 41 1 h41 rfl hg11 dX9_likely_74 ?_
              refine W.lcmp hx hb dX9_likely_75 ?_
              refine lv_if_le (tgt := 84) hx hb dX9_likely_76 (by decide) (fun c12 => ?_) (fun c12 => ?_)
              · replace c12 := (lc_le (u3 (((13 : Int32) * p2) + x8).toNatClampNeg) (u3 (((13 : Int32) * p2) + x7).toNatClampNeg)).mp c12
                replace hF := (if_pos c12).symm.trans hF
                refine lv_iload_n hx hb dX9_likely_84 rfl (lv_at hl 1 rfl) ?_
                refine lv_istore_n (lv' := [(3, .int x7), (4, .int x8), (0, .ref (a 35)), (2, .int p2)]) hx hb dX9_likely_85 rfl hl (by decide) rfl (fun ls hl => ?_)
                refine lv_iinc (v := x8 + (1 : Int32)) (lv' := [(4, .int (x8 + (1 : Int32))), (3, .int x7), (0, .ref (a 35)), (2, .int p2)]) hx hb dX9_likely_86 hl (k := 1) rfl rfl (by decide) rfl (fun ls hl => ?_)
                refine lv_goto (tgt := 45) hx hb dX9_likely_89 (by decide) ?_
                obtain rfl := Option.some.inj hF
                exact ih _ _ _ hw _ _ _ hP hD hS hs h41 ls (lv_sub hl [0, 1, 2, 3] rfl) hE
              · replace c12 := fun q => c12 ((lc_le (u3 (((13 : Int32) * p2) + x8).toNatClampNeg) (u3 (((13 : Int32) * p2) + x7).toNatClampNeg)).mpr q)
                replace hF := (if_neg c12).symm.trans hF
                refine lv_iload hx hb dX9_likely_79 (lv_at hl 0 rfl) ?_
                refine lv_goto (tgt := 85) hx hb dX9_likely_81 (by decide) ?_
                refine lv_istore_n (lv' := [(3, .int x8), (4, .int x8), (0, .ref (a 35)), (2, .int p2)]) hx hb dX9_likely_85 rfl hl (by decide) rfl (fun ls hl => ?_)
                refine lv_iinc (v := x8 + (1 : Int32)) (lv' := [(4, .int (x8 + (1 : Int32))), (3, .int x8), (0, .ref (a 35)), (2, .int p2)]) hx hb dX9_likely_86 hl (k := 1) rfl rfl (by decide) rfl (fun ls hl => ?_)
                refine lv_goto (tgt := 45) hx hb dX9_likely_89 (by decide) ?_
                obtain rfl := Option.some.inj hF
                exact ih _ _ _ hw _ _ _ hP hD hS hs h41 ls (lv_sub hl [0, 1, 2, 3] rfl) hE
        obtain ⟨o13, ho13, hF⟩ := bd_some hF
        refine hL45 fu (0 : Int32) (1 : Int32) o13 ho13 _ _ _ hP hD hS hs h41 ls (lv_sub hl [0, 1, 2, 4] rfl) ?_
        intro _ q_o13 w H locs hP hD hS hs h41 ls hl
        subst q_o13
        have h35 := (hs 35 (by simp only [List.mem_cons, List.not_mem_nil, or_false, not_or]; omega)).trans z35
        have h37 := (hs 37 (by simp only [List.mem_cons, List.not_mem_nil, or_false, not_or]; omega)).trans z37
        have h38 := (hs 38 (by simp only [List.mem_cons, List.not_mem_nil, or_false, not_or]; omega)).trans z38
        refine lv_iload_n hx hb dX9_likely_92 rfl (lv_at hl 0 rfl) ?_
        obtain rfl := Option.some.inj hF
        rw [hQ]
        exact rw_i X hS hP hD hs h41 dX9_likely_93
      · replace c6 := (lc_eq x5 (0 : Int64)).mp c6
        replace hF := (if_pos c6).symm.trans hF
        refine lv_bipush (v := (-3 : Int32)) hx hb dX9_likely_37 (by decide) ?_
        obtain rfl := Option.some.inj hF
        rw [hQ]
        exact rw_i X hS hP hD hs h41 dX9_likely_39
    · replace hF := (if_neg c2).symm.trans hF
      refine lv_bipush (v := (-2 : Int32)) hx hb dX9_likely_19 (by decide) ?_
      obtain rfl := Option.some.inj hF
      rw [hQ]
      exact rw_i X hS hP hD hs h41 dX9_likely_21
def FX9_placeOf_J40 (m_pupil : Nat → Int32) (p1 : Int32) (x5 : Int32) (x6 : Int32) (x7 : Int32) : Option (Int32) :=
  if (((6 : Int32) * p1) + (1 : Int32)) < 0 ∨ 72 ≤ (((6 : Int32) * p1) + (1 : Int32)).toNatClampNeg then none else some ((x5 + (x6 * x7)) + (m_pupil (((6 : Int32) * p1) + (1 : Int32)).toNatClampNeg))
def FX9_placeOf (m_pupil : Nat → Int32) (p1 : Int32) : Option (Int32) :=
  if (((6 : Int32) * p1) + (1 : Int32)) < 0 ∨ 72 ≤ (((6 : Int32) * p1) + (1 : Int32)).toNatClampNeg then none else nmb (((2 : Int32) * (m_pupil (((6 : Int32) * p1) + (1 : Int32)).toNatClampNeg)) - (5 : Int32)) fun y2 => if ((6 : Int32) * p1) < 0 ∨ 72 ≤ ((6 : Int32) * p1).toNatClampNeg then none else if 0 ≤ y2 then (FX9_placeOf_J40 m_pupil p1 ((100 : Int32) * (m_pupil ((6 : Int32) * p1).toNatClampNeg)) (10 : Int32) y2) else (FX9_placeOf_J40 m_pupil p1 ((100 : Int32) * (m_pupil ((6 : Int32) * p1).toNatClampNeg)) (10 : Int32) (-y2))
def rm_X9_placeOf : Room := { frames := 0, cells := 0, slots := 0, locals := 0 }
set_option maxHeartbeats 4000000 in
set_option maxRecDepth 100000 in
theorem c_X9_placeOf (l : Launch) (D : va_G) (cI cJ cZ : ClassId) (a : Nat → Nat) (ws0 : va_W)  (m_readMany : Int32) (m_pupils : Int32) (m_mood : Int32) (m_length : Int32) (m_at : Int32) (m_faultAt : Int32) (m_drawn : Int64) (m_questions : Int32) (m_rights : Int32) (m_wrongs : Int32) (m_tapes : Int32) (m_trials : Int32) (m_pupil : Nat → Int32) (p1 : Int32) (u : Int32) (hF : FX9_placeOf m_pupil p1 = some u) (h35 : ws0[35]? = some (a 35, .inr (9, [.ref (a 36), .int m_readMany, .ref (a 37), .int m_pupils, .ref (a 38), .ref (a 39), .int m_mood, .ref (a 40), .int m_length, .int m_at, .int m_faultAt, .ref (a 41), .ref (a 42), .long m_drawn, .int m_questions, .int m_rights, .int m_wrongs, .int m_tapes, .ref (a 43), .ref (a 44), .int m_trials, .ref (a 45), .ref (a 46), .ref (a 47), .ref (a 48), .ref (a 49), .ref (a 50), .ref (a 51)]))) (h37 : ws0[37]? = some (a 37, .inl (cI, 72, .inl m_pupil))) : Met l yX9_placeOf (wq yX9_placeOf cX9_placeOf 3 (some .int)) rm_X9_placeOf (Pq [.ref (a 35), .int p1] D cI cJ cZ ws0) (Qq (some (.int u))) 0 0 (fun _ => False) := by
  refine mq_of (by decide) (Nat.le_of_ble_eq_true rfl) (fun p e s m args below meth c ls Q hQ X _ hP hl => ?_)
  obtain ⟨hx, hb, hr, hml, hown, hts, hlk, hK, hN⟩ := id X
  have hown : s.vm.findClass RX9 = some m.cls := hown
  have hl : lv_has ls 3 [(0, .ref (a 35)), (1, .int p1)] := hl
  have hJ40 : ∀ (x5 : Int32) (x6 : Int32) (x7 : Int32), ∀ ls, lv_has ls 3 [(0, .ref (a 35)), (1, .int p1)] → FX9_placeOf_J40 m_pupil p1 x5 x6 x7 = some u → W p l e rm_X9_placeOf s m args below meth c s.heap [] 0 0 Q (F0 m 40 ls [.int x7, .int x6, .int x5]) := by
    intro x5 x6 x7 ls hl hF
    unfold FX9_placeOf_J40 at hF
    refine lv_imul hx hb dX9_placeOf_40 ?_
    refine lv_iadd hx hb dX9_placeOf_41 ?_
    refine lv_aload_n hx hb dX9_placeOf_42 rfl (lv_at hl 0 rfl) ?_
    refine gf_X9_13 hx hb hts hown hK hP h35 dX9_placeOf_43 ?_
    refine lv_bipush (v := (6 : Int32)) hx hb dX9_placeOf_46 (by decide) ?_
    refine lv_iload_n hx hb dX9_placeOf_48 rfl (lv_at hl 1 rfl) ?_
    refine lv_imul hx hb dX9_placeOf_49 ?_
    refine lv_iconst (v := (1 : Int32)) hx hb dX9_placeOf_50 (by decide) ?_
    refine lv_iadd hx hb dX9_placeOf_51 ?_
    obtain ⟨hg8, hF⟩ := gd_some hF
    refine va_iald hx hb hK hP 37 0 h37 rfl hg8 dX9_placeOf_52 ?_
    refine lv_iadd hx hb dX9_placeOf_53 ?_
    obtain rfl := Option.some.inj hF
    rw [hQ]
    exact rt_i X dX9_placeOf_54
  unfold FX9_placeOf at hF
  refine lv_iconst (v := (2 : Int32)) hx hb dX9_placeOf_0 (by decide) ?_
  refine lv_aload_n hx hb dX9_placeOf_1 rfl (lv_at hl 0 rfl) ?_
  refine gf_X9_13 hx hb hts hown hK hP h35 dX9_placeOf_2 ?_
  refine lv_bipush (v := (6 : Int32)) hx hb dX9_placeOf_5 (by decide) ?_
  refine lv_iload_n hx hb dX9_placeOf_7 rfl (lv_at hl 1 rfl) ?_
  refine lv_imul hx hb dX9_placeOf_8 ?_
  refine lv_iconst (v := (1 : Int32)) hx hb dX9_placeOf_9 (by decide) ?_
  refine lv_iadd hx hb dX9_placeOf_10 ?_
  obtain ⟨hg1, hF⟩ := gd_some hF
  refine va_iald hx hb hK hP 37 0 h37 rfl hg1 dX9_placeOf_11 ?_
  refine lv_imul hx hb dX9_placeOf_12 ?_
  refine lv_iconst (v := (5 : Int32)) hx hb dX9_placeOf_13 (by decide) ?_
  refine lv_isub hx hb dX9_placeOf_14 ?_
  refine lv_topi (fun y2 e_y2 => ?_)
  replace hF := nm_at hF e_y2
  refine lv_istore_n (lv' := [(2, .int y2), (0, .ref (a 35)), (1, .int p1)]) hx hb dX9_placeOf_15 rfl hl (by decide) rfl (fun ls hl => ?_)
  refine lv_bipush (v := (100 : Int32)) hx hb dX9_placeOf_16 (by decide) ?_
  refine lv_aload_n hx hb dX9_placeOf_18 rfl (lv_at hl 1 rfl) ?_
  refine gf_X9_13 hx hb hts hown hK hP h35 dX9_placeOf_19 ?_
  refine lv_bipush (v := (6 : Int32)) hx hb dX9_placeOf_22 (by decide) ?_
  refine lv_iload_n hx hb dX9_placeOf_24 rfl (lv_at hl 2 rfl) ?_
  refine lv_imul hx hb dX9_placeOf_25 ?_
  obtain ⟨hg3, hF⟩ := gd_some hF
  refine va_iald hx hb hK hP 37 0 h37 rfl hg3 dX9_placeOf_26 ?_
  refine lv_imul hx hb dX9_placeOf_27 ?_
  refine lv_bipush (v := (10 : Int32)) hx hb dX9_placeOf_28 (by decide) ?_
  refine lv_iload_n hx hb dX9_placeOf_30 rfl (lv_at hl 0 rfl) ?_
  refine lv_if_ge (tgt := 39) hx hb dX9_placeOf_31 (by decide) (fun c4 => ?_) (fun c4 => ?_)
  · replace hF := (if_pos c4).symm.trans hF
    refine lv_iload_n hx hb dX9_placeOf_39 rfl (lv_at hl 0 rfl) ?_
    exact hJ40 ((100 : Int32) * (m_pupil ((6 : Int32) * p1).toNatClampNeg)) (10 : Int32) y2 ls (lv_sub hl [1, 2] rfl) hF
  · replace hF := (if_neg c4).symm.trans hF
    refine lv_iload_n hx hb dX9_placeOf_34 rfl (lv_at hl 0 rfl) ?_
    refine lv_ineg hx hb dX9_placeOf_35 ?_
    refine lv_goto (tgt := 40) hx hb dX9_placeOf_36 (by decide) ?_
    exact hJ40 ((100 : Int32) * (m_pupil ((6 : Int32) * p1).toNatClampNeg)) (10 : Int32) (-y2) ls (lv_sub hl [1, 2] rfl) hF
def FX9_isAhead_J78 (p1 : Int32) (p2 : Int32) (x8 : Int32) (x9 : Int32) : Option (Bool) :=
  if x8 < x9 then (some true) else (if x8 = x9 then (if p2 ≤ p1 then (some false) else (some true)) else (some false))
def FX9_isAhead_J38 (m_pupil : Nat → Int32) (m_times : Nat → Int32) (p1 : Int32) (p2 : Int32) (p3 : Int32) (x4 : Int32) : Option (Bool) :=
  if p3 = (1 : Int32) then (if (((6 : Int32) * p2) + (3 : Int32)) < 0 ∨ 72 ≤ (((6 : Int32) * p2) + (3 : Int32)).toNatClampNeg then none else FX9_isAhead_J78 p1 p2 x4 (m_pupil (((6 : Int32) * p2) + (3 : Int32)).toNatClampNeg)) else (if p3 = (4 : Int32) then (if p2 < 0 ∨ 12 ≤ p2.toNatClampNeg then none else FX9_isAhead_J78 p1 p2 x4 (m_times p2.toNatClampNeg)) else ((FX9_placeOf m_pupil p2).bind fun x7 => FX9_isAhead_J78 p1 p2 x4 x7))
def FX9_isAhead (m_pupil : Nat → Int32) (m_times : Nat → Int32) (p1 : Int32) (p2 : Int32) (p3 : Int32) : Option (Bool) :=
  if p3 = (1 : Int32) then (if (((6 : Int32) * p1) + (3 : Int32)) < 0 ∨ 72 ≤ (((6 : Int32) * p1) + (3 : Int32)).toNatClampNeg then none else FX9_isAhead_J38 m_pupil m_times p1 p2 p3 (m_pupil (((6 : Int32) * p1) + (3 : Int32)).toNatClampNeg)) else (if p3 = (4 : Int32) then (if p1 < 0 ∨ 12 ≤ p1.toNatClampNeg then none else FX9_isAhead_J38 m_pupil m_times p1 p2 p3 (m_times p1.toNatClampNeg)) else ((FX9_placeOf m_pupil p1).bind fun x3 => FX9_isAhead_J38 m_pupil m_times p1 p2 p3 x3))
def rm_X9_isAhead : Room := { frames := 1, cells := 0, slots := 0, locals := 22 }
set_option maxHeartbeats 4000000 in
set_option maxRecDepth 100000 in
theorem c_X9_isAhead (l : Launch) (D : va_G) (cI cJ cZ : ClassId) (a : Nat → Nat) (ws0 : va_W)  (m_readMany : Int32) (m_pupils : Int32) (m_mood : Int32) (m_length : Int32) (m_at : Int32) (m_faultAt : Int32) (m_drawn : Int64) (m_questions : Int32) (m_rights : Int32) (m_wrongs : Int32) (m_tapes : Int32) (m_trials : Int32) (m_pupil : Nat → Int32) (m_times : Nat → Int32) (p1 : Int32) (p2 : Int32) (p3 : Int32) (u : Bool) (hF : FX9_isAhead m_pupil m_times p1 p2 p3 = some u) (h35 : ws0[35]? = some (a 35, .inr (9, [.ref (a 36), .int m_readMany, .ref (a 37), .int m_pupils, .ref (a 38), .ref (a 39), .int m_mood, .ref (a 40), .int m_length, .int m_at, .int m_faultAt, .ref (a 41), .ref (a 42), .long m_drawn, .int m_questions, .int m_rights, .int m_wrongs, .int m_tapes, .ref (a 43), .ref (a 44), .int m_trials, .ref (a 45), .ref (a 46), .ref (a 47), .ref (a 48), .ref (a 49), .ref (a 50), .ref (a 51)]))) (h37 : ws0[37]? = some (a 37, .inl (cI, 72, .inl m_pupil))) (h39 : ws0[39]? = some (a 39, .inl (cI, 12, .inl m_times))) : Met l yX9_isAhead (wq yX9_isAhead cX9_isAhead 6 (some .boolean)) rm_X9_isAhead (Pq [.ref (a 35), .int p1, .int p2, .int p3] D cI cJ cZ ws0) (Qq (some (.int (bi u)))) 0 0 (fun _ => False) := by
  refine mq_of (by decide) (Nat.le_of_ble_eq_true rfl) (fun p e s m args below meth c ls Q hQ X _ hP hl => ?_)
  obtain ⟨hx, hb, hr, hml, hown, hts, hlk, hK, hN⟩ := id X
  have hown : s.vm.findClass RX9 = some m.cls := hown
  have hl : lv_has ls 6 [(0, .ref (a 35)), (1, .int p1), (2, .int p2), (3, .int p3)] := hl
  have hJ78 : ∀ (x8 : Int32) (x9 : Int32), ∀ ls, lv_has ls 6 [(4, .int x8), (1, .int p1), (2, .int p2)] → FX9_isAhead_J78 p1 p2 x8 x9 = some u → W p l e rm_X9_isAhead s m args below meth c s.heap [] 0 0 Q (F0 m 78 ls [.int x9]) := by
    intro x8 x9 ls hl hF
    unfold FX9_isAhead_J78 at hF
    refine lv_istore (lv' := [(5, .int x9), (4, .int x8), (1, .int p1), (2, .int p2)]) hx hb dX9_isAhead_78 hl (by decide) rfl (fun ls hl => ?_)
    refine lv_iload hx hb dX9_isAhead_80 (lv_at hl 1 rfl) ?_
    refine lv_iload hx hb dX9_isAhead_82 (lv_at hl 0 rfl) ?_
    refine lv_icmp_lt (tgt := 99) hx hb dX9_isAhead_84 (by decide) (fun c10 => ?_) (fun c10 => ?_)
    · replace hF := (if_pos c10).symm.trans hF
      refine lv_iconst (v := (1 : Int32)) hx hb dX9_isAhead_99 (by decide) ?_
      refine lv_goto (tgt := 104) hx hb dX9_isAhead_100 (by decide) ?_
      obtain rfl := Option.some.inj hF
      rw [hQ]
      exact rt_z (b := true) X dX9_isAhead_104
    · replace hF := (if_neg c10).symm.trans hF
      refine lv_iload hx hb dX9_isAhead_87 (lv_at hl 1 rfl) ?_
      refine lv_iload hx hb dX9_isAhead_89 (lv_at hl 0 rfl) ?_
      refine lv_icmp_ne (tgt := 103) hx hb dX9_isAhead_91 (by decide) (fun c11 => ?_) (fun c11 => ?_)
      · replace hF := (if_neg c11).symm.trans hF
        refine lv_iconst (v := (0 : Int32)) hx hb dX9_isAhead_103 (by decide) ?_
        obtain rfl := Option.some.inj hF
        rw [hQ]
        exact rt_z (b := false) X dX9_isAhead_104
      · replace hF := (if_pos c11).symm.trans hF
        refine lv_iload_n hx hb dX9_isAhead_94 rfl (lv_at hl 2 rfl) ?_
        refine lv_iload_n hx hb dX9_isAhead_95 rfl (lv_at hl 3 rfl) ?_
        refine lv_icmp_ge (tgt := 103) hx hb dX9_isAhead_96 (by decide) (fun c12 => ?_) (fun c12 => ?_)
        · replace hF := (if_pos c12).symm.trans hF
          refine lv_iconst (v := (0 : Int32)) hx hb dX9_isAhead_103 (by decide) ?_
          obtain rfl := Option.some.inj hF
          rw [hQ]
          exact rt_z (b := false) X dX9_isAhead_104
        · replace hF := (if_neg c12).symm.trans hF
          refine lv_iconst (v := (1 : Int32)) hx hb dX9_isAhead_99 (by decide) ?_
          refine lv_goto (tgt := 104) hx hb dX9_isAhead_100 (by decide) ?_
          obtain rfl := Option.some.inj hF
          rw [hQ]
          exact rt_z (b := true) X dX9_isAhead_104
  have hJ38 : ∀ (x4 : Int32), ∀ ls, lv_has ls 6 [(0, .ref (a 35)), (1, .int p1), (2, .int p2), (3, .int p3)] → FX9_isAhead_J38 m_pupil m_times p1 p2 p3 x4 = some u → W p l e rm_X9_isAhead s m args below meth c s.heap [] 0 0 Q (F0 m 38 ls [.int x4]) := by
    intro x4 ls hl hF
    unfold FX9_isAhead_J38 at hF
    refine lv_istore (lv' := [(4, .int x4), (0, .ref (a 35)), (1, .int p1), (2, .int p2), (3, .int p3)]) hx hb dX9_isAhead_38 hl (by decide) rfl (fun ls hl => ?_)
    refine lv_iload_n hx hb dX9_isAhead_40 rfl (lv_at hl 4 rfl) ?_
    refine lv_iconst (v := (1 : Int32)) hx hb dX9_isAhead_41 (by decide) ?_
    refine lv_icmp_ne (tgt := 59) hx hb dX9_isAhead_42 (by decide) (fun c5 => ?_) (fun c5 => ?_)
    · replace hF := (if_neg c5).symm.trans hF
      refine lv_iload_n hx hb dX9_isAhead_59 rfl (lv_at hl 4 rfl) ?_
      refine lv_iconst (v := (4 : Int32)) hx hb dX9_isAhead_60 (by decide) ?_
      refine lv_icmp_ne (tgt := 73) hx hb dX9_isAhead_61 (by decide) (fun c6 => ?_) (fun c6 => ?_)
      · replace hF := (if_neg c6).symm.trans hF
        refine lv_aload_n hx hb dX9_isAhead_73 rfl (lv_at hl 1 rfl) ?_
        refine lv_iload_n hx hb dX9_isAhead_74 rfl (lv_at hl 3 rfl) ?_
        obtain ⟨x7, hx7, hF⟩ := bd_some hF
        refine rd_i (runV (As := [.int p2]) (rest := []) X cq_X9_placeOf lk_X9_155 (c_X9_placeOf l D cI cJ cZ a ws0 m_readMany m_pupils m_mood m_length m_at m_faultAt m_drawn m_questions m_rights m_wrongs m_tapes m_trials m_pupil p2 x7 hx7 h35 h37) rfl rfl ⟨Nat.le_of_ble_eq_true rfl, Nat.le_of_ble_eq_true rfl⟩ hP h35 rfl rfl hl.1 rfl (Nat.le_of_ble_eq_true rfl) dX9_isAhead_75 ⟨Nat.le_of_ble_eq_true rfl, Nat.le_of_ble_eq_true rfl⟩) ?_
        exact hJ78 x4 x7 ls (lv_sub hl [0, 2, 3] rfl) hF
      · replace hF := (if_pos c6).symm.trans hF
        refine lv_aload_n hx hb dX9_isAhead_64 rfl (lv_at hl 1 rfl) ?_
        refine gf_X9_19 hx hb hts hown hK hP h35 dX9_isAhead_65 ?_
        refine lv_iload_n hx hb dX9_isAhead_68 rfl (lv_at hl 3 rfl) ?_
        obtain ⟨hg13, hF⟩ := gd_some hF
        refine va_iald hx hb hK hP 39 0 h39 rfl hg13 dX9_isAhead_69 ?_
        refine lv_goto (tgt := 78) hx hb dX9_isAhead_70 (by decide) ?_
        exact hJ78 x4 (m_times p2.toNatClampNeg) ls (lv_sub hl [0, 2, 3] rfl) hF
    · replace hF := (if_pos c5).symm.trans hF
      refine lv_aload_n hx hb dX9_isAhead_45 rfl (lv_at hl 1 rfl) ?_
      refine gf_X9_13 hx hb hts hown hK hP h35 dX9_isAhead_46 ?_
      refine lv_bipush (v := (6 : Int32)) hx hb dX9_isAhead_49 (by decide) ?_
      refine lv_iload_n hx hb dX9_isAhead_51 rfl (lv_at hl 3 rfl) ?_
      refine lv_imul hx hb dX9_isAhead_52 ?_
      refine lv_iconst (v := (3 : Int32)) hx hb dX9_isAhead_53 (by decide) ?_
      refine lv_iadd hx hb dX9_isAhead_54 ?_
      obtain ⟨hg14, hF⟩ := gd_some hF
      refine va_iald hx hb hK hP 37 0 h37 rfl hg14 dX9_isAhead_55 ?_
      refine lv_goto (tgt := 78) hx hb dX9_isAhead_56 (by decide) ?_
      exact hJ78 x4 (m_pupil (((6 : Int32) * p2) + (3 : Int32)).toNatClampNeg) ls (lv_sub hl [0, 2, 3] rfl) hF
  unfold FX9_isAhead at hF
  refine lv_iload_n hx hb dX9_isAhead_0 rfl (lv_at hl 3 rfl) ?_
  refine lv_iconst (v := (1 : Int32)) hx hb dX9_isAhead_1 (by decide) ?_
  refine lv_icmp_ne (tgt := 19) hx hb dX9_isAhead_2 (by decide) (fun c1 => ?_) (fun c1 => ?_)
  · replace hF := (if_neg c1).symm.trans hF
    refine lv_iload_n hx hb dX9_isAhead_19 rfl (lv_at hl 3 rfl) ?_
    refine lv_iconst (v := (4 : Int32)) hx hb dX9_isAhead_20 (by decide) ?_
    refine lv_icmp_ne (tgt := 33) hx hb dX9_isAhead_21 (by decide) (fun c2 => ?_) (fun c2 => ?_)
    · replace hF := (if_neg c2).symm.trans hF
      refine lv_aload_n hx hb dX9_isAhead_33 rfl (lv_at hl 0 rfl) ?_
      refine lv_iload_n hx hb dX9_isAhead_34 rfl (lv_at hl 1 rfl) ?_
      obtain ⟨x3, hx3, hF⟩ := bd_some hF
      refine rd_i (runV (As := [.int p1]) (rest := []) X cq_X9_placeOf lk_X9_155 (c_X9_placeOf l D cI cJ cZ a ws0 m_readMany m_pupils m_mood m_length m_at m_faultAt m_drawn m_questions m_rights m_wrongs m_tapes m_trials m_pupil p1 x3 hx3 h35 h37) rfl rfl ⟨Nat.le_of_ble_eq_true rfl, Nat.le_of_ble_eq_true rfl⟩ hP h35 rfl rfl hl.1 rfl (Nat.le_of_ble_eq_true rfl) dX9_isAhead_35 ⟨Nat.le_of_ble_eq_true rfl, Nat.le_of_ble_eq_true rfl⟩) ?_
      exact hJ38 x3 ls (lv_sub hl [0, 1, 2, 3] rfl) hF
    · replace hF := (if_pos c2).symm.trans hF
      refine lv_aload_n hx hb dX9_isAhead_24 rfl (lv_at hl 0 rfl) ?_
      refine gf_X9_19 hx hb hts hown hK hP h35 dX9_isAhead_25 ?_
      refine lv_iload_n hx hb dX9_isAhead_28 rfl (lv_at hl 1 rfl) ?_
      obtain ⟨hg15, hF⟩ := gd_some hF
      refine va_iald hx hb hK hP 39 0 h39 rfl hg15 dX9_isAhead_29 ?_
      refine lv_goto (tgt := 38) hx hb dX9_isAhead_30 (by decide) ?_
      exact hJ38 (m_times p1.toNatClampNeg) ls (lv_sub hl [0, 1, 2, 3] rfl) hF
  · replace hF := (if_pos c1).symm.trans hF
    refine lv_aload_n hx hb dX9_isAhead_5 rfl (lv_at hl 0 rfl) ?_
    refine gf_X9_13 hx hb hts hown hK hP h35 dX9_isAhead_6 ?_
    refine lv_bipush (v := (6 : Int32)) hx hb dX9_isAhead_9 (by decide) ?_
    refine lv_iload_n hx hb dX9_isAhead_11 rfl (lv_at hl 1 rfl) ?_
    refine lv_imul hx hb dX9_isAhead_12 ?_
    refine lv_iconst (v := (3 : Int32)) hx hb dX9_isAhead_13 (by decide) ?_
    refine lv_iadd hx hb dX9_isAhead_14 ?_
    obtain ⟨hg16, hF⟩ := gd_some hF
    refine va_iald hx hb hK hP 37 0 h37 rfl hg16 dX9_isAhead_15 ?_
    refine lv_goto (tgt := 38) hx hb dX9_isAhead_16 (by decide) ?_
    exact hJ38 (m_pupil (((6 : Int32) * p1) + (3 : Int32)).toNatClampNeg) ls (lv_sub hl [0, 1, 2, 3] rfl) hF
def FX9_takenOf_J134L105 (x7 : Int32) (x8 : Int32) (x9 : Int64) (x10 : Nat → Int64) : Option ((Int32 × (Nat → Int64)) ⊕ ((Nat → Int64))) :=
  if x8 < 0 ∨ 13 ≤ x8.toNatClampNeg then none else some (.inl (x7 + (1 : Int32), vp_updL x10 x8.toNatClampNeg x9))
def FX9_takenOf_S105 (m_mood : Int32) (m_pupil : Nat → Int32) (m_dares : Nat → Int32) (p1 : Int32) (p2 : Int32) (x3 : Int32) (x4 : Nat → Int64) : Option ((Int32 × (Nat → Int64)) ⊕ ((Nat → Int64))) :=
  if (13 : Int32) ≤ x3 then (some (.inr x4)) else (if x3 = 0 then ((FX9_upOf m_mood m_pupil m_dares p1 p2).bind fun x13 => FX9_takenOf_J134L105 x3 x3 x13.toInt64 x4) else (FX9_takenOf_J134L105 x3 x3 (0 : Int64) x4))
def FX9_takenOf_J220L157 (x25 : Int32) (x26 : Int32) (x27 : Int64) (x28 : Int64) (x29 : Nat → Int64) : Option ((Int32 × (Nat → Int64)) ⊕ ((Nat → Int64))) :=
  if x26 < 0 ∨ 13 ≤ x26.toNatClampNeg then none else some (.inl (x25 + (-1 : Int32), vp_updL x29 x26.toNatClampNeg (x27 + x28)))
def FX9_takenOf_S157 (m_mood : Int32) (m_pupil : Nat → Int32) (m_dares : Nat → Int32) (p1 : Int32) (p2 : Int32) (x15 : Int32) (x18 : Int32) (x19 : Nat → Int64) : Option ((Int32 × (Nat → Int64)) ⊕ ((Nat → Int64))) :=
  if x18 < 0 then (some (.inr x19)) else (if x15 = p1 then (some (.inr x19)) else (if x18 < 0 ∨ 13 ≤ x18.toNatClampNeg then none else (FX9_upOf m_mood m_pupil m_dares x15 p2).bind fun x23 => if x18 ≤ 0 then (FX9_takenOf_J220L157 x18 x18 ((x19 x18.toNatClampNeg) * (((10 : Int32) - x23).toInt64)) (0 : Int64) x19) else (if (x18 - (1 : Int32)) < 0 ∨ 13 ≤ (x18 - (1 : Int32)).toNatClampNeg then none else (FX9_upOf m_mood m_pupil m_dares x15 p2).bind fun x33 => FX9_takenOf_J220L157 x18 x18 ((x19 x18.toNatClampNeg) * (((10 : Int32) - x23).toInt64)) ((x19 (x18 - (1 : Int32)).toNatClampNeg) * x33.toInt64) x19)))
def FX9_takenOf_S144 (m_pupils : Int32) (m_mood : Int32) (m_pupil : Nat → Int32) (m_dares : Nat → Int32) (p1 : Int32) (p2 : Int32) (x15 : Int32) (x16 : Nat → Int64) : Option ((Int32 × (Nat → Int64)) ⊕ ((Nat → Int64))) :=
  if m_pupils ≤ x15 then (some (.inr x16)) else ((itr (fun v => FX9_takenOf_S157 m_mood m_pupil m_dares p1 p2 x15 v.1 v.2) fu ((12 : Int32), x16)).bind fun o34 => some (.inl (x15 + (1 : Int32), o34)))
def FX9_takenOf_S240 (o35 : (Nat → Int64)) (x36 : Int64) (x37 : Int32) : Option ((Int64 × Int32) ⊕ (Int64)) :=
  if (12 : Int32) ≤ x37 then (some (.inr x36)) else (if x37 < 0 ∨ 13 ≤ x37.toNatClampNeg then none else if ((x37 + (1 : Int32)).toInt64) = 0 then none else nmb (x36 + ((o35 x37.toNatClampNeg) * ((27720 : Int64) / ((x37 + (1 : Int32)).toInt64)))) fun y41 => some (.inl (y41, x37 + (1 : Int32))))
def FX9_takenOf_J86L37 (x50 : Int32) (x51 : Int64) (x52 : Int64) : Option ((Int64 × Int32) ⊕ (Int64)) :=
  some (.inl (x51 * x52, x50 + (1 : Int32)))
def FX9_takenOf_S37 (m_pupils : Int32) (m_mood : Int32) (m_pupil : Nat → Int32) (m_dares : Nat → Int32) (m_times : Nat → Int32) (p1 : Int32) (p2 : Int32) (p3 : Int32) (x44 : Int64) (x45 : Int32) : Option ((Int64 × Int32) ⊕ (Int64)) :=
  if m_pupils ≤ x45 then (some (.inr x44)) else (if x45 = p1 then (FX9_takenOf_J86L37 x45 x44 (1 : Int64)) else ((FX9_isAhead m_pupil m_times x45 p1 p3).bind fun x48 => if x48 = true then ((FX9_upOf m_mood m_pupil m_dares x45 p2).bind fun x53 => FX9_takenOf_J86L37 x45 x44 (((10 : Int32) - x53).toInt64)) else (FX9_takenOf_J86L37 x45 x44 (10 : Int64))))
def FX9_takenOf (m_pupils : Int32) (m_mood : Int32) (m_others : Nat → Int64) (m_pupil : Nat → Int32) (m_dares : Nat → Int32) (m_times : Nat → Int32) (p1 : Int32) (p2 : Int32) (p3 : Int32) : Option (Int64 × (Nat → Int64)) :=
  if p3 = (3 : Int32) then ((FX9_whole m_pupils).bind fun x55 => if m_pupils.toInt64 = 0 then none else some (x55 * ((27720 : Int64) / m_pupils.toInt64), m_others)) else (if p3 = (2 : Int32) then ((itr (fun v => FX9_takenOf_S105 m_mood m_pupil m_dares p1 p2 v.1 v.2) fu ((0 : Int32), m_others)).bind fun o14 => (itr (fun v => FX9_takenOf_S144 m_pupils m_mood m_pupil m_dares p1 p2 v.1 v.2) fu ((0 : Int32), o14)).bind fun o35 => (itr (fun v => FX9_takenOf_S240 o35 v.1 v.2) fu ((0 : Int64), (0 : Int32))).bind fun o42 => some (o42, o35)) else ((FX9_upOf m_mood m_pupil m_dares p1 p2).bind fun x43 => (itr (fun v => FX9_takenOf_S37 m_pupils m_mood m_pupil m_dares m_times p1 p2 p3 v.1 v.2) fu (x43.toInt64, (0 : Int32))).bind fun o54 => some (o54 * (27720 : Int64), m_others)))
def rm_X9_takenOf : Room := { frames := 2, cells := 0, slots := 0, locals := 47 }
set_option maxHeartbeats 4000000 in
set_option maxRecDepth 100000 in
theorem c_X9_takenOf (l : Launch) (D : va_G) (cI cJ cZ : ClassId) (a : Nat → Nat) (ws0 : va_W) (A : Nat → Prop)  (m_readMany : Int32) (m_pupils : Int32) (m_mood : Int32) (m_length : Int32) (m_at : Int32) (m_faultAt : Int32) (m_drawn : Int64) (m_questions : Int32) (m_rights : Int32) (m_wrongs : Int32) (m_tapes : Int32) (m_trials : Int32) (m_others : Nat → Int64) (m_pupil : Nat → Int32) (m_dares : Nat → Int32) (m_times : Nat → Int32) (p1 : Int32) (p2 : Int32) (p3 : Int32) (u : Int64 × (Nat → Int64)) (hF : FX9_takenOf m_pupils m_mood m_others m_pupil m_dares m_times p1 p2 p3 = some u) (z35 : ws0[35]? = some (a 35, .inr (9, [.ref (a 36), .int m_readMany, .ref (a 37), .int m_pupils, .ref (a 38), .ref (a 39), .int m_mood, .ref (a 40), .int m_length, .int m_at, .int m_faultAt, .ref (a 41), .ref (a 42), .long m_drawn, .int m_questions, .int m_rights, .int m_wrongs, .int m_tapes, .ref (a 43), .ref (a 44), .int m_trials, .ref (a 45), .ref (a 46), .ref (a 47), .ref (a 48), .ref (a 49), .ref (a 50), .ref (a 51)]))) (z37 : ws0[37]? = some (a 37, .inl (cI, 72, .inl m_pupil))) (z38 : ws0[38]? = some (a 38, .inl (cI, 12, .inl m_dares))) (z39 : ws0[39]? = some (a 39, .inl (cI, 12, .inl m_times))) (z42 : ws0[42]? = some (a 42, .inl (cJ, 13, .inr (.inl m_others)))) (hD : va_D A ws0) : Met l yX9_takenOf (wq yX9_takenOf cX9_takenOf 7 (some .long)) rm_X9_takenOf (Pq [.ref (a 35), .int p1, .int p2, .int p3] D cI cJ cZ ws0) (Qw D A ws0 [42] (some (.long u.1)) (fun w => w[42]? = some (a 42, .inl (cJ, 13, .inr (.inl u.2))))) 0 0 A := by
  refine mq_of (by decide) (Nat.le_of_ble_eq_true rfl) (fun p e s m args below meth c ls Q hQ X _ hP hl => ?_)
  obtain ⟨hx, hb, hr, hml, hown, hts, hlk, hK, hN⟩ := id X
  have hown : s.vm.findClass RX9 = some m.cls := hown
  have hl : lv_has ls 7 [(0, .ref (a 35)), (1, .int p1), (2, .int p2), (3, .int p3)] := hl
  have hS : va_S A s.heap s.heap [] := va_S.rf
  have hs : ∀ j : Nat, j ∉ [42] → ws0[j]? = ws0[j]? := fun _ _ => rfl
  have h35 := z35
  have h37 := z37
  have h38 := z38
  have h39 := z39
  have h42 := z42
  unfold FX9_takenOf at hF
  refine lv_iload_n hx hb dX9_takenOf_0 rfl (lv_at hl 3 rfl) ?_
  refine lv_iconst (v := (3 : Int32)) hx hb dX9_takenOf_1 (by decide) ?_
  refine lv_icmp_ne (tgt := 20) hx hb dX9_takenOf_2 (by decide) (fun c1 => ?_) (fun c1 => ?_)
  · replace hF := (if_neg c1).symm.trans hF
    refine lv_iload_n hx hb dX9_takenOf_20 rfl (lv_at hl 3 rfl) ?_
    refine lv_iconst (v := (2 : Int32)) hx hb dX9_takenOf_21 (by decide) ?_
    refine lv_icmp_eq (tgt := 102) hx hb dX9_takenOf_22 (by decide) (fun c2 => ?_) (fun c2 => ?_)
    · replace hF := (if_pos c2).symm.trans hF
      refine lv_iconst (v := (0 : Int32)) hx hb dX9_takenOf_102 (by decide) ?_
      refine lv_istore (lv' := [(4, .int (0 : Int32)), (0, .ref (a 35)), (1, .int p1), (2, .int p2), (3, .int p3)]) hx hb dX9_takenOf_103 hl (by decide) rfl (fun ls hl => ?_)
      have hL105 : ∀ (nf : Nat) (x3 : Int32) (x4 : Nat → Int64) (r : (Nat → Int64)), itr (fun v => FX9_takenOf_S105 m_mood m_pupil m_dares p1 p2 v.1 v.2) nf (x3, x4) = some r → ∀ (wJ : va_W) (HJ : Heap) (lJ : List Loc), va_P D vwCl wJ HJ → va_D A wJ → va_S A s.heap HJ lJ → (∀ j : Nat, j ∉ [42] → wJ[j]? = ws0[j]?) → wJ[42]? = some (a 42, .inl (cJ, 13, .inr (.inl x4))) → ∀ ls, lv_has ls 7 [(4, .int x3), (0, .ref (a 35)), (1, .int p1), (2, .int p2)] → (∀ o : (Nat → Int64), r = o → ∀ (wK : va_W) (HK : Heap) (lK : List Loc), va_P D vwCl wK HK → va_D A wK → va_S A s.heap HK lK → (∀ j : Nat, j ∉ [42] → wK[j]? = ws0[j]?) → wK[42]? = some (a 42, .inl (cJ, 13, .inr (.inl o))) → ∀ ls, lv_has ls 7 [(0, .ref (a 35)), (1, .int p1), (2, .int p2)] → W p l e rm_X9_takenOf s m args below meth c HK lK 0 0 Q (F0 m 141 ls [])) → W p l e rm_X9_takenOf s m args below meth c HJ lJ 0 0 Q (F0 m 105 ls []) := by
        intro nf
        induction nf with
        | zero => intro _ _ r hF; exact (itr_0 hF).elim
        | succ nf ih =>
          intro x3 x4 r hF w H locs hP hD hS hs h42 ls hl hE
          obtain ⟨wo, hF, hw⟩ := itr_s hF
          replace hF : FX9_takenOf_S105 m_mood m_pupil m_dares p1 p2 x3 x4 = some wo := hF
          have h35 := (hs 35 (by simp only [List.mem_cons, List.not_mem_nil, or_false, not_or]; omega)).trans z35
          have h37 := (hs 37 (by simp only [List.mem_cons, List.not_mem_nil, or_false, not_or]; omega)).trans z37
          have h38 := (hs 38 (by simp only [List.mem_cons, List.not_mem_nil, or_false, not_or]; omega)).trans z38
          have h39 := (hs 39 (by simp only [List.mem_cons, List.not_mem_nil, or_false, not_or]; omega)).trans z39
          have hJ134 : ∀ (x7 : Int32) (x8 : Int32) (x9 : Int64) (x10 : Nat → Int64), ∀ (wJ : va_W) (HJ : Heap) (lJ : List Loc), va_P D vwCl wJ HJ → va_D A wJ → va_S A s.heap HJ lJ → (∀ j : Nat, j ∉ [42] → wJ[j]? = ws0[j]?) → wJ[42]? = some (a 42, .inl (cJ, 13, .inr (.inl x10))) → ∀ ls, lv_has ls 7 [(4, .int x7), (0, .ref (a 35)), (1, .int p1), (2, .int p2)] → FX9_takenOf_J134L105 x7 x8 x9 x10 = some wo → W p l e rm_X9_takenOf s m args below meth c HJ lJ 0 0 Q (F0 m 134 ls [.long x9, .int x8, .ref (a 42)]) := by
            intro x7 x8 x9 x10 w H locs hP hD hS hs h42 ls hl hF
            have h35 := (hs 35 (by simp only [List.mem_cons, List.not_mem_nil, or_false, not_or]; omega)).trans z35
            have h37 := (hs 37 (by simp only [List.mem_cons, List.not_mem_nil, or_false, not_or]; omega)).trans z37
            have h38 := (hs 38 (by simp only [List.mem_cons, List.not_mem_nil, or_false, not_or]; omega)).trans z38
            have h39 := (hs 39 (by simp only [List.mem_cons, List.not_mem_nil, or_false, not_or]; omega)).trans z39
            unfold FX9_takenOf_J134L105 at hF
            obtain ⟨hg11, hF⟩ := gd_some hF
            refine ast_l hx hb hK hP hD hS h42 hg11 dX9_takenOf_134 (fun w12 H locs hP hD hk hc hS => ?_)
            have h42 : w12[42]? = some (a 42, .inl (cJ, 13, .inr (.inl (vp_updL x10 x8.toNatClampNeg x9)))) := hc
            have h35 := (hk 35 (by omega)).trans h35
            have h37 := (hk 37 (by omega)).trans h37
            have h38 := (hk 38 (by omega)).trans h38
            have h39 := (hk 39 (by omega)).trans h39
            replace hs := sm_k hk (by simp) hs
            refine lv_iinc (v := x7 + (1 : Int32)) (lv' := [(4, .int (x7 + (1 : Int32))), (0, .ref (a 35)), (1, .int p1), (2, .int p2)]) hx hb dX9_takenOf_135 hl (k := 0) rfl rfl (by decide) rfl (fun ls hl => ?_)
            refine lv_goto (tgt := 105) hx hb dX9_takenOf_138 (by decide) ?_
            obtain rfl := Option.some.inj hF
            exact ih _ _ _ hw _ _ _ hP hD hS hs h42 ls (lv_sub hl [0, 1, 2, 3] rfl) hE
          unfold FX9_takenOf_S105 at hF
          refine lv_iload hx hb dX9_takenOf_105 (lv_at hl 0 rfl) ?_
          refine lv_bipush (v := (13 : Int32)) hx hb dX9_takenOf_107 (by decide) ?_
          refine lv_icmp_ge (tgt := 141) hx hb dX9_takenOf_109 (by decide) (fun c5 => ?_) (fun c5 => ?_)
          · replace hF := (if_pos c5).symm.trans hF
            obtain rfl := Option.some.inj hF
            obtain rfl := hw
            exact hE _ rfl _ _ _ hP hD hS hs h42 ls (lv_sub hl [1, 2, 3] rfl)
          · replace hF := (if_neg c5).symm.trans hF
            refine lv_aload_n hx hb dX9_takenOf_112 rfl (lv_at hl 1 rfl) ?_
            refine gf_X9_29 hx hb hts hown hK hP h35 dX9_takenOf_113 ?_
            refine lv_iload hx hb dX9_takenOf_116 (lv_at hl 0 rfl) ?_
            refine lv_iload hx hb dX9_takenOf_118 (lv_at hl 0 rfl) ?_
            refine lv_if_ne (tgt := 133) hx hb dX9_takenOf_120 (by decide) (fun c6 => ?_) (fun c6 => ?_)
            · replace hF := (if_neg c6).symm.trans hF
              refine lv_lconst (v := (0 : Int64)) hx hb dX9_takenOf_133 (by decide) ?_
              exact hJ134 x3 x3 (0 : Int64) x4 _ _ _ hP hD hS hs h42 ls (lv_sub hl [0, 1, 2, 3] rfl) hF
            · replace hF := (if_pos c6).symm.trans hF
              refine lv_aload_n hx hb dX9_takenOf_123 rfl (lv_at hl 1 rfl) ?_
              refine lv_iload_n hx hb dX9_takenOf_124 rfl (lv_at hl 2 rfl) ?_
              refine lv_iload_n hx hb dX9_takenOf_125 rfl (lv_at hl 3 rfl) ?_
              obtain ⟨x13, hx13, hF⟩ := bd_some hF
              refine rd_i (runV (As := [.int p1, .int p2]) (rest := [.int x3, .ref (a 42)]) X cq_X9_upOf lk_X9_124 (c_X9_upOf l D cI cJ cZ a w m_readMany m_pupils m_mood m_length m_at m_faultAt m_drawn m_questions m_rights m_wrongs m_tapes m_trials m_pupil m_dares p1 p2 x13 hx13 h35 h37 h38) rfl rfl ⟨Nat.le_of_ble_eq_true rfl, Nat.le_of_ble_eq_true rfl⟩ hP h35 rfl rfl hl.1 rfl (Nat.le_of_ble_eq_true rfl) dX9_takenOf_126 ⟨Nat.le_of_ble_eq_true rfl, Nat.le_of_ble_eq_true rfl⟩) ?_
              refine lv_i2l hx hb dX9_takenOf_129 rfl ?_
              refine lv_goto (tgt := 134) hx hb dX9_takenOf_130 (by decide) ?_
              exact hJ134 x3 x3 x13.toInt64 x4 _ _ _ hP hD hS hs h42 ls (lv_sub hl [0, 1, 2, 3] rfl) hF
      obtain ⟨o14, ho14, hF⟩ := bd_some hF
      refine hL105 fu (0 : Int32) m_others o14 ho14 _ _ _ hP hD hS hs h42 ls (lv_sub hl [0, 1, 2, 3] rfl) ?_
      intro _ q_o14 w H locs hP hD hS hs h42 ls hl
      subst q_o14
      have h35 := (hs 35 (by simp only [List.mem_cons, List.not_mem_nil, or_false, not_or]; omega)).trans z35
      have h37 := (hs 37 (by simp only [List.mem_cons, List.not_mem_nil, or_false, not_or]; omega)).trans z37
      have h38 := (hs 38 (by simp only [List.mem_cons, List.not_mem_nil, or_false, not_or]; omega)).trans z38
      have h39 := (hs 39 (by simp only [List.mem_cons, List.not_mem_nil, or_false, not_or]; omega)).trans z39
      refine lv_iconst (v := (0 : Int32)) hx hb dX9_takenOf_141 (by decide) ?_
      refine lv_istore (lv' := [(4, .int (0 : Int32)), (0, .ref (a 35)), (1, .int p1), (2, .int p2)]) hx hb dX9_takenOf_142 hl (by decide) rfl (fun ls hl => ?_)
      have hL144 : ∀ (nf : Nat) (x15 : Int32) (x16 : Nat → Int64) (r : (Nat → Int64)), itr (fun v => FX9_takenOf_S144 m_pupils m_mood m_pupil m_dares p1 p2 v.1 v.2) nf (x15, x16) = some r → ∀ (wJ : va_W) (HJ : Heap) (lJ : List Loc), va_P D vwCl wJ HJ → va_D A wJ → va_S A s.heap HJ lJ → (∀ j : Nat, j ∉ [42] → wJ[j]? = ws0[j]?) → wJ[42]? = some (a 42, .inl (cJ, 13, .inr (.inl x16))) → ∀ ls, lv_has ls 7 [(4, .int x15), (0, .ref (a 35)), (1, .int p1), (2, .int p2)] → (∀ o : (Nat → Int64), r = o → ∀ (wK : va_W) (HK : Heap) (lK : List Loc), va_P D vwCl wK HK → va_D A wK → va_S A s.heap HK lK → (∀ j : Nat, j ∉ [42] → wK[j]? = ws0[j]?) → wK[42]? = some (a 42, .inl (cJ, 13, .inr (.inl o))) → ∀ ls, lv_has ls 7 [(0, .ref (a 35))] → W p l e rm_X9_takenOf s m args below meth c HK lK 0 0 Q (F0 m 234 ls [])) → W p l e rm_X9_takenOf s m args below meth c HJ lJ 0 0 Q (F0 m 144 ls []) := by
        intro nf
        induction nf with
        | zero => intro _ _ r hF; exact (itr_0 hF).elim
        | succ nf ih =>
          intro x15 x16 r hF w H locs hP hD hS hs h42 ls hl hE
          obtain ⟨wo, hF, hw⟩ := itr_s hF
          replace hF : FX9_takenOf_S144 m_pupils m_mood m_pupil m_dares p1 p2 x15 x16 = some wo := hF
          have h35 := (hs 35 (by simp only [List.mem_cons, List.not_mem_nil, or_false, not_or]; omega)).trans z35
          have h37 := (hs 37 (by simp only [List.mem_cons, List.not_mem_nil, or_false, not_or]; omega)).trans z37
          have h38 := (hs 38 (by simp only [List.mem_cons, List.not_mem_nil, or_false, not_or]; omega)).trans z38
          have h39 := (hs 39 (by simp only [List.mem_cons, List.not_mem_nil, or_false, not_or]; omega)).trans z39
          unfold FX9_takenOf_S144 at hF
          refine lv_iload hx hb dX9_takenOf_144 (lv_at hl 0 rfl) ?_
          refine lv_aload_n hx hb dX9_takenOf_146 rfl (lv_at hl 1 rfl) ?_
          refine gf_X9_97 hx hb hts hown hK hP h35 dX9_takenOf_147 ?_
          refine lv_icmp_ge (tgt := 234) hx hb dX9_takenOf_150 (by decide) (fun c17 => ?_) (fun c17 => ?_)
          · replace hF := (if_pos c17).symm.trans hF
            obtain rfl := Option.some.inj hF
            obtain rfl := hw
            exact hE _ rfl _ _ _ hP hD hS hs h42 ls (lv_sub hl [1] rfl)
          · replace hF := (if_neg c17).symm.trans hF
            refine lv_bipush (v := (12 : Int32)) hx hb dX9_takenOf_153 (by decide) ?_
            refine lv_istore (lv' := [(5, .int (12 : Int32)), (4, .int x15), (0, .ref (a 35)), (1, .int p1), (2, .int p2)]) hx hb dX9_takenOf_155 hl (by decide) rfl (fun ls hl => ?_)
            have hL157 : ∀ (nf : Nat) (x18 : Int32) (x19 : Nat → Int64) (r : (Nat → Int64)), itr (fun v => FX9_takenOf_S157 m_mood m_pupil m_dares p1 p2 x15 v.1 v.2) nf (x18, x19) = some r → ∀ (wJ : va_W) (HJ : Heap) (lJ : List Loc), va_P D vwCl wJ HJ → va_D A wJ → va_S A s.heap HJ lJ → (∀ j : Nat, j ∉ [42] → wJ[j]? = ws0[j]?) → wJ[42]? = some (a 42, .inl (cJ, 13, .inr (.inl x19))) → ∀ ls, lv_has ls 7 [(5, .int x18), (4, .int x15), (0, .ref (a 35)), (1, .int p1), (2, .int p2)] → (∀ o : (Nat → Int64), r = o → ∀ (wK : va_W) (HK : Heap) (lK : List Loc), va_P D vwCl wK HK → va_D A wK → va_S A s.heap HK lK → (∀ j : Nat, j ∉ [42] → wK[j]? = ws0[j]?) → wK[42]? = some (a 42, .inl (cJ, 13, .inr (.inl o))) → ∀ ls, lv_has ls 7 [(4, .int x15), (0, .ref (a 35)), (1, .int p1), (2, .int p2)] → W p l e rm_X9_takenOf s m args below meth c HK lK 0 0 Q (F0 m 228 ls [])) → W p l e rm_X9_takenOf s m args below meth c HJ lJ 0 0 Q (F0 m 157 ls []) := by
              intro nf
              induction nf with
              | zero => intro _ _ r hF; exact (itr_0 hF).elim
              | succ nf ih =>
                intro x18 x19 r hF w H locs hP hD hS hs h42 ls hl hE
                obtain ⟨wo, hF, hw⟩ := itr_s hF
                replace hF : FX9_takenOf_S157 m_mood m_pupil m_dares p1 p2 x15 x18 x19 = some wo := hF
                have h35 := (hs 35 (by simp only [List.mem_cons, List.not_mem_nil, or_false, not_or]; omega)).trans z35
                have h37 := (hs 37 (by simp only [List.mem_cons, List.not_mem_nil, or_false, not_or]; omega)).trans z37
                have h38 := (hs 38 (by simp only [List.mem_cons, List.not_mem_nil, or_false, not_or]; omega)).trans z38
                have h39 := (hs 39 (by simp only [List.mem_cons, List.not_mem_nil, or_false, not_or]; omega)).trans z39
                have hJ220 : ∀ (x25 : Int32) (x26 : Int32) (x27 : Int64) (x28 : Int64) (x29 : Nat → Int64), ∀ (wJ : va_W) (HJ : Heap) (lJ : List Loc), va_P D vwCl wJ HJ → va_D A wJ → va_S A s.heap HJ lJ → (∀ j : Nat, j ∉ [42] → wJ[j]? = ws0[j]?) → wJ[42]? = some (a 42, .inl (cJ, 13, .inr (.inl x29))) → ∀ ls, lv_has ls 7 [(5, .int x25), (4, .int x15), (0, .ref (a 35)), (1, .int p1), (2, .int p2)] → FX9_takenOf_J220L157 x25 x26 x27 x28 x29 = some wo → W p l e rm_X9_takenOf s m args below meth c HJ lJ 0 0 Q (F0 m 220 ls [.long x28, .long x27, .int x26, .ref (a 42)]) := by
                  intro x25 x26 x27 x28 x29 w H locs hP hD hS hs h42 ls hl hF
                  have h35 := (hs 35 (by simp only [List.mem_cons, List.not_mem_nil, or_false, not_or]; omega)).trans z35
                  have h37 := (hs 37 (by simp only [List.mem_cons, List.not_mem_nil, or_false, not_or]; omega)).trans z37
                  have h38 := (hs 38 (by simp only [List.mem_cons, List.not_mem_nil, or_false, not_or]; omega)).trans z38
                  have h39 := (hs 39 (by simp only [List.mem_cons, List.not_mem_nil, or_false, not_or]; omega)).trans z39
                  unfold FX9_takenOf_J220L157 at hF
                  refine lv_ladd hx hb dX9_takenOf_220 ?_
                  obtain ⟨hg30, hF⟩ := gd_some hF
                  refine ast_l hx hb hK hP hD hS h42 hg30 dX9_takenOf_221 (fun w31 H locs hP hD hk hc hS => ?_)
                  have h42 : w31[42]? = some (a 42, .inl (cJ, 13, .inr (.inl (vp_updL x29 x26.toNatClampNeg (x27 + x28))))) := hc
                  have h35 := (hk 35 (by omega)).trans h35
                  have h37 := (hk 37 (by omega)).trans h37
                  have h38 := (hk 38 (by omega)).trans h38
                  have h39 := (hk 39 (by omega)).trans h39
                  replace hs := sm_k hk (by simp) hs
                  refine lv_iinc (v := x25 + (-1 : Int32)) (lv' := [(5, .int (x25 + (-1 : Int32))), (4, .int x15), (0, .ref (a 35)), (1, .int p1), (2, .int p2)]) hx hb dX9_takenOf_222 hl (k := 0) rfl rfl (by decide) rfl (fun ls hl => ?_)
                  refine lv_goto (tgt := 157) hx hb dX9_takenOf_225 (by decide) ?_
                  obtain rfl := Option.some.inj hF
                  exact ih _ _ _ hw _ _ _ hP hD hS hs h42 ls (lv_sub hl [0, 1, 2, 3, 4] rfl) hE
                unfold FX9_takenOf_S157 at hF
                refine lv_iload hx hb dX9_takenOf_157 (lv_at hl 0 rfl) ?_
                refine lv_if_lt (tgt := 228) hx hb dX9_takenOf_159 (by decide) (fun c20 => ?_) (fun c20 => ?_)
                · replace hF := (if_pos c20).symm.trans hF
                  obtain rfl := Option.some.inj hF
                  obtain rfl := hw
                  exact hE _ rfl _ _ _ hP hD hS hs h42 ls (lv_sub hl [1, 2, 3, 4] rfl)
                · replace hF := (if_neg c20).symm.trans hF
                  refine lv_iload hx hb dX9_takenOf_162 (lv_at hl 1 rfl) ?_
                  refine lv_iload_n hx hb dX9_takenOf_164 rfl (lv_at hl 3 rfl) ?_
                  refine lv_icmp_eq (tgt := 228) hx hb dX9_takenOf_165 (by decide) (fun c21 => ?_) (fun c21 => ?_)
                  · replace hF := (if_pos c21).symm.trans hF
                    obtain rfl := Option.some.inj hF
                    obtain rfl := hw
                    exact hE _ rfl _ _ _ hP hD hS hs h42 ls (lv_sub hl [1, 2, 3, 4] rfl)
                  · replace hF := (if_neg c21).symm.trans hF
                    refine lv_aload_n hx hb dX9_takenOf_168 rfl (lv_at hl 2 rfl) ?_
                    refine gf_X9_29 hx hb hts hown hK hP h35 dX9_takenOf_169 ?_
                    refine lv_iload hx hb dX9_takenOf_172 (lv_at hl 0 rfl) ?_
                    refine lv_aload_n hx hb dX9_takenOf_174 rfl (lv_at hl 2 rfl) ?_
                    refine gf_X9_29 hx hb hts hown hK hP h35 dX9_takenOf_175 ?_
                    refine lv_iload hx hb dX9_takenOf_178 (lv_at hl 0 rfl) ?_
                    obtain ⟨hg22, hF⟩ := gd_some hF
                    refine va_lald hx hb hK hP 42 1 h42 rfl hg22 dX9_takenOf_180 ?_
                    refine lv_bipush (v := (10 : Int32)) hx hb dX9_takenOf_181 (by decide) ?_
                    refine lv_aload_n hx hb dX9_takenOf_183 rfl (lv_at hl 2 rfl) ?_
                    refine lv_iload hx hb dX9_takenOf_184 (lv_at hl 1 rfl) ?_
                    refine lv_iload_n hx hb dX9_takenOf_186 rfl (lv_at hl 4 rfl) ?_
                    obtain ⟨x23, hx23, hF⟩ := bd_some hF
                    refine rd_i (runV (As := [.int x15, .int p2]) (rest := [.int (10 : Int32), .long (x19 x18.toNatClampNeg), .int x18, .ref (a 42)]) X cq_X9_upOf lk_X9_124 (c_X9_upOf l D cI cJ cZ a w m_readMany m_pupils m_mood m_length m_at m_faultAt m_drawn m_questions m_rights m_wrongs m_tapes m_trials m_pupil m_dares x15 p2 x23 hx23 h35 h37 h38) rfl rfl ⟨Nat.le_of_ble_eq_true rfl, Nat.le_of_ble_eq_true rfl⟩ hP h35 rfl rfl hl.1 rfl (Nat.le_of_ble_eq_true rfl) dX9_takenOf_187 ⟨Nat.le_of_ble_eq_true rfl, Nat.le_of_ble_eq_true rfl⟩) ?_
                    refine lv_isub hx hb dX9_takenOf_190 ?_
                    refine lv_i2l hx hb dX9_takenOf_191 rfl ?_
                    refine lv_lmul hx hb dX9_takenOf_192 ?_
                    refine lv_iload hx hb dX9_takenOf_193 (lv_at hl 0 rfl) ?_
                    refine lv_if_le (tgt := 219) hx hb dX9_takenOf_195 (by decide) (fun c24 => ?_) (fun c24 => ?_)
                    · replace hF := (if_pos c24).symm.trans hF
                      refine lv_lconst (v := (0 : Int64)) hx hb dX9_takenOf_219 (by decide) ?_
                      exact hJ220 x18 x18 ((x19 x18.toNatClampNeg) * (((10 : Int32) - x23).toInt64)) (0 : Int64) x19 _ _ _ hP hD hS hs h42 ls (lv_sub hl [0, 1, 2, 3, 4] rfl) hF
                    · replace hF := (if_neg c24).symm.trans hF
                      refine lv_aload_n hx hb dX9_takenOf_198 rfl (lv_at hl 2 rfl) ?_
                      refine gf_X9_29 hx hb hts hown hK hP h35 dX9_takenOf_199 ?_
                      refine lv_iload hx hb dX9_takenOf_202 (lv_at hl 0 rfl) ?_
                      refine lv_iconst (v := (1 : Int32)) hx hb dX9_takenOf_204 (by decide) ?_
                      refine lv_isub hx hb dX9_takenOf_205 ?_
                      obtain ⟨hg32, hF⟩ := gd_some hF
                      refine va_lald hx hb hK hP 42 1 h42 rfl hg32 dX9_takenOf_206 ?_
                      refine lv_aload_n hx hb dX9_takenOf_207 rfl (lv_at hl 2 rfl) ?_
                      refine lv_iload hx hb dX9_takenOf_208 (lv_at hl 1 rfl) ?_
                      refine lv_iload_n hx hb dX9_takenOf_210 rfl (lv_at hl 4 rfl) ?_
                      obtain ⟨x33, hx33, hF⟩ := bd_some hF
                      refine rd_i (runV (As := [.int x15, .int p2]) (rest := [.long (x19 (x18 - (1 : Int32)).toNatClampNeg), .long ((x19 x18.toNatClampNeg) * (((10 : Int32) - x23).toInt64)), .int x18, .ref (a 42)]) X cq_X9_upOf lk_X9_124 (c_X9_upOf l D cI cJ cZ a w m_readMany m_pupils m_mood m_length m_at m_faultAt m_drawn m_questions m_rights m_wrongs m_tapes m_trials m_pupil m_dares x15 p2 x33 hx33 h35 h37 h38) rfl rfl ⟨Nat.le_of_ble_eq_true rfl, Nat.le_of_ble_eq_true rfl⟩ hP h35 rfl rfl hl.1 rfl (Nat.le_of_ble_eq_true rfl) dX9_takenOf_211 ⟨Nat.le_of_ble_eq_true rfl, Nat.le_of_ble_eq_true rfl⟩) ?_
                      refine lv_i2l hx hb dX9_takenOf_214 rfl ?_
                      refine lv_lmul hx hb dX9_takenOf_215 ?_
                      refine lv_goto (tgt := 220) hx hb dX9_takenOf_216 (by decide) ?_
                      exact hJ220 x18 x18 ((x19 x18.toNatClampNeg) * (((10 : Int32) - x23).toInt64)) ((x19 (x18 - (1 : Int32)).toNatClampNeg) * x33.toInt64) x19 _ _ _ hP hD hS hs h42 ls (lv_sub hl [0, 1, 2, 3, 4] rfl) hF
            obtain ⟨o34, ho34, hF⟩ := bd_some hF
            refine hL157 fu (12 : Int32) x16 o34 ho34 _ _ _ hP hD hS hs h42 ls (lv_sub hl [0, 1, 2, 3, 4] rfl) ?_
            intro _ q_o34 w H locs hP hD hS hs h42 ls hl
            subst q_o34
            have h35 := (hs 35 (by simp only [List.mem_cons, List.not_mem_nil, or_false, not_or]; omega)).trans z35
            have h37 := (hs 37 (by simp only [List.mem_cons, List.not_mem_nil, or_false, not_or]; omega)).trans z37
            have h38 := (hs 38 (by simp only [List.mem_cons, List.not_mem_nil, or_false, not_or]; omega)).trans z38
            have h39 := (hs 39 (by simp only [List.mem_cons, List.not_mem_nil, or_false, not_or]; omega)).trans z39
            refine lv_iinc (v := x15 + (1 : Int32)) (lv' := [(4, .int (x15 + (1 : Int32))), (0, .ref (a 35)), (1, .int p1), (2, .int p2)]) hx hb dX9_takenOf_228 hl (k := 0) rfl rfl (by decide) rfl (fun ls hl => ?_)
            refine lv_goto (tgt := 144) hx hb dX9_takenOf_231 (by decide) ?_
            obtain rfl := Option.some.inj hF
            exact ih _ _ _ hw _ _ _ hP hD hS hs h42 ls (lv_sub hl [0, 1, 2, 3] rfl) hE
      obtain ⟨o35, ho35, hF⟩ := bd_some hF
      refine hL144 fu (0 : Int32) o14 o35 ho35 _ _ _ hP hD hS hs h42 ls (lv_sub hl [0, 1, 2, 3] rfl) ?_
      intro _ q_o35 w H locs hP hD hS hs h42 ls hl
      subst q_o35
      have h35 := (hs 35 (by simp only [List.mem_cons, List.not_mem_nil, or_false, not_or]; omega)).trans z35
      have h37 := (hs 37 (by simp only [List.mem_cons, List.not_mem_nil, or_false, not_or]; omega)).trans z37
      have h38 := (hs 38 (by simp only [List.mem_cons, List.not_mem_nil, or_false, not_or]; omega)).trans z38
      have h39 := (hs 39 (by simp only [List.mem_cons, List.not_mem_nil, or_false, not_or]; omega)).trans z39
      refine lv_lconst (v := (0 : Int64)) hx hb dX9_takenOf_234 (by decide) ?_
      refine lv_lstore (lv' := [(4, .long (0 : Int64)), (0, .ref (a 35))]) hx hb dX9_takenOf_235 hl (by decide) rfl (fun ls hl => ?_)
      refine lv_iconst (v := (0 : Int32)) hx hb dX9_takenOf_237 (by decide) ?_
      refine lv_istore (lv' := [(6, .int (0 : Int32)), (4, .long (0 : Int64)), (0, .ref (a 35))]) hx hb dX9_takenOf_238 hl (by decide) rfl (fun ls hl => ?_)
      have hL240 : ∀ (nf : Nat) (x36 : Int64) (x37 : Int32) (r : Int64), itr (fun v => FX9_takenOf_S240 o35 v.1 v.2) nf (x36, x37) = some r → ∀ (wJ : va_W) (HJ : Heap) (lJ : List Loc), va_P D vwCl wJ HJ → va_D A wJ → va_S A s.heap HJ lJ → (∀ j : Nat, j ∉ [42] → wJ[j]? = ws0[j]?) → wJ[42]? = some (a 42, .inl (cJ, 13, .inr (.inl o35))) → ∀ ls, lv_has ls 7 [(6, .int x37), (4, .long x36), (0, .ref (a 35))] → (∀ o : Int64, r = o → ∀ (wK : va_W) (HK : Heap) (lK : List Loc), va_P D vwCl wK HK → va_D A wK → va_S A s.heap HK lK → (∀ j : Nat, j ∉ [42] → wK[j]? = ws0[j]?) → wK[42]? = some (a 42, .inl (cJ, 13, .inr (.inl o35))) → ∀ ls, lv_has ls 7 [(4, .long o)] → W p l e rm_X9_takenOf s m args below meth c HK lK 0 0 Q (F0 m 275 ls [])) → W p l e rm_X9_takenOf s m args below meth c HJ lJ 0 0 Q (F0 m 240 ls []) := by
        intro nf
        induction nf with
        | zero => intro _ _ r hF; exact (itr_0 hF).elim
        | succ nf ih =>
          intro x36 x37 r hF w H locs hP hD hS hs h42 ls hl hE
          obtain ⟨wo, hF, hw⟩ := itr_s hF
          replace hF : FX9_takenOf_S240 o35 x36 x37 = some wo := hF
          have h35 := (hs 35 (by simp only [List.mem_cons, List.not_mem_nil, or_false, not_or]; omega)).trans z35
          have h37 := (hs 37 (by simp only [List.mem_cons, List.not_mem_nil, or_false, not_or]; omega)).trans z37
          have h38 := (hs 38 (by simp only [List.mem_cons, List.not_mem_nil, or_false, not_or]; omega)).trans z38
          have h39 := (hs 39 (by simp only [List.mem_cons, List.not_mem_nil, or_false, not_or]; omega)).trans z39
          unfold FX9_takenOf_S240 at hF
          refine lv_iload hx hb dX9_takenOf_240 (lv_at hl 0 rfl) ?_
          refine lv_bipush (v := (12 : Int32)) hx hb dX9_takenOf_242 (by decide) ?_
          refine lv_icmp_ge (tgt := 275) hx hb dX9_takenOf_244 (by decide) (fun c38 => ?_) (fun c38 => ?_)
          · replace hF := (if_pos c38).symm.trans hF
            obtain rfl := Option.some.inj hF
            obtain rfl := hw
            exact hE _ rfl _ _ _ hP hD hS hs h42 ls (lv_sub hl [1] rfl)
          · replace hF := (if_neg c38).symm.trans hF
            refine lv_lload hx hb dX9_takenOf_247 (lv_at hl 1 rfl) ?_
            refine lv_aload_n hx hb dX9_takenOf_249 rfl (lv_at hl 2 rfl) ?_
            refine gf_X9_29 hx hb hts hown hK hP h35 dX9_takenOf_250 ?_
            refine lv_iload hx hb dX9_takenOf_253 (lv_at hl 0 rfl) ?_
            obtain ⟨hg39, hF⟩ := gd_some hF
            refine va_lald hx hb hK hP 42 1 h42 rfl hg39 dX9_takenOf_255 ?_
            refine lv_ldc2 (v := (27720 : Int64)) hx hb hown (hts _ kl_X9_158) dX9_takenOf_256 ?_
            refine lv_iload hx hb dX9_takenOf_259 (lv_at hl 0 rfl) ?_
            refine lv_iconst (v := (1 : Int32)) hx hb dX9_takenOf_261 (by decide) ?_
            refine lv_iadd hx hb dX9_takenOf_262 ?_
            refine lv_i2l hx hb dX9_takenOf_263 rfl ?_
            obtain ⟨hg40, hF⟩ := gd_some hF
            refine lv_ldiv hx hb dX9_takenOf_264 hg40 ?_
            refine lv_lmul hx hb dX9_takenOf_265 ?_
            refine lv_ladd hx hb dX9_takenOf_266 ?_
            refine lv_topl (fun y41 e_y41 => ?_)
            replace hF := nm_at hF e_y41
            refine lv_lstore (lv' := [(4, .long y41), (6, .int x37), (0, .ref (a 35))]) hx hb dX9_takenOf_267 hl (by decide) rfl (fun ls hl => ?_)
            refine lv_iinc (v := x37 + (1 : Int32)) (lv' := [(6, .int (x37 + (1 : Int32))), (4, .long y41), (0, .ref (a 35))]) hx hb dX9_takenOf_269 hl (k := 1) rfl rfl (by decide) rfl (fun ls hl => ?_)
            refine lv_goto (tgt := 240) hx hb dX9_takenOf_272 (by decide) ?_
            obtain rfl := Option.some.inj hF
            exact ih _ _ _ hw _ _ _ hP hD hS hs h42 ls (lv_sub hl [0, 1, 2] rfl) hE
      obtain ⟨o42, ho42, hF⟩ := bd_some hF
      refine hL240 fu (0 : Int64) (0 : Int32) o42 ho42 _ _ _ hP hD hS hs h42 ls (lv_sub hl [0, 1, 2] rfl) ?_
      intro _ q_o42 w H locs hP hD hS hs h42 ls hl
      subst q_o42
      have h35 := (hs 35 (by simp only [List.mem_cons, List.not_mem_nil, or_false, not_or]; omega)).trans z35
      have h37 := (hs 37 (by simp only [List.mem_cons, List.not_mem_nil, or_false, not_or]; omega)).trans z37
      have h38 := (hs 38 (by simp only [List.mem_cons, List.not_mem_nil, or_false, not_or]; omega)).trans z38
      have h39 := (hs 39 (by simp only [List.mem_cons, List.not_mem_nil, or_false, not_or]; omega)).trans z39
      refine lv_lload hx hb dX9_takenOf_275 (lv_at hl 0 rfl) ?_
      obtain rfl := Option.some.inj hF
      rw [hQ]
      exact rw_l X hS hP hD hs h42 dX9_takenOf_277
    · replace hF := (if_neg c2).symm.trans hF
      refine lv_aload_n hx hb dX9_takenOf_25 rfl (lv_at hl 0 rfl) ?_
      refine lv_iload_n hx hb dX9_takenOf_26 rfl (lv_at hl 1 rfl) ?_
      refine lv_iload_n hx hb dX9_takenOf_27 rfl (lv_at hl 2 rfl) ?_
      obtain ⟨x43, hx43, hF⟩ := bd_some hF
      refine rd_i (runV (As := [.int p1, .int p2]) (rest := []) X cq_X9_upOf lk_X9_124 (c_X9_upOf l D cI cJ cZ a ws0 m_readMany m_pupils m_mood m_length m_at m_faultAt m_drawn m_questions m_rights m_wrongs m_tapes m_trials m_pupil m_dares p1 p2 x43 hx43 h35 h37 h38) rfl rfl ⟨Nat.le_of_ble_eq_true rfl, Nat.le_of_ble_eq_true rfl⟩ hP h35 rfl rfl hl.1 rfl (Nat.le_of_ble_eq_true rfl) dX9_takenOf_28 ⟨Nat.le_of_ble_eq_true rfl, Nat.le_of_ble_eq_true rfl⟩) ?_
      refine lv_i2l hx hb dX9_takenOf_31 rfl ?_
      refine lv_lstore (lv' := [(4, .long x43.toInt64), (0, .ref (a 35)), (1, .int p1), (2, .int p2), (3, .int p3)]) hx hb dX9_takenOf_32 hl (by decide) rfl (fun ls hl => ?_)
      refine lv_iconst (v := (0 : Int32)) hx hb dX9_takenOf_34 (by decide) ?_
      refine lv_istore (lv' := [(6, .int (0 : Int32)), (4, .long x43.toInt64), (0, .ref (a 35)), (1, .int p1), (2, .int p2), (3, .int p3)]) hx hb dX9_takenOf_35 hl (by decide) rfl (fun ls hl => ?_)
      have hL37 : ∀ (nf : Nat) (x44 : Int64) (x45 : Int32) (r : Int64), itr (fun v => FX9_takenOf_S37 m_pupils m_mood m_pupil m_dares m_times p1 p2 p3 v.1 v.2) nf (x44, x45) = some r → ∀ (wJ : va_W) (HJ : Heap) (lJ : List Loc), va_P D vwCl wJ HJ → va_D A wJ → va_S A s.heap HJ lJ → (∀ j : Nat, j ∉ [42] → wJ[j]? = ws0[j]?) → wJ[42]? = some (a 42, .inl (cJ, 13, .inr (.inl m_others))) → ∀ ls, lv_has ls 7 [(6, .int x45), (4, .long x44), (0, .ref (a 35)), (1, .int p1), (2, .int p2), (3, .int p3)] → (∀ o : Int64, r = o → ∀ (wK : va_W) (HK : Heap) (lK : List Loc), va_P D vwCl wK HK → va_D A wK → va_S A s.heap HK lK → (∀ j : Nat, j ∉ [42] → wK[j]? = ws0[j]?) → wK[42]? = some (a 42, .inl (cJ, 13, .inr (.inl m_others))) → ∀ ls, lv_has ls 7 [(4, .long o)] → W p l e rm_X9_takenOf s m args below meth c HK lK 0 0 Q (F0 m 95 ls [])) → W p l e rm_X9_takenOf s m args below meth c HJ lJ 0 0 Q (F0 m 37 ls []) := by
        intro nf
        induction nf with
        | zero => intro _ _ r hF; exact (itr_0 hF).elim
        | succ nf ih =>
          intro x44 x45 r hF w H locs hP hD hS hs h42 ls hl hE
          obtain ⟨wo, hF, hw⟩ := itr_s hF
          replace hF : FX9_takenOf_S37 m_pupils m_mood m_pupil m_dares m_times p1 p2 p3 x44 x45 = some wo := hF
          have h35 := (hs 35 (by simp only [List.mem_cons, List.not_mem_nil, or_false, not_or]; omega)).trans z35
          have h37 := (hs 37 (by simp only [List.mem_cons, List.not_mem_nil, or_false, not_or]; omega)).trans z37
          have h38 := (hs 38 (by simp only [List.mem_cons, List.not_mem_nil, or_false, not_or]; omega)).trans z38
          have h39 := (hs 39 (by simp only [List.mem_cons, List.not_mem_nil, or_false, not_or]; omega)).trans z39
          have hJ86 : ∀ (x50 : Int32) (x51 : Int64) (x52 : Int64), ∀ (wJ : va_W) (HJ : Heap) (lJ : List Loc), va_P D vwCl wJ HJ → va_D A wJ → va_S A s.heap HJ lJ → (∀ j : Nat, j ∉ [42] → wJ[j]? = ws0[j]?) → wJ[42]? = some (a 42, .inl (cJ, 13, .inr (.inl m_others))) → ∀ ls, lv_has ls 7 [(6, .int x50), (0, .ref (a 35)), (1, .int p1), (2, .int p2), (3, .int p3)] → FX9_takenOf_J86L37 x50 x51 x52 = some wo → W p l e rm_X9_takenOf s m args below meth c HJ lJ 0 0 Q (F0 m 86 ls [.long x52, .long x51]) := by
            intro x50 x51 x52 w H locs hP hD hS hs h42 ls hl hF
            have h35 := (hs 35 (by simp only [List.mem_cons, List.not_mem_nil, or_false, not_or]; omega)).trans z35
            have h37 := (hs 37 (by simp only [List.mem_cons, List.not_mem_nil, or_false, not_or]; omega)).trans z37
            have h38 := (hs 38 (by simp only [List.mem_cons, List.not_mem_nil, or_false, not_or]; omega)).trans z38
            have h39 := (hs 39 (by simp only [List.mem_cons, List.not_mem_nil, or_false, not_or]; omega)).trans z39
            unfold FX9_takenOf_J86L37 at hF
            refine lv_lmul hx hb dX9_takenOf_86 ?_
            refine lv_lstore (lv' := [(4, .long (x51 * x52)), (6, .int x50), (0, .ref (a 35)), (1, .int p1), (2, .int p2), (3, .int p3)]) hx hb dX9_takenOf_87 hl (by decide) rfl (fun ls hl => ?_)
            refine lv_iinc (v := x50 + (1 : Int32)) (lv' := [(6, .int (x50 + (1 : Int32))), (4, .long (x51 * x52)), (0, .ref (a 35)), (1, .int p1), (2, .int p2), (3, .int p3)]) hx hb dX9_takenOf_89 hl (k := 1) rfl rfl (by decide) rfl (fun ls hl => ?_)
            refine lv_goto (tgt := 37) hx hb dX9_takenOf_92 (by decide) ?_
            obtain rfl := Option.some.inj hF
            exact ih _ _ _ hw _ _ _ hP hD hS hs h42 ls (lv_sub hl [0, 1, 2, 3, 4, 5] rfl) hE
          unfold FX9_takenOf_S37 at hF
          refine lv_iload hx hb dX9_takenOf_37 (lv_at hl 0 rfl) ?_
          refine lv_aload_n hx hb dX9_takenOf_39 rfl (lv_at hl 2 rfl) ?_
          refine gf_X9_97 hx hb hts hown hK hP h35 dX9_takenOf_40 ?_
          refine lv_icmp_ge (tgt := 95) hx hb dX9_takenOf_43 (by decide) (fun c46 => ?_) (fun c46 => ?_)
          · replace hF := (if_pos c46).symm.trans hF
            obtain rfl := Option.some.inj hF
            obtain rfl := hw
            exact hE _ rfl _ _ _ hP hD hS hs h42 ls (lv_sub hl [1] rfl)
          · replace hF := (if_neg c46).symm.trans hF
            refine lv_lload hx hb dX9_takenOf_46 (lv_at hl 1 rfl) ?_
            refine lv_iload hx hb dX9_takenOf_48 (lv_at hl 0 rfl) ?_
            refine lv_iload_n hx hb dX9_takenOf_50 rfl (lv_at hl 3 rfl) ?_
            refine lv_icmp_ne (tgt := 58) hx hb dX9_takenOf_51 (by decide) (fun c47 => ?_) (fun c47 => ?_)
            · replace hF := (if_neg c47).symm.trans hF
              refine lv_aload_n hx hb dX9_takenOf_58 rfl (lv_at hl 2 rfl) ?_
              refine lv_iload hx hb dX9_takenOf_59 (lv_at hl 0 rfl) ?_
              refine lv_iload_n hx hb dX9_takenOf_61 rfl (lv_at hl 3 rfl) ?_
              refine lv_iload_n hx hb dX9_takenOf_62 rfl (lv_at hl 5 rfl) ?_
              obtain ⟨x48, hx48, hF⟩ := bd_some hF
              refine rd_i (runV (As := [.int x45, .int p1, .int p3]) (rest := [.long x44]) X cq_X9_isAhead lk_X9_160 (c_X9_isAhead l D cI cJ cZ a w m_readMany m_pupils m_mood m_length m_at m_faultAt m_drawn m_questions m_rights m_wrongs m_tapes m_trials m_pupil m_times x45 p1 p3 x48 hx48 h35 h37 h39) rfl rfl ⟨Nat.le_of_ble_eq_true rfl, Nat.le_of_ble_eq_true rfl⟩ hP h35 rfl rfl hl.1 rfl (Nat.le_of_ble_eq_true rfl) dX9_takenOf_63 ⟨Nat.le_of_ble_eq_true rfl, Nat.le_of_ble_eq_true rfl⟩) ?_
              refine zf_eq (tgt := 83) hx hb dX9_takenOf_66 (by decide) (fun c49 => ?_) (fun c49 => ?_)
              · replace hF := (if_neg c49).symm.trans hF
                refine lv_ldc2 (v := (10 : Int64)) hx hb hown (hts _ kl_X9_131) dX9_takenOf_83 ?_
                exact hJ86 x45 x44 (10 : Int64) _ _ _ hP hD hS hs h42 ls (lv_sub hl [0, 2, 3, 4, 5] rfl) hF
              · replace hF := (if_pos c49).symm.trans hF
                refine lv_bipush (v := (10 : Int32)) hx hb dX9_takenOf_69 (by decide) ?_
                refine lv_aload_n hx hb dX9_takenOf_71 rfl (lv_at hl 2 rfl) ?_
                refine lv_iload hx hb dX9_takenOf_72 (lv_at hl 0 rfl) ?_
                refine lv_iload_n hx hb dX9_takenOf_74 rfl (lv_at hl 4 rfl) ?_
                obtain ⟨x53, hx53, hF⟩ := bd_some hF
                refine rd_i (runV (As := [.int x45, .int p2]) (rest := [.int (10 : Int32), .long x44]) X cq_X9_upOf lk_X9_124 (c_X9_upOf l D cI cJ cZ a w m_readMany m_pupils m_mood m_length m_at m_faultAt m_drawn m_questions m_rights m_wrongs m_tapes m_trials m_pupil m_dares x45 p2 x53 hx53 h35 h37 h38) rfl rfl ⟨Nat.le_of_ble_eq_true rfl, Nat.le_of_ble_eq_true rfl⟩ hP h35 rfl rfl hl.1 rfl (Nat.le_of_ble_eq_true rfl) dX9_takenOf_75 ⟨Nat.le_of_ble_eq_true rfl, Nat.le_of_ble_eq_true rfl⟩) ?_
                refine lv_isub hx hb dX9_takenOf_78 ?_
                refine lv_i2l hx hb dX9_takenOf_79 rfl ?_
                refine lv_goto (tgt := 86) hx hb dX9_takenOf_80 (by decide) ?_
                exact hJ86 x45 x44 (((10 : Int32) - x53).toInt64) _ _ _ hP hD hS hs h42 ls (lv_sub hl [0, 2, 3, 4, 5] rfl) hF
            · replace hF := (if_pos c47).symm.trans hF
              refine lv_lconst (v := (1 : Int64)) hx hb dX9_takenOf_54 (by decide) ?_
              refine lv_goto (tgt := 86) hx hb dX9_takenOf_55 (by decide) ?_
              exact hJ86 x45 x44 (1 : Int64) _ _ _ hP hD hS hs h42 ls (lv_sub hl [0, 2, 3, 4, 5] rfl) hF
      obtain ⟨o54, ho54, hF⟩ := bd_some hF
      refine hL37 fu x43.toInt64 (0 : Int32) o54 ho54 _ _ _ hP hD hS hs h42 ls (lv_sub hl [0, 1, 2, 3, 4, 5] rfl) ?_
      intro _ q_o54 w H locs hP hD hS hs h42 ls hl
      subst q_o54
      have h35 := (hs 35 (by simp only [List.mem_cons, List.not_mem_nil, or_false, not_or]; omega)).trans z35
      have h37 := (hs 37 (by simp only [List.mem_cons, List.not_mem_nil, or_false, not_or]; omega)).trans z37
      have h38 := (hs 38 (by simp only [List.mem_cons, List.not_mem_nil, or_false, not_or]; omega)).trans z38
      have h39 := (hs 39 (by simp only [List.mem_cons, List.not_mem_nil, or_false, not_or]; omega)).trans z39
      refine lv_lload hx hb dX9_takenOf_95 (lv_at hl 0 rfl) ?_
      refine lv_ldc2 (v := (27720 : Int64)) hx hb hown (hts _ kl_X9_158) dX9_takenOf_97 ?_
      refine lv_lmul hx hb dX9_takenOf_100 ?_
      obtain rfl := Option.some.inj hF
      rw [hQ]
      exact rw_l X hS hP hD hs h42 dX9_takenOf_101
  · replace hF := (if_pos c1).symm.trans hF
    refine lv_aload_n hx hb dX9_takenOf_5 rfl (lv_at hl 0 rfl) ?_
    obtain ⟨x55, hx55, hF⟩ := bd_some hF
    refine rd_l (runV (As := []) (rest := []) X cq_X9_whole lk_X9_145 (c_X9_whole l D cI cJ cZ a ws0 m_readMany m_pupils m_mood m_length m_at m_faultAt m_drawn m_questions m_rights m_wrongs m_tapes m_trials x55 hx55 h35) rfl rfl ⟨Nat.le_of_ble_eq_true rfl, Nat.le_of_ble_eq_true rfl⟩ hP h35 rfl rfl hl.1 rfl (Nat.le_of_ble_eq_true rfl) dX9_takenOf_6 ⟨Nat.le_of_ble_eq_true rfl, Nat.le_of_ble_eq_true rfl⟩) ?_
    refine lv_ldc2 (v := (27720 : Int64)) hx hb hown (hts _ kl_X9_158) dX9_takenOf_9 ?_
    refine lv_aload_n hx hb dX9_takenOf_12 rfl (lv_at hl 0 rfl) ?_
    refine gf_X9_97 hx hb hts hown hK hP h35 dX9_takenOf_13 ?_
    refine lv_i2l hx hb dX9_takenOf_16 rfl ?_
    obtain ⟨hg56, hF⟩ := gd_some hF
    refine lv_ldiv hx hb dX9_takenOf_17 hg56 ?_
    refine lv_lmul hx hb dX9_takenOf_18 ?_
    obtain rfl := Option.some.inj hF
    rw [hQ]
    exact rw_l X hS hP hD hs h42 dX9_takenOf_19
def FX9_taken (m_pupils : Int32) (m_mood : Int32) (m_pupil : Nat → Int32) (m_dares : Nat → Int32) (m_times : Nat → Int32) (m_others : Nat → Int64) (p1 : Int32) (p2 : Int32) (p3 : Int32) (p4 : Int32) : Option (Int64 × (Nat → Int64)) :=
  if (FX9_isPupil m_pupils p1) = true then (if (FX9_isRule p3) = true then (if (FX9_isWait p2) = true then ((FX9_takenOf m_pupils m_mood m_others m_pupil m_dares m_times p1 p2 p3).bind fun u4 => (FX9_whole m_pupils).bind fun x6 => (FX9_part u4.1 (x6 * (27720 : Int64)) p4).bind fun x7 => some (x7, u4.2)) else (some ((-2 : Int64), m_others))) else (some ((-1 : Int64), m_others))) else (some ((-1 : Int64), m_others))
def rm_X9_taken : Room := { frames := 3, cells := 0, slots := 0, locals := 73 }
set_option maxHeartbeats 4000000 in
set_option maxRecDepth 100000 in
theorem c_X9_taken (l : Launch) (D : va_G) (cI cJ cZ : ClassId) (a : Nat → Nat) (ws0 : va_W) (A : Nat → Prop)  (m_readMany : Int32) (m_pupils : Int32) (m_mood : Int32) (m_length : Int32) (m_at : Int32) (m_faultAt : Int32) (m_drawn : Int64) (m_questions : Int32) (m_rights : Int32) (m_wrongs : Int32) (m_tapes : Int32) (m_trials : Int32) (m_pupil : Nat → Int32) (m_dares : Nat → Int32) (m_times : Nat → Int32) (m_others : Nat → Int64) (p1 : Int32) (p2 : Int32) (p3 : Int32) (p4 : Int32) (u : Int64 × (Nat → Int64)) (hF : FX9_taken m_pupils m_mood m_pupil m_dares m_times m_others p1 p2 p3 p4 = some u) (z35 : ws0[35]? = some (a 35, .inr (9, [.ref (a 36), .int m_readMany, .ref (a 37), .int m_pupils, .ref (a 38), .ref (a 39), .int m_mood, .ref (a 40), .int m_length, .int m_at, .int m_faultAt, .ref (a 41), .ref (a 42), .long m_drawn, .int m_questions, .int m_rights, .int m_wrongs, .int m_tapes, .ref (a 43), .ref (a 44), .int m_trials, .ref (a 45), .ref (a 46), .ref (a 47), .ref (a 48), .ref (a 49), .ref (a 50), .ref (a 51)]))) (z37 : ws0[37]? = some (a 37, .inl (cI, 72, .inl m_pupil))) (z38 : ws0[38]? = some (a 38, .inl (cI, 12, .inl m_dares))) (z39 : ws0[39]? = some (a 39, .inl (cI, 12, .inl m_times))) (z42 : ws0[42]? = some (a 42, .inl (cJ, 13, .inr (.inl m_others)))) (hD : va_D A ws0) : Met l yX9_taken (wq yX9_taken cX9_taken 5 (some .long)) rm_X9_taken (Pq [.ref (a 35), .int p1, .int p2, .int p3, .int p4] D cI cJ cZ ws0) (Qw D A ws0 [42] (some (.long u.1)) (fun w => w[42]? = some (a 42, .inl (cJ, 13, .inr (.inl u.2))))) 0 0 A := by
  refine mq_of (by decide) (Nat.le_of_ble_eq_true rfl) (fun p e s m args below meth c ls Q hQ X _ hP hl => ?_)
  obtain ⟨hx, hb, hr, hml, hown, hts, hlk, hK, hN⟩ := id X
  have hown : s.vm.findClass RX9 = some m.cls := hown
  have hl : lv_has ls 5 [(0, .ref (a 35)), (1, .int p1), (2, .int p2), (3, .int p3), (4, .int p4)] := hl
  have hS : va_S A s.heap s.heap [] := va_S.rf
  have hs : ∀ j : Nat, j ∉ [42] → ws0[j]? = ws0[j]? := fun _ _ => rfl
  have h35 := z35
  have h37 := z37
  have h38 := z38
  have h39 := z39
  have h42 := z42
  unfold FX9_taken at hF
  refine lv_aload_n hx hb dX9_taken_0 rfl (lv_at hl 0 rfl) ?_
  refine lv_iload_n hx hb dX9_taken_1 rfl (lv_at hl 1 rfl) ?_
  refine rd_i (runV (As := [.int p1]) (rest := []) X cq_X9_isPupil lk_X9_115 (c_X9_isPupil l D cI cJ cZ a ws0 m_readMany m_pupils m_mood m_length m_at m_faultAt m_drawn m_questions m_rights m_wrongs m_tapes m_trials p1 _ rfl h35) rfl rfl ⟨Nat.le_of_ble_eq_true rfl, Nat.le_of_ble_eq_true rfl⟩ hP h35 rfl rfl hl.1 rfl (Nat.le_of_ble_eq_true rfl) dX9_taken_2 ⟨Nat.le_of_ble_eq_true rfl, Nat.le_of_ble_eq_true rfl⟩) ?_
  refine zf_eq (tgt := 15) hx hb dX9_taken_5 (by decide) (fun c1 => ?_) (fun c1 => ?_)
  · replace hF := (if_neg c1).symm.trans hF
    refine lv_ldc2 (v := (-1 : Int64)) hx hb hown (hts _ kl_X9_167) dX9_taken_15 ?_
    obtain rfl := Option.some.inj hF
    rw [hQ]
    exact rw_l X hS hP hD hs h42 dX9_taken_18
  · replace hF := (if_pos c1).symm.trans hF
    refine lv_iload_n hx hb dX9_taken_8 rfl (lv_at hl 3 rfl) ?_
    refine rd_i (runS (As := [.int p3]) (rest := []) X cq_X9_isRule lk_X9_164 (c_X9_isRule l D cI cJ cZ a ws0 p3 _ rfl ) rfl rfl ⟨Nat.le_of_ble_eq_true rfl, Nat.le_of_ble_eq_true rfl⟩ hP rfl hl.1 rfl (Nat.le_of_ble_eq_true rfl) dX9_taken_9 ⟨Nat.le_of_ble_eq_true rfl, Nat.le_of_ble_eq_true rfl⟩) ?_
    refine zf_ne (tgt := 19) hx hb dX9_taken_12 (by decide) (fun c2 => ?_) (fun c2 => ?_)
    · replace hF := (if_pos c2).symm.trans hF
      refine lv_iload_n hx hb dX9_taken_19 rfl (lv_at hl 2 rfl) ?_
      refine rd_i (runS (As := [.int p2]) (rest := []) X cq_X9_isWait lk_X9_121 (c_X9_isWait l D cI cJ cZ a ws0 p2 _ rfl ) rfl rfl ⟨Nat.le_of_ble_eq_true rfl, Nat.le_of_ble_eq_true rfl⟩ hP rfl hl.1 rfl (Nat.le_of_ble_eq_true rfl) dX9_taken_20 ⟨Nat.le_of_ble_eq_true rfl, Nat.le_of_ble_eq_true rfl⟩) ?_
      refine zf_eq (tgt := 49) hx hb dX9_taken_23 (by decide) (fun c3 => ?_) (fun c3 => ?_)
      · replace hF := (if_neg c3).symm.trans hF
        refine lv_ldc2 (v := (-2 : Int64)) hx hb hown (hts _ kl_X9_135) dX9_taken_49 ?_
        obtain rfl := Option.some.inj hF
        rw [hQ]
        exact rw_l X hS hP hD hs h42 dX9_taken_52
      · replace hF := (if_pos c3).symm.trans hF
        refine lv_aload_n hx hb dX9_taken_26 rfl (lv_at hl 0 rfl) ?_
        refine lv_iload_n hx hb dX9_taken_27 rfl (lv_at hl 1 rfl) ?_
        refine lv_iload_n hx hb dX9_taken_28 rfl (lv_at hl 2 rfl) ?_
        refine lv_iload_n hx hb dX9_taken_29 rfl (lv_at hl 3 rfl) ?_
        obtain ⟨u4, hu4, hF⟩ := bd_some hF
        refine wr_l (runV (As := [.int p1, .int p2, .int p3]) (rest := []) X cq_X9_takenOf lk_X9_169 (c_X9_takenOf l D cI cJ cZ a ws0 A m_readMany m_pupils m_mood m_length m_at m_faultAt m_drawn m_questions m_rights m_wrongs m_tapes m_trials m_others m_pupil m_dares m_times p1 p2 p3 u4 hu4 h35 h37 h38 h39 h42 hD) rfl rfl ⟨Nat.le_of_ble_eq_true rfl, Nat.le_of_ble_eq_true rfl⟩ hP h35 rfl rfl hl.1 rfl (Nat.le_of_ble_eq_true rfl) dX9_taken_30 ⟨Nat.le_of_ble_eq_true rfl, Nat.le_of_ble_eq_true rfl⟩) hS (fun w5 H locs hP hD hk hB hS => ?_)
        have h42 : w5[42]? = some (a 42, .inl (cJ, 13, .inr (.inl u4.2))) := hB
        have h35 := (hk 35 (by simp only [List.mem_cons, List.not_mem_nil, or_false, not_or]; omega)).trans h35
        have h37 := (hk 37 (by simp only [List.mem_cons, List.not_mem_nil, or_false, not_or]; omega)).trans h37
        have h38 := (hk 38 (by simp only [List.mem_cons, List.not_mem_nil, or_false, not_or]; omega)).trans h38
        have h39 := (hk 39 (by simp only [List.mem_cons, List.not_mem_nil, or_false, not_or]; omega)).trans h39
        replace hs := st_tr hk (fun j hj => by simp only [List.mem_cons, List.not_mem_nil, or_false] at hj ⊢; omega) hs
        refine lv_aload_n hx hb dX9_taken_33 rfl (lv_at hl 0 rfl) ?_
        obtain ⟨x6, hx6, hF⟩ := bd_some hF
        refine rd_l (runV (As := []) (rest := [.long u4.1]) X cq_X9_whole lk_X9_145 (c_X9_whole l D cI cJ cZ a w5 m_readMany m_pupils m_mood m_length m_at m_faultAt m_drawn m_questions m_rights m_wrongs m_tapes m_trials x6 hx6 h35) rfl rfl ⟨Nat.le_of_ble_eq_true rfl, Nat.le_of_ble_eq_true rfl⟩ hP h35 rfl rfl hl.1 rfl (Nat.le_of_ble_eq_true rfl) dX9_taken_34 ⟨Nat.le_of_ble_eq_true rfl, Nat.le_of_ble_eq_true rfl⟩) ?_
        refine lv_ldc2 (v := (27720 : Int64)) hx hb hown (hts _ kl_X9_158) dX9_taken_37 ?_
        refine lv_lmul hx hb dX9_taken_40 ?_
        refine lv_iload hx hb dX9_taken_41 (lv_at hl 4 rfl) ?_
        obtain ⟨x7, hx7, hF⟩ := bd_some hF
        refine rd_l (runS (As := [.long u4.1, .long (x6 * (27720 : Int64)), .int p4]) (rest := []) X cq_X9_part lk_X9_149 (c_X9_part l D cI cJ cZ a w5 u4.1 (x6 * (27720 : Int64)) p4 x7 hx7 ) rfl rfl ⟨Nat.le_of_ble_eq_true rfl, Nat.le_of_ble_eq_true rfl⟩ hP rfl hl.1 rfl (Nat.le_of_ble_eq_true rfl) dX9_taken_43 ⟨Nat.le_of_ble_eq_true rfl, Nat.le_of_ble_eq_true rfl⟩) ?_
        refine lv_goto (tgt := 52) hx hb dX9_taken_46 (by decide) ?_
        obtain rfl := Option.some.inj hF
        rw [hQ]
        exact rw_l X hS hP hD hs h42 dX9_taken_52
    · replace hF := (if_neg c2).symm.trans hF
      refine lv_ldc2 (v := (-1 : Int64)) hx hb hown (hts _ kl_X9_167) dX9_taken_15 ?_
      obtain rfl := Option.some.inj hF
      rw [hQ]
      exact rw_l X hS hP hD hs h42 dX9_taken_18
def FX9_right_J94L28 (m_pupils : Int32) (m_mood : Int32) (m_pupil : Nat → Int32) (m_dares : Nat → Int32) (m_times : Nat → Int32) (p1 : Int32) (p2 : Int32) (x14 : Int32) (x15 : Int64) (x16 : Int32) (x17 : Nat → Int64) : Option ((Int64 × Int32 × (Nat → Int64)) ⊕ (Int64 × (Nat → Int64))) :=
  (FX9_takenOf m_pupils m_mood x17 m_pupil m_dares m_times x14 p1 p2).bind fun u18 => some (.inl (x15 + (u18.1 * x16.toInt64), x14 + (1 : Int32), u18.2))
def FX9_right_J82L28 (m_pupils : Int32) (m_mood : Int32) (m_pupil : Nat → Int32) (m_dares : Nat → Int32) (m_times : Nat → Int32) (p1 : Int32) (p2 : Int32) (x10 : Int32) (x11 : Int64) (x12 : Nat → Int64) : Option ((Int64 × Int32 × (Nat → Int64)) ⊕ (Int64 × (Nat → Int64))) :=
  if (((6 : Int32) * x10) + (2 : Int32)) < 0 ∨ 72 ≤ (((6 : Int32) * x10) + (2 : Int32)).toNatClampNeg then none else FX9_right_J94L28 m_pupils m_mood m_pupil m_dares m_times p1 p2 x10 x11 (m_pupil (((6 : Int32) * x10) + (2 : Int32)).toNatClampNeg) x12
def FX9_right_S28 (m_pupils : Int32) (m_mood : Int32) (m_pupil : Nat → Int32) (m_dares : Nat → Int32) (m_times : Nat → Int32) (p1 : Int32) (p2 : Int32) (x3 : Int64) (x4 : Int32) (x5 : Nat → Int64) : Option ((Int64 × Int32 × (Nat → Int64)) ⊕ (Int64 × (Nat → Int64))) :=
  if m_pupils ≤ x4 then (some (.inr (x3, x5))) else (if (((6 : Int32) * x4) + (3 : Int32)) < 0 ∨ 72 ≤ (((6 : Int32) * x4) + (3 : Int32)).toNatClampNeg then none else if (m_pupil (((6 : Int32) * x4) + (3 : Int32)).toNatClampNeg) ≤ p1 then (if p2 = (3 : Int32) then (FX9_right_J82L28 m_pupils m_mood m_pupil m_dares m_times p1 p2 x4 x3 x5) else (if (((6 : Int32) * x4) + (5 : Int32)) < 0 ∨ 72 ≤ (((6 : Int32) * x4) + (5 : Int32)).toNatClampNeg then none else if (m_pupil (((6 : Int32) * x4) + (5 : Int32)).toNatClampNeg) = 0 then (FX9_right_J94L28 m_pupils m_mood m_pupil m_dares m_times p1 p2 x4 x3 (10 : Int32) x5) else (FX9_right_J82L28 m_pupils m_mood m_pupil m_dares m_times p1 p2 x4 x3 x5))) else (FX9_right_J94L28 m_pupils m_mood m_pupil m_dares m_times p1 p2 x4 x3 (0 : Int32) x5))
def FX9_right (m_pupils : Int32) (m_mood : Int32) (m_pupil : Nat → Int32) (m_dares : Nat → Int32) (m_times : Nat → Int32) (m_others : Nat → Int64) (p1 : Int32) (p2 : Int32) (p3 : Int32) : Option (Int64 × (Nat → Int64)) :=
  if (FX9_isRule p2) = true then (if (FX9_isWait p1) = true then ((itr (fun v => FX9_right_S28 m_pupils m_mood m_pupil m_dares m_times p1 p2 v.1 v.2.1 v.2.2) fu ((0 : Int64), (0 : Int32), m_others)).bind fun o22 => (FX9_whole m_pupils).bind fun x23 => (FX9_part o22.1 ((x23 * (27720 : Int64)) * (10 : Int64)) p3).bind fun x24 => some (x24, o22.2)) else (some ((-2 : Int64), m_others))) else (some ((-1 : Int64), m_others))
def rm_X9_right : Room := { frames := 3, cells := 0, slots := 0, locals := 73 }
set_option maxHeartbeats 4000000 in
set_option maxRecDepth 100000 in
theorem c_X9_right (l : Launch) (D : va_G) (cI cJ cZ : ClassId) (a : Nat → Nat) (ws0 : va_W) (A : Nat → Prop)  (m_readMany : Int32) (m_pupils : Int32) (m_mood : Int32) (m_length : Int32) (m_at : Int32) (m_faultAt : Int32) (m_drawn : Int64) (m_questions : Int32) (m_rights : Int32) (m_wrongs : Int32) (m_tapes : Int32) (m_trials : Int32) (m_pupil : Nat → Int32) (m_dares : Nat → Int32) (m_times : Nat → Int32) (m_others : Nat → Int64) (p1 : Int32) (p2 : Int32) (p3 : Int32) (u : Int64 × (Nat → Int64)) (hF : FX9_right m_pupils m_mood m_pupil m_dares m_times m_others p1 p2 p3 = some u) (z35 : ws0[35]? = some (a 35, .inr (9, [.ref (a 36), .int m_readMany, .ref (a 37), .int m_pupils, .ref (a 38), .ref (a 39), .int m_mood, .ref (a 40), .int m_length, .int m_at, .int m_faultAt, .ref (a 41), .ref (a 42), .long m_drawn, .int m_questions, .int m_rights, .int m_wrongs, .int m_tapes, .ref (a 43), .ref (a 44), .int m_trials, .ref (a 45), .ref (a 46), .ref (a 47), .ref (a 48), .ref (a 49), .ref (a 50), .ref (a 51)]))) (z37 : ws0[37]? = some (a 37, .inl (cI, 72, .inl m_pupil))) (z38 : ws0[38]? = some (a 38, .inl (cI, 12, .inl m_dares))) (z39 : ws0[39]? = some (a 39, .inl (cI, 12, .inl m_times))) (z42 : ws0[42]? = some (a 42, .inl (cJ, 13, .inr (.inl m_others)))) (hD : va_D A ws0) : Met l yX9_right (wq yX9_right cX9_right 8 (some .long)) rm_X9_right (Pq [.ref (a 35), .int p1, .int p2, .int p3] D cI cJ cZ ws0) (Qw D A ws0 [42] (some (.long u.1)) (fun w => w[42]? = some (a 42, .inl (cJ, 13, .inr (.inl u.2))))) 0 0 A := by
  refine mq_of (by decide) (Nat.le_of_ble_eq_true rfl) (fun p e s m args below meth c ls Q hQ X _ hP hl => ?_)
  obtain ⟨hx, hb, hr, hml, hown, hts, hlk, hK, hN⟩ := id X
  have hown : s.vm.findClass RX9 = some m.cls := hown
  have hl : lv_has ls 8 [(0, .ref (a 35)), (1, .int p1), (2, .int p2), (3, .int p3)] := hl
  have hS : va_S A s.heap s.heap [] := va_S.rf
  have hs : ∀ j : Nat, j ∉ [42] → ws0[j]? = ws0[j]? := fun _ _ => rfl
  have h35 := z35
  have h37 := z37
  have h38 := z38
  have h39 := z39
  have h42 := z42
  unfold FX9_right at hF
  refine lv_iload_n hx hb dX9_right_0 rfl (lv_at hl 2 rfl) ?_
  refine rd_i (runS (As := [.int p2]) (rest := []) X cq_X9_isRule lk_X9_164 (c_X9_isRule l D cI cJ cZ a ws0 p2 _ rfl ) rfl rfl ⟨Nat.le_of_ble_eq_true rfl, Nat.le_of_ble_eq_true rfl⟩ hP rfl hl.1 rfl (Nat.le_of_ble_eq_true rfl) dX9_right_1 ⟨Nat.le_of_ble_eq_true rfl, Nat.le_of_ble_eq_true rfl⟩) ?_
  refine zf_ne (tgt := 11) hx hb dX9_right_4 (by decide) (fun c1 => ?_) (fun c1 => ?_)
  · replace hF := (if_pos c1).symm.trans hF
    refine lv_iload_n hx hb dX9_right_11 rfl (lv_at hl 1 rfl) ?_
    refine rd_i (runS (As := [.int p1]) (rest := []) X cq_X9_isWait lk_X9_121 (c_X9_isWait l D cI cJ cZ a ws0 p1 _ rfl ) rfl rfl ⟨Nat.le_of_ble_eq_true rfl, Nat.le_of_ble_eq_true rfl⟩ hP rfl hl.1 rfl (Nat.le_of_ble_eq_true rfl) dX9_right_12 ⟨Nat.le_of_ble_eq_true rfl, Nat.le_of_ble_eq_true rfl⟩) ?_
    refine zf_ne (tgt := 22) hx hb dX9_right_15 (by decide) (fun c2 => ?_) (fun c2 => ?_)
    · replace hF := (if_pos c2).symm.trans hF
      refine lv_lconst (v := (0 : Int64)) hx hb dX9_right_22 (by decide) ?_
      refine lv_lstore (lv' := [(4, .long (0 : Int64)), (0, .ref (a 35)), (1, .int p1), (2, .int p2), (3, .int p3)]) hx hb dX9_right_23 hl (by decide) rfl (fun ls hl => ?_)
      refine lv_iconst (v := (0 : Int32)) hx hb dX9_right_25 (by decide) ?_
      refine lv_istore (lv' := [(6, .int (0 : Int32)), (4, .long (0 : Int64)), (0, .ref (a 35)), (1, .int p1), (2, .int p2), (3, .int p3)]) hx hb dX9_right_26 hl (by decide) rfl (fun ls hl => ?_)
      have hL28 : ∀ (nf : Nat) (x3 : Int64) (x4 : Int32) (x5 : Nat → Int64) (r : Int64 × (Nat → Int64)), itr (fun v => FX9_right_S28 m_pupils m_mood m_pupil m_dares m_times p1 p2 v.1 v.2.1 v.2.2) nf (x3, x4, x5) = some r → ∀ (wJ : va_W) (HJ : Heap) (lJ : List Loc), va_P D vwCl wJ HJ → va_D A wJ → va_S A s.heap HJ lJ → (∀ j : Nat, j ∉ [42] → wJ[j]? = ws0[j]?) → wJ[42]? = some (a 42, .inl (cJ, 13, .inr (.inl x5))) → ∀ ls, lv_has ls 8 [(6, .int x4), (4, .long x3), (0, .ref (a 35)), (1, .int p1), (2, .int p2), (3, .int p3)] → (∀ o : Int64 × (Nat → Int64), r = o → ∀ (wK : va_W) (HK : Heap) (lK : List Loc), va_P D vwCl wK HK → va_D A wK → va_S A s.heap HK lK → (∀ j : Nat, j ∉ [42] → wK[j]? = ws0[j]?) → wK[42]? = some (a 42, .inl (cJ, 13, .inr (.inl o.2))) → ∀ ls, lv_has ls 8 [(4, .long o.1), (0, .ref (a 35)), (3, .int p3)] → W p l e rm_X9_right s m args below meth c HK lK 0 0 Q (F0 m 119 ls [])) → W p l e rm_X9_right s m args below meth c HJ lJ 0 0 Q (F0 m 28 ls []) := by
        intro nf
        induction nf with
        | zero => intro _ _ _ r hF; exact (itr_0 hF).elim
        | succ nf ih =>
          intro x3 x4 x5 r hF w H locs hP hD hS hs h42 ls hl hE
          obtain ⟨wo, hF, hw⟩ := itr_s hF
          replace hF : FX9_right_S28 m_pupils m_mood m_pupil m_dares m_times p1 p2 x3 x4 x5 = some wo := hF
          have h35 := (hs 35 (by simp only [List.mem_cons, List.not_mem_nil, or_false, not_or]; omega)).trans z35
          have h37 := (hs 37 (by simp only [List.mem_cons, List.not_mem_nil, or_false, not_or]; omega)).trans z37
          have h38 := (hs 38 (by simp only [List.mem_cons, List.not_mem_nil, or_false, not_or]; omega)).trans z38
          have h39 := (hs 39 (by simp only [List.mem_cons, List.not_mem_nil, or_false, not_or]; omega)).trans z39
          have hJ94 : ∀ (x14 : Int32) (x15 : Int64) (x16 : Int32) (x17 : Nat → Int64), ∀ (wJ : va_W) (HJ : Heap) (lJ : List Loc), va_P D vwCl wJ HJ → va_D A wJ → va_S A s.heap HJ lJ → (∀ j : Nat, j ∉ [42] → wJ[j]? = ws0[j]?) → wJ[42]? = some (a 42, .inl (cJ, 13, .inr (.inl x17))) → ∀ ls, lv_has ls 8 [(6, .int x14), (4, .long x15), (0, .ref (a 35)), (1, .int p1), (2, .int p2), (3, .int p3)] → FX9_right_J94L28 m_pupils m_mood m_pupil m_dares m_times p1 p2 x14 x15 x16 x17 = some wo → W p l e rm_X9_right s m args below meth c HJ lJ 0 0 Q (F0 m 94 ls [.int x16]) := by
            intro x14 x15 x16 x17 w H locs hP hD hS hs h42 ls hl hF
            have h35 := (hs 35 (by simp only [List.mem_cons, List.not_mem_nil, or_false, not_or]; omega)).trans z35
            have h37 := (hs 37 (by simp only [List.mem_cons, List.not_mem_nil, or_false, not_or]; omega)).trans z37
            have h38 := (hs 38 (by simp only [List.mem_cons, List.not_mem_nil, or_false, not_or]; omega)).trans z38
            have h39 := (hs 39 (by simp only [List.mem_cons, List.not_mem_nil, or_false, not_or]; omega)).trans z39
            unfold FX9_right_J94L28 at hF
            refine lv_istore (lv' := [(7, .int x16), (6, .int x14), (4, .long x15), (0, .ref (a 35)), (1, .int p1), (2, .int p2), (3, .int p3)]) hx hb dX9_right_94 hl (by decide) rfl (fun ls hl => ?_)
            refine lv_lload hx hb dX9_right_96 (lv_at hl 2 rfl) ?_
            refine lv_aload_n hx hb dX9_right_98 rfl (lv_at hl 3 rfl) ?_
            refine lv_iload hx hb dX9_right_99 (lv_at hl 1 rfl) ?_
            refine lv_iload_n hx hb dX9_right_101 rfl (lv_at hl 4 rfl) ?_
            refine lv_iload_n hx hb dX9_right_102 rfl (lv_at hl 5 rfl) ?_
            obtain ⟨u18, hu18, hF⟩ := bd_some hF
            refine wr_l (runV (As := [.int x14, .int p1, .int p2]) (rest := [.long x15]) X cq_X9_takenOf lk_X9_169 (c_X9_takenOf l D cI cJ cZ a w A m_readMany m_pupils m_mood m_length m_at m_faultAt m_drawn m_questions m_rights m_wrongs m_tapes m_trials x17 m_pupil m_dares m_times x14 p1 p2 u18 hu18 h35 h37 h38 h39 h42 hD) rfl rfl ⟨Nat.le_of_ble_eq_true rfl, Nat.le_of_ble_eq_true rfl⟩ hP h35 rfl rfl hl.1 rfl (Nat.le_of_ble_eq_true rfl) dX9_right_103 ⟨Nat.le_of_ble_eq_true rfl, Nat.le_of_ble_eq_true rfl⟩) hS (fun w19 H locs hP hD hk hB hS => ?_)
            have h42 : w19[42]? = some (a 42, .inl (cJ, 13, .inr (.inl u18.2))) := hB
            have h35 := (hk 35 (by simp only [List.mem_cons, List.not_mem_nil, or_false, not_or]; omega)).trans h35
            have h37 := (hk 37 (by simp only [List.mem_cons, List.not_mem_nil, or_false, not_or]; omega)).trans h37
            have h38 := (hk 38 (by simp only [List.mem_cons, List.not_mem_nil, or_false, not_or]; omega)).trans h38
            have h39 := (hk 39 (by simp only [List.mem_cons, List.not_mem_nil, or_false, not_or]; omega)).trans h39
            replace hs := st_tr hk (fun j hj => by simp only [List.mem_cons, List.not_mem_nil, or_false] at hj ⊢; omega) hs
            refine lv_iload hx hb dX9_right_106 (lv_at hl 0 rfl) ?_
            refine lv_i2l hx hb dX9_right_108 rfl ?_
            refine lv_lmul hx hb dX9_right_109 ?_
            refine lv_ladd hx hb dX9_right_110 ?_
            refine lv_lstore (lv' := [(4, .long (x15 + (u18.1 * x16.toInt64))), (7, .int x16), (6, .int x14), (0, .ref (a 35)), (1, .int p1), (2, .int p2), (3, .int p3)]) hx hb dX9_right_111 hl (by decide) rfl (fun ls hl => ?_)
            refine lv_iinc (v := x14 + (1 : Int32)) (lv' := [(6, .int (x14 + (1 : Int32))), (4, .long (x15 + (u18.1 * x16.toInt64))), (7, .int x16), (0, .ref (a 35)), (1, .int p1), (2, .int p2), (3, .int p3)]) hx hb dX9_right_113 hl (k := 2) rfl rfl (by decide) rfl (fun ls hl => ?_)
            refine lv_goto (tgt := 28) hx hb dX9_right_116 (by decide) ?_
            obtain rfl := Option.some.inj hF
            exact ih _ _ _ _ hw _ _ _ hP hD hS hs h42 ls (lv_sub hl [0, 1, 3, 4, 5, 6] rfl) hE
          have hJ82 : ∀ (x10 : Int32) (x11 : Int64) (x12 : Nat → Int64), ∀ (wJ : va_W) (HJ : Heap) (lJ : List Loc), va_P D vwCl wJ HJ → va_D A wJ → va_S A s.heap HJ lJ → (∀ j : Nat, j ∉ [42] → wJ[j]? = ws0[j]?) → wJ[42]? = some (a 42, .inl (cJ, 13, .inr (.inl x12))) → ∀ ls, lv_has ls 8 [(6, .int x10), (4, .long x11), (0, .ref (a 35)), (1, .int p1), (2, .int p2), (3, .int p3)] → FX9_right_J82L28 m_pupils m_mood m_pupil m_dares m_times p1 p2 x10 x11 x12 = some wo → W p l e rm_X9_right s m args below meth c HJ lJ 0 0 Q (F0 m 82 ls []) := by
            intro x10 x11 x12 w H locs hP hD hS hs h42 ls hl hF
            have h35 := (hs 35 (by simp only [List.mem_cons, List.not_mem_nil, or_false, not_or]; omega)).trans z35
            have h37 := (hs 37 (by simp only [List.mem_cons, List.not_mem_nil, or_false, not_or]; omega)).trans z37
            have h38 := (hs 38 (by simp only [List.mem_cons, List.not_mem_nil, or_false, not_or]; omega)).trans z38
            have h39 := (hs 39 (by simp only [List.mem_cons, List.not_mem_nil, or_false, not_or]; omega)).trans z39
            unfold FX9_right_J82L28 at hF
            refine lv_aload_n hx hb dX9_right_82 rfl (lv_at hl 2 rfl) ?_
            refine gf_X9_13 hx hb hts hown hK hP h35 dX9_right_83 ?_
            refine lv_bipush (v := (6 : Int32)) hx hb dX9_right_86 (by decide) ?_
            refine lv_iload hx hb dX9_right_88 (lv_at hl 0 rfl) ?_
            refine lv_imul hx hb dX9_right_90 ?_
            refine lv_iconst (v := (2 : Int32)) hx hb dX9_right_91 (by decide) ?_
            refine lv_iadd hx hb dX9_right_92 ?_
            obtain ⟨hg13, hF⟩ := gd_some hF
            refine va_iald hx hb hK hP 37 0 h37 rfl hg13 dX9_right_93 ?_
            exact hJ94 x10 x11 (m_pupil (((6 : Int32) * x10) + (2 : Int32)).toNatClampNeg) x12 _ _ _ hP hD hS hs h42 ls (lv_sub hl [0, 1, 2, 3, 4, 5] rfl) hF
          unfold FX9_right_S28 at hF
          refine lv_iload hx hb dX9_right_28 (lv_at hl 0 rfl) ?_
          refine lv_aload_n hx hb dX9_right_30 rfl (lv_at hl 2 rfl) ?_
          refine gf_X9_97 hx hb hts hown hK hP h35 dX9_right_31 ?_
          refine lv_icmp_ge (tgt := 119) hx hb dX9_right_34 (by decide) (fun c6 => ?_) (fun c6 => ?_)
          · replace hF := (if_pos c6).symm.trans hF
            obtain rfl := Option.some.inj hF
            obtain rfl := hw
            exact hE _ rfl _ _ _ hP hD hS hs h42 ls (lv_sub hl [1, 2, 5] rfl)
          · replace hF := (if_neg c6).symm.trans hF
            refine lv_aload_n hx hb dX9_right_37 rfl (lv_at hl 2 rfl) ?_
            refine gf_X9_13 hx hb hts hown hK hP h35 dX9_right_38 ?_
            refine lv_bipush (v := (6 : Int32)) hx hb dX9_right_41 (by decide) ?_
            refine lv_iload hx hb dX9_right_43 (lv_at hl 0 rfl) ?_
            refine lv_imul hx hb dX9_right_45 ?_
            refine lv_iconst (v := (3 : Int32)) hx hb dX9_right_46 (by decide) ?_
            refine lv_iadd hx hb dX9_right_47 ?_
            obtain ⟨hg7, hF⟩ := gd_some hF
            refine va_iald hx hb hK hP 37 0 h37 rfl hg7 dX9_right_48 ?_
            refine lv_iload_n hx hb dX9_right_49 rfl (lv_at hl 3 rfl) ?_
            refine lv_icmp_le (tgt := 57) hx hb dX9_right_50 (by decide) (fun c8 => ?_) (fun c8 => ?_)
            · replace hF := (if_pos c8).symm.trans hF
              refine lv_iload_n hx hb dX9_right_57 rfl (lv_at hl 4 rfl) ?_
              refine lv_iconst (v := (3 : Int32)) hx hb dX9_right_58 (by decide) ?_
              refine lv_icmp_eq (tgt := 82) hx hb dX9_right_59 (by decide) (fun c9 => ?_) (fun c9 => ?_)
              · replace hF := (if_pos c9).symm.trans hF
                exact hJ82 x4 x3 x5 _ _ _ hP hD hS hs h42 ls (lv_sub hl [0, 1, 2, 3, 4, 5] rfl) hF
              · replace hF := (if_neg c9).symm.trans hF
                refine lv_aload_n hx hb dX9_right_62 rfl (lv_at hl 2 rfl) ?_
                refine gf_X9_13 hx hb hts hown hK hP h35 dX9_right_63 ?_
                refine lv_bipush (v := (6 : Int32)) hx hb dX9_right_66 (by decide) ?_
                refine lv_iload hx hb dX9_right_68 (lv_at hl 0 rfl) ?_
                refine lv_imul hx hb dX9_right_70 ?_
                refine lv_iconst (v := (5 : Int32)) hx hb dX9_right_71 (by decide) ?_
                refine lv_iadd hx hb dX9_right_72 ?_
                obtain ⟨hg20, hF⟩ := gd_some hF
                refine va_iald hx hb hK hP 37 0 h37 rfl hg20 dX9_right_73 ?_
                refine lv_if_ne (tgt := 82) hx hb dX9_right_74 (by decide) (fun c21 => ?_) (fun c21 => ?_)
                · replace hF := (if_neg c21).symm.trans hF
                  exact hJ82 x4 x3 x5 _ _ _ hP hD hS hs h42 ls (lv_sub hl [0, 1, 2, 3, 4, 5] rfl) hF
                · replace hF := (if_pos c21).symm.trans hF
                  refine lv_bipush (v := (10 : Int32)) hx hb dX9_right_77 (by decide) ?_
                  refine lv_goto (tgt := 94) hx hb dX9_right_79 (by decide) ?_
                  exact hJ94 x4 x3 (10 : Int32) x5 _ _ _ hP hD hS hs h42 ls (lv_sub hl [0, 1, 2, 3, 4, 5] rfl) hF
            · replace hF := (if_neg c8).symm.trans hF
              refine lv_iconst (v := (0 : Int32)) hx hb dX9_right_53 (by decide) ?_
              refine lv_goto (tgt := 94) hx hb dX9_right_54 (by decide) ?_
              exact hJ94 x4 x3 (0 : Int32) x5 _ _ _ hP hD hS hs h42 ls (lv_sub hl [0, 1, 2, 3, 4, 5] rfl) hF
      obtain ⟨o22, ho22, hF⟩ := bd_some hF
      refine hL28 fu (0 : Int64) (0 : Int32) m_others o22 ho22 _ _ _ hP hD hS hs h42 ls (lv_sub hl [0, 1, 2, 3, 4, 5] rfl) ?_
      intro _ q_o22 w H locs hP hD hS hs h42 ls hl
      subst q_o22
      have h35 := (hs 35 (by simp only [List.mem_cons, List.not_mem_nil, or_false, not_or]; omega)).trans z35
      have h37 := (hs 37 (by simp only [List.mem_cons, List.not_mem_nil, or_false, not_or]; omega)).trans z37
      have h38 := (hs 38 (by simp only [List.mem_cons, List.not_mem_nil, or_false, not_or]; omega)).trans z38
      have h39 := (hs 39 (by simp only [List.mem_cons, List.not_mem_nil, or_false, not_or]; omega)).trans z39
      refine lv_lload hx hb dX9_right_119 (lv_at hl 0 rfl) ?_
      refine lv_aload_n hx hb dX9_right_121 rfl (lv_at hl 1 rfl) ?_
      obtain ⟨x23, hx23, hF⟩ := bd_some hF
      refine rd_l (runV (As := []) (rest := [.long o22.1]) X cq_X9_whole lk_X9_145 (c_X9_whole l D cI cJ cZ a w m_readMany m_pupils m_mood m_length m_at m_faultAt m_drawn m_questions m_rights m_wrongs m_tapes m_trials x23 hx23 h35) rfl rfl ⟨Nat.le_of_ble_eq_true rfl, Nat.le_of_ble_eq_true rfl⟩ hP h35 rfl rfl hl.1 rfl (Nat.le_of_ble_eq_true rfl) dX9_right_122 ⟨Nat.le_of_ble_eq_true rfl, Nat.le_of_ble_eq_true rfl⟩) ?_
      refine lv_ldc2 (v := (27720 : Int64)) hx hb hown (hts _ kl_X9_158) dX9_right_125 ?_
      refine lv_lmul hx hb dX9_right_128 ?_
      refine lv_ldc2 (v := (10 : Int64)) hx hb hown (hts _ kl_X9_131) dX9_right_129 ?_
      refine lv_lmul hx hb dX9_right_132 ?_
      refine lv_iload_n hx hb dX9_right_133 rfl (lv_at hl 2 rfl) ?_
      obtain ⟨x24, hx24, hF⟩ := bd_some hF
      refine rd_l (runS (As := [.long o22.1, .long ((x23 * (27720 : Int64)) * (10 : Int64)), .int p3]) (rest := []) X cq_X9_part lk_X9_149 (c_X9_part l D cI cJ cZ a w o22.1 ((x23 * (27720 : Int64)) * (10 : Int64)) p3 x24 hx24 ) rfl rfl ⟨Nat.le_of_ble_eq_true rfl, Nat.le_of_ble_eq_true rfl⟩ hP rfl hl.1 rfl (Nat.le_of_ble_eq_true rfl) dX9_right_134 ⟨Nat.le_of_ble_eq_true rfl, Nat.le_of_ble_eq_true rfl⟩) ?_
      obtain rfl := Option.some.inj hF
      rw [hQ]
      exact rw_l X hS hP hD hs h42 dX9_right_137
    · replace hF := (if_neg c2).symm.trans hF
      refine lv_ldc2 (v := (-2 : Int64)) hx hb hown (hts _ kl_X9_135) dX9_right_18 ?_
      obtain rfl := Option.some.inj hF
      rw [hQ]
      exact rw_l X hS hP hD hs h42 dX9_right_21
  · replace hF := (if_neg c1).symm.trans hF
    refine lv_ldc2 (v := (-1 : Int64)) hx hb hown (hts _ kl_X9_167) dX9_right_7 ?_
    obtain rfl := Option.some.inj hF
    rw [hQ]
    exact rw_l X hS hP hD hs h42 dX9_right_10
def FX9_mostly_J61L28 (x11 : Int64) (x12 : Int32) (x13 : Int64) (x14 : Int32) (x15 : Nat → Int64) : Option ((Int32 × Int64 × Int32 × (Nat → Int64)) ⊕ (Int32 × (Nat → Int64))) :=
  if x11 ≤ x13 then (some (.inl (x14, x13, x12 + (1 : Int32), x15))) else (some (.inl (x14, x11, x12 + (1 : Int32), x15)))
def FX9_mostly_S28 (m_pupils : Int32) (m_mood : Int32) (m_pupil : Nat → Int32) (m_dares : Nat → Int32) (m_times : Nat → Int32) (p1 : Int32) (p2 : Int32) (x3 : Int32) (x4 : Int64) (x5 : Int32) (x6 : Nat → Int64) : Option ((Int32 × Int64 × Int32 × (Nat → Int64)) ⊕ (Int32 × (Nat → Int64))) :=
  if m_pupils ≤ x5 then (some (.inr (x3, x6))) else ((FX9_takenOf m_pupils m_mood x6 m_pupil m_dares m_times x5 p1 p2).bind fun u8 => if u8.1 ≤ x4 then (FX9_mostly_J61L28 u8.1 x5 x4 x3 u8.2) else (FX9_mostly_J61L28 u8.1 x5 x4 x5 u8.2))
def FX9_mostly (m_pupils : Int32) (m_mood : Int32) (m_pupil : Nat → Int32) (m_dares : Nat → Int32) (m_times : Nat → Int32) (m_others : Nat → Int64) (p1 : Int32) (p2 : Int32) : Option (Int32 × (Nat → Int64)) :=
  if (FX9_isRule p2) = true then (if (FX9_isWait p1) = true then ((itr (fun v => FX9_mostly_S28 m_pupils m_mood m_pupil m_dares m_times p1 p2 v.1 v.2.1 v.2.2.1 v.2.2.2) fu ((-9 : Int32), (0 : Int64), (0 : Int32), m_others)).bind fun o17 => some (o17.1, o17.2)) else (some ((-2 : Int32), m_others))) else (some ((-1 : Int32), m_others))
def rm_X9_mostly : Room := { frames := 3, cells := 0, slots := 0, locals := 73 }
set_option maxHeartbeats 4000000 in
set_option maxRecDepth 100000 in
theorem c_X9_mostly (l : Launch) (D : va_G) (cI cJ cZ : ClassId) (a : Nat → Nat) (ws0 : va_W) (A : Nat → Prop)  (m_readMany : Int32) (m_pupils : Int32) (m_mood : Int32) (m_length : Int32) (m_at : Int32) (m_faultAt : Int32) (m_drawn : Int64) (m_questions : Int32) (m_rights : Int32) (m_wrongs : Int32) (m_tapes : Int32) (m_trials : Int32) (m_pupil : Nat → Int32) (m_dares : Nat → Int32) (m_times : Nat → Int32) (m_others : Nat → Int64) (p1 : Int32) (p2 : Int32) (u : Int32 × (Nat → Int64)) (hF : FX9_mostly m_pupils m_mood m_pupil m_dares m_times m_others p1 p2 = some u) (z35 : ws0[35]? = some (a 35, .inr (9, [.ref (a 36), .int m_readMany, .ref (a 37), .int m_pupils, .ref (a 38), .ref (a 39), .int m_mood, .ref (a 40), .int m_length, .int m_at, .int m_faultAt, .ref (a 41), .ref (a 42), .long m_drawn, .int m_questions, .int m_rights, .int m_wrongs, .int m_tapes, .ref (a 43), .ref (a 44), .int m_trials, .ref (a 45), .ref (a 46), .ref (a 47), .ref (a 48), .ref (a 49), .ref (a 50), .ref (a 51)]))) (z37 : ws0[37]? = some (a 37, .inl (cI, 72, .inl m_pupil))) (z38 : ws0[38]? = some (a 38, .inl (cI, 12, .inl m_dares))) (z39 : ws0[39]? = some (a 39, .inl (cI, 12, .inl m_times))) (z42 : ws0[42]? = some (a 42, .inl (cJ, 13, .inr (.inl m_others)))) (hD : va_D A ws0) : Met l yX9_mostly (wq yX9_mostly cX9_mostly 9 (some .int)) rm_X9_mostly (Pq [.ref (a 35), .int p1, .int p2] D cI cJ cZ ws0) (Qw D A ws0 [42] (some (.int u.1)) (fun w => w[42]? = some (a 42, .inl (cJ, 13, .inr (.inl u.2))))) 0 0 A := by
  refine mq_of (by decide) (Nat.le_of_ble_eq_true rfl) (fun p e s m args below meth c ls Q hQ X _ hP hl => ?_)
  obtain ⟨hx, hb, hr, hml, hown, hts, hlk, hK, hN⟩ := id X
  have hown : s.vm.findClass RX9 = some m.cls := hown
  have hl : lv_has ls 9 [(0, .ref (a 35)), (1, .int p1), (2, .int p2)] := hl
  have hS : va_S A s.heap s.heap [] := va_S.rf
  have hs : ∀ j : Nat, j ∉ [42] → ws0[j]? = ws0[j]? := fun _ _ => rfl
  have h35 := z35
  have h37 := z37
  have h38 := z38
  have h39 := z39
  have h42 := z42
  unfold FX9_mostly at hF
  refine lv_iload_n hx hb dX9_mostly_0 rfl (lv_at hl 2 rfl) ?_
  refine rd_i (runS (As := [.int p2]) (rest := []) X cq_X9_isRule lk_X9_164 (c_X9_isRule l D cI cJ cZ a ws0 p2 _ rfl ) rfl rfl ⟨Nat.le_of_ble_eq_true rfl, Nat.le_of_ble_eq_true rfl⟩ hP rfl hl.1 rfl (Nat.le_of_ble_eq_true rfl) dX9_mostly_1 ⟨Nat.le_of_ble_eq_true rfl, Nat.le_of_ble_eq_true rfl⟩) ?_
  refine zf_ne (tgt := 9) hx hb dX9_mostly_4 (by decide) (fun c1 => ?_) (fun c1 => ?_)
  · replace hF := (if_pos c1).symm.trans hF
    refine lv_iload_n hx hb dX9_mostly_9 rfl (lv_at hl 1 rfl) ?_
    refine rd_i (runS (As := [.int p1]) (rest := []) X cq_X9_isWait lk_X9_121 (c_X9_isWait l D cI cJ cZ a ws0 p1 _ rfl ) rfl rfl ⟨Nat.le_of_ble_eq_true rfl, Nat.le_of_ble_eq_true rfl⟩ hP rfl hl.1 rfl (Nat.le_of_ble_eq_true rfl) dX9_mostly_10 ⟨Nat.le_of_ble_eq_true rfl, Nat.le_of_ble_eq_true rfl⟩) ?_
    refine zf_ne (tgt := 19) hx hb dX9_mostly_13 (by decide) (fun c2 => ?_) (fun c2 => ?_)
    · replace hF := (if_pos c2).symm.trans hF
      refine lv_bipush (v := (-9 : Int32)) hx hb dX9_mostly_19 (by decide) ?_
      refine lv_istore_n (lv' := [(3, .int (-9 : Int32)), (0, .ref (a 35)), (1, .int p1), (2, .int p2)]) hx hb dX9_mostly_21 rfl hl (by decide) rfl (fun ls hl => ?_)
      refine lv_lconst (v := (0 : Int64)) hx hb dX9_mostly_22 (by decide) ?_
      refine lv_lstore (lv' := [(4, .long (0 : Int64)), (3, .int (-9 : Int32)), (0, .ref (a 35)), (1, .int p1), (2, .int p2)]) hx hb dX9_mostly_23 hl (by decide) rfl (fun ls hl => ?_)
      refine lv_iconst (v := (0 : Int32)) hx hb dX9_mostly_25 (by decide) ?_
      refine lv_istore (lv' := [(6, .int (0 : Int32)), (4, .long (0 : Int64)), (3, .int (-9 : Int32)), (0, .ref (a 35)), (1, .int p1), (2, .int p2)]) hx hb dX9_mostly_26 hl (by decide) rfl (fun ls hl => ?_)
      have hL28 : ∀ (nf : Nat) (x3 : Int32) (x4 : Int64) (x5 : Int32) (x6 : Nat → Int64) (r : Int32 × (Nat → Int64)), itr (fun v => FX9_mostly_S28 m_pupils m_mood m_pupil m_dares m_times p1 p2 v.1 v.2.1 v.2.2.1 v.2.2.2) nf (x3, x4, x5, x6) = some r → ∀ (wJ : va_W) (HJ : Heap) (lJ : List Loc), va_P D vwCl wJ HJ → va_D A wJ → va_S A s.heap HJ lJ → (∀ j : Nat, j ∉ [42] → wJ[j]? = ws0[j]?) → wJ[42]? = some (a 42, .inl (cJ, 13, .inr (.inl x6))) → ∀ ls, lv_has ls 9 [(6, .int x5), (4, .long x4), (3, .int x3), (0, .ref (a 35)), (1, .int p1), (2, .int p2)] → (∀ o : Int32 × (Nat → Int64), r = o → ∀ (wK : va_W) (HK : Heap) (lK : List Loc), va_P D vwCl wK HK → va_D A wK → va_S A s.heap HK lK → (∀ j : Nat, j ∉ [42] → wK[j]? = ws0[j]?) → wK[42]? = some (a 42, .inl (cJ, 13, .inr (.inl o.2))) → ∀ ls, lv_has ls 9 [(3, .int o.1)] → W p l e rm_X9_mostly s m args below meth c HK lK 0 0 Q (F0 m 85 ls [])) → W p l e rm_X9_mostly s m args below meth c HJ lJ 0 0 Q (F0 m 28 ls []) := by
        intro nf
        induction nf with
        | zero => intro _ _ _ _ r hF; exact (itr_0 hF).elim
        | succ nf ih =>
          intro x3 x4 x5 x6 r hF w H locs hP hD hS hs h42 ls hl hE
          obtain ⟨wo, hF, hw⟩ := itr_s hF
          replace hF : FX9_mostly_S28 m_pupils m_mood m_pupil m_dares m_times p1 p2 x3 x4 x5 x6 = some wo := hF
          have h35 := (hs 35 (by simp only [List.mem_cons, List.not_mem_nil, or_false, not_or]; omega)).trans z35
          have h37 := (hs 37 (by simp only [List.mem_cons, List.not_mem_nil, or_false, not_or]; omega)).trans z37
          have h38 := (hs 38 (by simp only [List.mem_cons, List.not_mem_nil, or_false, not_or]; omega)).trans z38
          have h39 := (hs 39 (by simp only [List.mem_cons, List.not_mem_nil, or_false, not_or]; omega)).trans z39
          have hJ61 : ∀ (x11 : Int64) (x12 : Int32) (x13 : Int64) (x14 : Int32) (x15 : Nat → Int64), ∀ (wJ : va_W) (HJ : Heap) (lJ : List Loc), va_P D vwCl wJ HJ → va_D A wJ → va_S A s.heap HJ lJ → (∀ j : Nat, j ∉ [42] → wJ[j]? = ws0[j]?) → wJ[42]? = some (a 42, .inl (cJ, 13, .inr (.inl x15))) → ∀ ls, lv_has ls 9 [(7, .long x11), (6, .int x12), (4, .long x13), (0, .ref (a 35)), (1, .int p1), (2, .int p2)] → FX9_mostly_J61L28 x11 x12 x13 x14 x15 = some wo → W p l e rm_X9_mostly s m args below meth c HJ lJ 0 0 Q (F0 m 61 ls [.int x14]) := by
            intro x11 x12 x13 x14 x15 w H locs hP hD hS hs h42 ls hl hF
            have h35 := (hs 35 (by simp only [List.mem_cons, List.not_mem_nil, or_false, not_or]; omega)).trans z35
            have h37 := (hs 37 (by simp only [List.mem_cons, List.not_mem_nil, or_false, not_or]; omega)).trans z37
            have h38 := (hs 38 (by simp only [List.mem_cons, List.not_mem_nil, or_false, not_or]; omega)).trans z38
            have h39 := (hs 39 (by simp only [List.mem_cons, List.not_mem_nil, or_false, not_or]; omega)).trans z39
            unfold FX9_mostly_J61L28 at hF
            refine lv_istore_n (lv' := [(3, .int x14), (7, .long x11), (6, .int x12), (4, .long x13), (0, .ref (a 35)), (1, .int p1), (2, .int p2)]) hx hb dX9_mostly_61 rfl hl (by decide) rfl (fun ls hl => ?_)
            refine lv_lload hx hb dX9_mostly_62 (lv_at hl 1 rfl) ?_
            refine lv_lload hx hb dX9_mostly_64 (lv_at hl 3 rfl) ?_
            refine W.lcmp hx hb dX9_mostly_66 ?_
            refine lv_if_le (tgt := 75) hx hb dX9_mostly_67 (by decide) (fun c16 => ?_) (fun c16 => ?_)
            · replace c16 := (lc_le x11 x13).mp c16
              replace hF := (if_pos c16).symm.trans hF
              refine lv_lload hx hb dX9_mostly_75 (lv_at hl 3 rfl) ?_
              refine lv_lstore (lv' := [(4, .long x13), (3, .int x14), (7, .long x11), (6, .int x12), (0, .ref (a 35)), (1, .int p1), (2, .int p2)]) hx hb dX9_mostly_77 hl (by decide) rfl (fun ls hl => ?_)
              refine lv_iinc (v := x12 + (1 : Int32)) (lv' := [(6, .int (x12 + (1 : Int32))), (4, .long x13), (3, .int x14), (7, .long x11), (0, .ref (a 35)), (1, .int p1), (2, .int p2)]) hx hb dX9_mostly_79 hl (k := 3) rfl rfl (by decide) rfl (fun ls hl => ?_)
              refine lv_goto (tgt := 28) hx hb dX9_mostly_82 (by decide) ?_
              obtain rfl := Option.some.inj hF
              exact ih _ _ _ _ _ hw _ _ _ hP hD hS hs h42 ls (lv_sub hl [0, 1, 2, 4, 5, 6] rfl) hE
            · replace c16 := fun q => c16 ((lc_le x11 x13).mpr q)
              replace hF := (if_neg c16).symm.trans hF
              refine lv_lload hx hb dX9_mostly_70 (lv_at hl 1 rfl) ?_
              refine lv_goto (tgt := 77) hx hb dX9_mostly_72 (by decide) ?_
              refine lv_lstore (lv' := [(4, .long x11), (3, .int x14), (7, .long x11), (6, .int x12), (0, .ref (a 35)), (1, .int p1), (2, .int p2)]) hx hb dX9_mostly_77 hl (by decide) rfl (fun ls hl => ?_)
              refine lv_iinc (v := x12 + (1 : Int32)) (lv' := [(6, .int (x12 + (1 : Int32))), (4, .long x11), (3, .int x14), (7, .long x11), (0, .ref (a 35)), (1, .int p1), (2, .int p2)]) hx hb dX9_mostly_79 hl (k := 3) rfl rfl (by decide) rfl (fun ls hl => ?_)
              refine lv_goto (tgt := 28) hx hb dX9_mostly_82 (by decide) ?_
              obtain rfl := Option.some.inj hF
              exact ih _ _ _ _ _ hw _ _ _ hP hD hS hs h42 ls (lv_sub hl [0, 1, 2, 4, 5, 6] rfl) hE
          unfold FX9_mostly_S28 at hF
          refine lv_iload hx hb dX9_mostly_28 (lv_at hl 0 rfl) ?_
          refine lv_aload_n hx hb dX9_mostly_30 rfl (lv_at hl 3 rfl) ?_
          refine gf_X9_97 hx hb hts hown hK hP h35 dX9_mostly_31 ?_
          refine lv_icmp_ge (tgt := 85) hx hb dX9_mostly_34 (by decide) (fun c7 => ?_) (fun c7 => ?_)
          · replace hF := (if_pos c7).symm.trans hF
            obtain rfl := Option.some.inj hF
            obtain rfl := hw
            exact hE _ rfl _ _ _ hP hD hS hs h42 ls (lv_sub hl [2] rfl)
          · replace hF := (if_neg c7).symm.trans hF
            refine lv_aload_n hx hb dX9_mostly_37 rfl (lv_at hl 3 rfl) ?_
            refine lv_iload hx hb dX9_mostly_38 (lv_at hl 0 rfl) ?_
            refine lv_iload_n hx hb dX9_mostly_40 rfl (lv_at hl 4 rfl) ?_
            refine lv_iload_n hx hb dX9_mostly_41 rfl (lv_at hl 5 rfl) ?_
            obtain ⟨u8, hu8, hF⟩ := bd_some hF
            refine wr_l (runV (As := [.int x5, .int p1, .int p2]) (rest := []) X cq_X9_takenOf lk_X9_169 (c_X9_takenOf l D cI cJ cZ a w A m_readMany m_pupils m_mood m_length m_at m_faultAt m_drawn m_questions m_rights m_wrongs m_tapes m_trials x6 m_pupil m_dares m_times x5 p1 p2 u8 hu8 h35 h37 h38 h39 h42 hD) rfl rfl ⟨Nat.le_of_ble_eq_true rfl, Nat.le_of_ble_eq_true rfl⟩ hP h35 rfl rfl hl.1 rfl (Nat.le_of_ble_eq_true rfl) dX9_mostly_42 ⟨Nat.le_of_ble_eq_true rfl, Nat.le_of_ble_eq_true rfl⟩) hS (fun w9 H locs hP hD hk hB hS => ?_)
            have h42 : w9[42]? = some (a 42, .inl (cJ, 13, .inr (.inl u8.2))) := hB
            have h35 := (hk 35 (by simp only [List.mem_cons, List.not_mem_nil, or_false, not_or]; omega)).trans h35
            have h37 := (hk 37 (by simp only [List.mem_cons, List.not_mem_nil, or_false, not_or]; omega)).trans h37
            have h38 := (hk 38 (by simp only [List.mem_cons, List.not_mem_nil, or_false, not_or]; omega)).trans h38
            have h39 := (hk 39 (by simp only [List.mem_cons, List.not_mem_nil, or_false, not_or]; omega)).trans h39
            replace hs := st_tr hk (fun j hj => by simp only [List.mem_cons, List.not_mem_nil, or_false] at hj ⊢; omega) hs
            refine lv_lstore (lv' := [(7, .long u8.1), (6, .int x5), (4, .long x4), (3, .int x3), (0, .ref (a 35)), (1, .int p1), (2, .int p2)]) hx hb dX9_mostly_45 hl (by decide) rfl (fun ls hl => ?_)
            refine lv_lload hx hb dX9_mostly_47 (lv_at hl 0 rfl) ?_
            refine lv_lload hx hb dX9_mostly_49 (lv_at hl 2 rfl) ?_
            refine W.lcmp hx hb dX9_mostly_51 ?_
            refine lv_if_le (tgt := 60) hx hb dX9_mostly_52 (by decide) (fun c10 => ?_) (fun c10 => ?_)
            · replace c10 := (lc_le u8.1 x4).mp c10
              replace hF := (if_pos c10).symm.trans hF
              refine lv_iload_n hx hb dX9_mostly_60 rfl (lv_at hl 3 rfl) ?_
              exact hJ61 u8.1 x5 x4 x3 u8.2 _ _ _ hP hD hS hs h42 ls (lv_sub hl [0, 1, 2, 4, 5, 6] rfl) hF
            · replace c10 := fun q => c10 ((lc_le u8.1 x4).mpr q)
              replace hF := (if_neg c10).symm.trans hF
              refine lv_iload hx hb dX9_mostly_55 (lv_at hl 1 rfl) ?_
              refine lv_goto (tgt := 61) hx hb dX9_mostly_57 (by decide) ?_
              exact hJ61 u8.1 x5 x4 x5 u8.2 _ _ _ hP hD hS hs h42 ls (lv_sub hl [0, 1, 2, 4, 5, 6] rfl) hF
      obtain ⟨o17, ho17, hF⟩ := bd_some hF
      refine hL28 fu (-9 : Int32) (0 : Int64) (0 : Int32) m_others o17 ho17 _ _ _ hP hD hS hs h42 ls (lv_sub hl [0, 1, 2, 3, 4, 5] rfl) ?_
      intro _ q_o17 w H locs hP hD hS hs h42 ls hl
      subst q_o17
      have h35 := (hs 35 (by simp only [List.mem_cons, List.not_mem_nil, or_false, not_or]; omega)).trans z35
      have h37 := (hs 37 (by simp only [List.mem_cons, List.not_mem_nil, or_false, not_or]; omega)).trans z37
      have h38 := (hs 38 (by simp only [List.mem_cons, List.not_mem_nil, or_false, not_or]; omega)).trans z38
      have h39 := (hs 39 (by simp only [List.mem_cons, List.not_mem_nil, or_false, not_or]; omega)).trans z39
      refine lv_iload_n hx hb dX9_mostly_85 rfl (lv_at hl 0 rfl) ?_
      obtain rfl := Option.some.inj hF
      rw [hQ]
      exact rw_i X hS hP hD hs h42 dX9_mostly_86
    · replace hF := (if_neg c2).symm.trans hF
      refine lv_bipush (v := (-2 : Int32)) hx hb dX9_mostly_16 (by decide) ?_
      obtain rfl := Option.some.inj hF
      rw [hQ]
      exact rw_i X hS hP hD hs h42 dX9_mostly_18
  · replace hF := (if_neg c1).symm.trans hF
    refine lv_iconst (v := (-1 : Int32)) hx hb dX9_mostly_7 (by decide) ?_
    obtain rfl := Option.some.inj hF
    rw [hQ]
    exact rw_i X hS hP hD hs h42 dX9_mostly_8
def FX9_await_S32 (m_pupils : Int32) (m_mood : Int32) (m_pupil : Nat → Int32) (m_dares : Nat → Int32) (p1 : Int32) (p2 : Int32) (x3 : Int32) (x4 : Int32) : Option ((Int32 × Int32) ⊕ (Int32)) :=
  if (10 : Int32) ≤ x4 then (some (.inr x3)) else ((FX9_meanOf m_pupils m_mood m_pupil m_dares x4).bind fun x6 => (FX9_meanOf m_pupils m_mood m_pupil m_dares x3).bind fun x7 => if ((p1 * x6) - (((10 : Int32) * p2) * x4)) ≤ ((p1 * x7) - (((10 : Int32) * p2) * x3)) then (some (.inl (x3, x4 + (1 : Int32)))) else (some (.inl (x4, x4 + (1 : Int32)))))
def FX9_await (m_pupils : Int32) (m_mood : Int32) (m_pupil : Nat → Int32) (m_dares : Nat → Int32) (p1 : Int32) (p2 : Int32) : Option (Int32) :=
  if (FX9_in p1.toInt64 (0 : Int64) (99 : Int64)) = true then (if (FX9_in p2.toInt64 (0 : Int64) (99 : Int64)) = true then ((itr (fun v => FX9_await_S32 m_pupils m_mood m_pupil m_dares p1 p2 v.1 v.2) fu ((0 : Int32), (1 : Int32))).bind fun o9 => some o9) else (some (-2 : Int32))) else (some (-2 : Int32))
def rm_X9_await : Room := { frames := 2, cells := 0, slots := 0, locals := 47 }
set_option maxHeartbeats 4000000 in
set_option maxRecDepth 100000 in
theorem c_X9_await (l : Launch) (D : va_G) (cI cJ cZ : ClassId) (a : Nat → Nat) (ws0 : va_W)  (m_readMany : Int32) (m_pupils : Int32) (m_mood : Int32) (m_length : Int32) (m_at : Int32) (m_faultAt : Int32) (m_drawn : Int64) (m_questions : Int32) (m_rights : Int32) (m_wrongs : Int32) (m_tapes : Int32) (m_trials : Int32) (m_pupil : Nat → Int32) (m_dares : Nat → Int32) (p1 : Int32) (p2 : Int32) (u : Int32) (hF : FX9_await m_pupils m_mood m_pupil m_dares p1 p2 = some u) (h35 : ws0[35]? = some (a 35, .inr (9, [.ref (a 36), .int m_readMany, .ref (a 37), .int m_pupils, .ref (a 38), .ref (a 39), .int m_mood, .ref (a 40), .int m_length, .int m_at, .int m_faultAt, .ref (a 41), .ref (a 42), .long m_drawn, .int m_questions, .int m_rights, .int m_wrongs, .int m_tapes, .ref (a 43), .ref (a 44), .int m_trials, .ref (a 45), .ref (a 46), .ref (a 47), .ref (a 48), .ref (a 49), .ref (a 50), .ref (a 51)]))) (h37 : ws0[37]? = some (a 37, .inl (cI, 72, .inl m_pupil))) (h38 : ws0[38]? = some (a 38, .inl (cI, 12, .inl m_dares))) : Met l yX9_await (wq yX9_await cX9_await 5 (some .int)) rm_X9_await (Pq [.ref (a 35), .int p1, .int p2] D cI cJ cZ ws0) (Qq (some (.int u))) 0 0 (fun _ => False) := by
  refine mq_of (by decide) (Nat.le_of_ble_eq_true rfl) (fun p e s m args below meth c ls Q hQ X _ hP hl => ?_)
  obtain ⟨hx, hb, hr, hml, hown, hts, hlk, hK, hN⟩ := id X
  have hown : s.vm.findClass RX9 = some m.cls := hown
  have hl : lv_has ls 5 [(0, .ref (a 35)), (1, .int p1), (2, .int p2)] := hl
  unfold FX9_await at hF
  refine lv_iload_n hx hb dX9_await_0 rfl (lv_at hl 1 rfl) ?_
  refine lv_i2l hx hb dX9_await_1 rfl ?_
  refine lv_lconst (v := (0 : Int64)) hx hb dX9_await_2 (by decide) ?_
  refine lv_ldc2 (v := (99 : Int64)) hx hb hown (hts _ kl_X9_173) dX9_await_3 ?_
  refine rd_i (runS (As := [.long p1.toInt64, .long (0 : Int64), .long (99 : Int64)]) (rest := []) X cq_X9_in lk_X9_66 (c_X9_in l D cI cJ cZ a ws0 p1.toInt64 (0 : Int64) (99 : Int64) _ rfl ) rfl rfl ⟨Nat.le_of_ble_eq_true rfl, Nat.le_of_ble_eq_true rfl⟩ hP rfl hl.1 rfl (Nat.le_of_ble_eq_true rfl) dX9_await_6 ⟨Nat.le_of_ble_eq_true rfl, Nat.le_of_ble_eq_true rfl⟩) ?_
  refine zf_eq (tgt := 24) hx hb dX9_await_9 (by decide) (fun c1 => ?_) (fun c1 => ?_)
  · replace hF := (if_neg c1).symm.trans hF
    refine lv_bipush (v := (-2 : Int32)) hx hb dX9_await_24 (by decide) ?_
    obtain rfl := Option.some.inj hF
    rw [hQ]
    exact rt_i X dX9_await_26
  · replace hF := (if_pos c1).symm.trans hF
    refine lv_iload_n hx hb dX9_await_12 rfl (lv_at hl 2 rfl) ?_
    refine lv_i2l hx hb dX9_await_13 rfl ?_
    refine lv_lconst (v := (0 : Int64)) hx hb dX9_await_14 (by decide) ?_
    refine lv_ldc2 (v := (99 : Int64)) hx hb hown (hts _ kl_X9_173) dX9_await_15 ?_
    refine rd_i (runS (As := [.long p2.toInt64, .long (0 : Int64), .long (99 : Int64)]) (rest := []) X cq_X9_in lk_X9_66 (c_X9_in l D cI cJ cZ a ws0 p2.toInt64 (0 : Int64) (99 : Int64) _ rfl ) rfl rfl ⟨Nat.le_of_ble_eq_true rfl, Nat.le_of_ble_eq_true rfl⟩ hP rfl hl.1 rfl (Nat.le_of_ble_eq_true rfl) dX9_await_18 ⟨Nat.le_of_ble_eq_true rfl, Nat.le_of_ble_eq_true rfl⟩) ?_
    refine zf_ne (tgt := 27) hx hb dX9_await_21 (by decide) (fun c2 => ?_) (fun c2 => ?_)
    · replace hF := (if_pos c2).symm.trans hF
      refine lv_iconst (v := (0 : Int32)) hx hb dX9_await_27 (by decide) ?_
      refine lv_istore_n (lv' := [(3, .int (0 : Int32)), (0, .ref (a 35)), (1, .int p1), (2, .int p2)]) hx hb dX9_await_28 rfl hl (by decide) rfl (fun ls hl => ?_)
      refine lv_iconst (v := (1 : Int32)) hx hb dX9_await_29 (by decide) ?_
      refine lv_istore (lv' := [(4, .int (1 : Int32)), (3, .int (0 : Int32)), (0, .ref (a 35)), (1, .int p1), (2, .int p2)]) hx hb dX9_await_30 hl (by decide) rfl (fun ls hl => ?_)
      have hL32 : ∀ (nf : Nat) (x3 : Int32) (x4 : Int32) (r : Int32), itr (fun v => FX9_await_S32 m_pupils m_mood m_pupil m_dares p1 p2 v.1 v.2) nf (x3, x4) = some r → ∀ ls, lv_has ls 5 [(4, .int x4), (3, .int x3), (0, .ref (a 35)), (1, .int p1), (2, .int p2)] → (∀ o : Int32, r = o → ∀ ls, lv_has ls 5 [(3, .int o)] → W p l e rm_X9_await s m args below meth c s.heap [] 0 0 Q (F0 m 85 ls [])) → W p l e rm_X9_await s m args below meth c s.heap [] 0 0 Q (F0 m 32 ls []) := by
        intro nf
        induction nf with
        | zero => intro _ _ r hF; exact (itr_0 hF).elim
        | succ nf ih =>
          intro x3 x4 r hF ls hl hE
          obtain ⟨wo, hF, hw⟩ := itr_s hF
          replace hF : FX9_await_S32 m_pupils m_mood m_pupil m_dares p1 p2 x3 x4 = some wo := hF
          unfold FX9_await_S32 at hF
          refine lv_iload hx hb dX9_await_32 (lv_at hl 0 rfl) ?_
          refine lv_bipush (v := (10 : Int32)) hx hb dX9_await_34 (by decide) ?_
          refine lv_icmp_ge (tgt := 85) hx hb dX9_await_36 (by decide) (fun c5 => ?_) (fun c5 => ?_)
          · replace hF := (if_pos c5).symm.trans hF
            obtain rfl := Option.some.inj hF
            obtain rfl := hw
            exact hE _ rfl ls (lv_sub hl [1] rfl)
          · replace hF := (if_neg c5).symm.trans hF
            refine lv_iload_n hx hb dX9_await_39 rfl (lv_at hl 3 rfl) ?_
            refine lv_aload_n hx hb dX9_await_40 rfl (lv_at hl 2 rfl) ?_
            refine lv_iload hx hb dX9_await_41 (lv_at hl 0 rfl) ?_
            obtain ⟨x6, hx6, hF⟩ := bd_some hF
            refine rd_i (runV (As := [.int x4]) (rest := [.int p1]) X cq_X9_meanOf lk_X9_128 (c_X9_meanOf l D cI cJ cZ a ws0 m_readMany m_pupils m_mood m_length m_at m_faultAt m_drawn m_questions m_rights m_wrongs m_tapes m_trials m_pupil m_dares x4 x6 hx6 h35 h37 h38) rfl rfl ⟨Nat.le_of_ble_eq_true rfl, Nat.le_of_ble_eq_true rfl⟩ hP h35 rfl rfl hl.1 rfl (Nat.le_of_ble_eq_true rfl) dX9_await_43 ⟨Nat.le_of_ble_eq_true rfl, Nat.le_of_ble_eq_true rfl⟩) ?_
            refine lv_imul hx hb dX9_await_46 ?_
            refine lv_bipush (v := (10 : Int32)) hx hb dX9_await_47 (by decide) ?_
            refine lv_iload_n hx hb dX9_await_49 rfl (lv_at hl 4 rfl) ?_
            refine lv_imul hx hb dX9_await_50 ?_
            refine lv_iload hx hb dX9_await_51 (lv_at hl 0 rfl) ?_
            refine lv_imul hx hb dX9_await_53 ?_
            refine lv_isub hx hb dX9_await_54 ?_
            refine lv_iload_n hx hb dX9_await_55 rfl (lv_at hl 3 rfl) ?_
            refine lv_aload_n hx hb dX9_await_56 rfl (lv_at hl 2 rfl) ?_
            refine lv_iload_n hx hb dX9_await_57 rfl (lv_at hl 1 rfl) ?_
            obtain ⟨x7, hx7, hF⟩ := bd_some hF
            refine rd_i (runV (As := [.int x3]) (rest := [.int p1, .int ((p1 * x6) - (((10 : Int32) * p2) * x4))]) X cq_X9_meanOf lk_X9_128 (c_X9_meanOf l D cI cJ cZ a ws0 m_readMany m_pupils m_mood m_length m_at m_faultAt m_drawn m_questions m_rights m_wrongs m_tapes m_trials m_pupil m_dares x3 x7 hx7 h35 h37 h38) rfl rfl ⟨Nat.le_of_ble_eq_true rfl, Nat.le_of_ble_eq_true rfl⟩ hP h35 rfl rfl hl.1 rfl (Nat.le_of_ble_eq_true rfl) dX9_await_58 ⟨Nat.le_of_ble_eq_true rfl, Nat.le_of_ble_eq_true rfl⟩) ?_
            refine lv_imul hx hb dX9_await_61 ?_
            refine lv_bipush (v := (10 : Int32)) hx hb dX9_await_62 (by decide) ?_
            refine lv_iload_n hx hb dX9_await_64 rfl (lv_at hl 4 rfl) ?_
            refine lv_imul hx hb dX9_await_65 ?_
            refine lv_iload_n hx hb dX9_await_66 rfl (lv_at hl 1 rfl) ?_
            refine lv_imul hx hb dX9_await_67 ?_
            refine lv_isub hx hb dX9_await_68 ?_
            refine lv_icmp_le (tgt := 77) hx hb dX9_await_69 (by decide) (fun c8 => ?_) (fun c8 => ?_)
            · replace hF := (if_pos c8).symm.trans hF
              refine lv_iload_n hx hb dX9_await_77 rfl (lv_at hl 1 rfl) ?_
              refine lv_istore_n (lv' := [(3, .int x3), (4, .int x4), (0, .ref (a 35)), (1, .int p1), (2, .int p2)]) hx hb dX9_await_78 rfl hl (by decide) rfl (fun ls hl => ?_)
              refine lv_iinc (v := x4 + (1 : Int32)) (lv' := [(4, .int (x4 + (1 : Int32))), (3, .int x3), (0, .ref (a 35)), (1, .int p1), (2, .int p2)]) hx hb dX9_await_79 hl (k := 1) rfl rfl (by decide) rfl (fun ls hl => ?_)
              refine lv_goto (tgt := 32) hx hb dX9_await_82 (by decide) ?_
              obtain rfl := Option.some.inj hF
              exact ih _ _ _ hw ls (lv_sub hl [0, 1, 2, 3, 4] rfl) hE
            · replace hF := (if_neg c8).symm.trans hF
              refine lv_iload hx hb dX9_await_72 (lv_at hl 0 rfl) ?_
              refine lv_goto (tgt := 78) hx hb dX9_await_74 (by decide) ?_
              refine lv_istore_n (lv' := [(3, .int x4), (4, .int x4), (0, .ref (a 35)), (1, .int p1), (2, .int p2)]) hx hb dX9_await_78 rfl hl (by decide) rfl (fun ls hl => ?_)
              refine lv_iinc (v := x4 + (1 : Int32)) (lv' := [(4, .int (x4 + (1 : Int32))), (3, .int x4), (0, .ref (a 35)), (1, .int p1), (2, .int p2)]) hx hb dX9_await_79 hl (k := 1) rfl rfl (by decide) rfl (fun ls hl => ?_)
              refine lv_goto (tgt := 32) hx hb dX9_await_82 (by decide) ?_
              obtain rfl := Option.some.inj hF
              exact ih _ _ _ hw ls (lv_sub hl [0, 1, 2, 3, 4] rfl) hE
      obtain ⟨o9, ho9, hF⟩ := bd_some hF
      refine hL32 fu (0 : Int32) (1 : Int32) o9 ho9 ls (lv_sub hl [0, 1, 2, 3, 4] rfl) ?_
      intro _ q_o9 ls hl
      subst q_o9
      refine lv_iload_n hx hb dX9_await_85 rfl (lv_at hl 0 rfl) ?_
      obtain rfl := Option.some.inj hF
      rw [hQ]
      exact rt_i X dX9_await_86
    · replace hF := (if_neg c2).symm.trans hF
      refine lv_bipush (v := (-2 : Int32)) hx hb dX9_await_24 (by decide) ?_
      obtain rfl := Option.some.inj hF
      rw [hQ]
      exact rt_i X dX9_await_26
def FX9_isKnown (m_pupils : Int32) (p1 : Int32) : Bool :=
  FX9_in p1.toInt64 (0 : Int64) ((((1 : Int32) <<< (m_pupils &&& 31)) - (1 : Int32)).toInt64)
def rm_X9_isKnown : Room := { frames := 1, cells := 0, slots := 0, locals := 25 }
set_option maxHeartbeats 4000000 in
set_option maxRecDepth 100000 in
theorem c_X9_isKnown (l : Launch) (D : va_G) (cI cJ cZ : ClassId) (a : Nat → Nat) (ws0 : va_W)  (m_readMany : Int32) (m_pupils : Int32) (m_mood : Int32) (m_length : Int32) (m_at : Int32) (m_faultAt : Int32) (m_drawn : Int64) (m_questions : Int32) (m_rights : Int32) (m_wrongs : Int32) (m_tapes : Int32) (m_trials : Int32) (p1 : Int32) (u : Bool) (hF : FX9_isKnown m_pupils p1 = u) (h35 : ws0[35]? = some (a 35, .inr (9, [.ref (a 36), .int m_readMany, .ref (a 37), .int m_pupils, .ref (a 38), .ref (a 39), .int m_mood, .ref (a 40), .int m_length, .int m_at, .int m_faultAt, .ref (a 41), .ref (a 42), .long m_drawn, .int m_questions, .int m_rights, .int m_wrongs, .int m_tapes, .ref (a 43), .ref (a 44), .int m_trials, .ref (a 45), .ref (a 46), .ref (a 47), .ref (a 48), .ref (a 49), .ref (a 50), .ref (a 51)]))) : Met l yX9_isKnown (wq yX9_isKnown cX9_isKnown 2 (some .boolean)) rm_X9_isKnown (Pq [.ref (a 35), .int p1] D cI cJ cZ ws0) (Qq (some (.int (bi u)))) 0 0 (fun _ => False) := by
  refine mq_of (by decide) (Nat.le_of_ble_eq_true rfl) (fun p e s m args below meth c ls Q hQ X _ hP hl => ?_)
  obtain ⟨hx, hb, hr, hml, hown, hts, hlk, hK, hN⟩ := id X
  have hown : s.vm.findClass RX9 = some m.cls := hown
  have hl : lv_has ls 2 [(0, .ref (a 35)), (1, .int p1)] := hl
  unfold FX9_isKnown at hF
  refine lv_iload_n hx hb dX9_isKnown_0 rfl (lv_at hl 1 rfl) ?_
  refine lv_i2l hx hb dX9_isKnown_1 rfl ?_
  refine lv_lconst (v := (0 : Int64)) hx hb dX9_isKnown_2 (by decide) ?_
  refine lv_iconst (v := (1 : Int32)) hx hb dX9_isKnown_3 (by decide) ?_
  refine lv_aload_n hx hb dX9_isKnown_4 rfl (lv_at hl 0 rfl) ?_
  refine gf_X9_97 hx hb hts hown hK hP h35 dX9_isKnown_5 ?_
  refine lv_ishl hx hb dX9_isKnown_8 ?_
  refine lv_iconst (v := (1 : Int32)) hx hb dX9_isKnown_9 (by decide) ?_
  refine lv_isub hx hb dX9_isKnown_10 ?_
  refine lv_i2l hx hb dX9_isKnown_11 rfl ?_
  refine rd_i (runS (As := [.long p1.toInt64, .long (0 : Int64), .long ((((1 : Int32) <<< (m_pupils &&& 31)) - (1 : Int32)).toInt64)]) (rest := []) X cq_X9_in lk_X9_66 (c_X9_in l D cI cJ cZ a ws0 p1.toInt64 (0 : Int64) ((((1 : Int32) <<< (m_pupils &&& 31)) - (1 : Int32)).toInt64) _ rfl ) rfl rfl ⟨Nat.le_of_ble_eq_true rfl, Nat.le_of_ble_eq_true rfl⟩ hP rfl hl.1 rfl (Nat.le_of_ble_eq_true rfl) dX9_isKnown_12 ⟨Nat.le_of_ble_eq_true rfl, Nat.le_of_ble_eq_true rfl⟩) ?_
  subst hF
  rw [hQ]
  exact rt_z (b := FX9_in p1.toInt64 (0 : Int64) ((((1 : Int32) <<< (m_pupils &&& 31)) - (1 : Int32)).toInt64)) X dX9_isKnown_15
