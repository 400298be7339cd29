def FX9_again_S26 (m_keptDares : Nat → Int32) (m_keptTimes : Nat → Int32) (p1 : Int32) (x4 : Int32) (x5 : Nat → Int32) (x6 : Nat → Int32) : Option ((Int32 × (Nat → Int32) × (Nat → Int32)) ⊕ ((Nat → Int32) × (Nat → Int32))) :=
  if (12 : Int32) ≤ x4 then (some (.inr (x5, x6))) else (if (((12 : Int32) * p1) + x4) < 0 ∨ 24 ≤ (((12 : Int32) * p1) + x4).toNatClampNeg then none else if x4 < 0 ∨ 12 ≤ x4.toNatClampNeg then none else if (((12 : Int32) * p1) + x4) < 0 ∨ 24 ≤ (((12 : Int32) * p1) + x4).toNatClampNeg then none else if x4 < 0 ∨ 12 ≤ x4.toNatClampNeg then none else some (.inl (x4 + (1 : Int32), upd x5 x4.toNatClampNeg (m_keptDares (((12 : Int32) * p1) + x4).toNatClampNeg), upd x6 x4.toNatClampNeg (m_keptTimes (((12 : Int32) * p1) + x4).toNatClampNeg))))
def FX9_again (m_drawn : Int64) (m_questions : Int32) (m_rights : Int32) (m_wrongs : Int32) (m_isKept : Nat → Int32) (m_keptDares : Nat → Int32) (m_dares : Nat → Int32) (m_keptTimes : Nat → Int32) (m_times : Nat → Int32) (m_keptDrawn : Nat → Int64) (m_keptLesson : Nat → Int32) (p1 : Int32) : Option (Int32 × (Nat → Int32) × (Nat → Int32) × Int64 × Int32 × Int32 × Int32) :=
  if (FX9_in p1.toInt64 (0 : Int64) (1 : Int64)) = true then (if p1 < 0 ∨ 2 ≤ p1.toNatClampNeg then none else if (m_isKept p1.toNatClampNeg) = 0 then (some ((-3 : Int32), m_dares, m_times, m_drawn, m_questions, m_rights, m_wrongs)) else ((itr (fun v => FX9_again_S26 m_keptDares m_keptTimes p1 v.1 v.2.1 v.2.2) fu ((0 : Int32), m_dares, m_times)).bind fun o14 => if p1 < 0 ∨ 2 ≤ p1.toNatClampNeg then none else if ((3 : Int32) * p1) < 0 ∨ 6 ≤ ((3 : Int32) * p1).toNatClampNeg then none else if (((3 : Int32) * p1) + (1 : Int32)) < 0 ∨ 6 ≤ (((3 : Int32) * p1) + (1 : Int32)).toNatClampNeg then none else if (((3 : Int32) * p1) + (2 : Int32)) < 0 ∨ 6 ≤ (((3 : Int32) * p1) + (2 : Int32)).toNatClampNeg then none else some (m_keptLesson ((3 : Int32) * p1).toNatClampNeg, o14.1, o14.2, m_keptDrawn p1.toNatClampNeg, m_keptLesson ((3 : Int32) * p1).toNatClampNeg, m_keptLesson (((3 : Int32) * p1) + (1 : Int32)).toNatClampNeg, m_keptLesson (((3 : Int32) * p1) + (2 : Int32)).toNatClampNeg))) else (some ((-1 : Int32), m_dares, m_times, m_drawn, m_questions, m_rights, m_wrongs))
def rm_X9_again : Room := { frames := 1, cells := 0, slots := 0, locals := 25 }
set_option maxHeartbeats 4000000 in
set_option maxRecDepth 100000 in
theorem c_X9_again (l : Launch) (D : va_G) (cI cJ cZ : ClassId) (a : Nat → Nat) (ws0 : va_W) (A : Nat → Prop)  (m_readMany : Int32) (m_pupils : Int32) (m_mood : Int32) (m_length : Int32) (m_at : Int32) (m_faultAt : Int32) (m_drawn : Int64) (m_questions : Int32) (m_rights : Int32) (m_wrongs : Int32) (m_tapes : Int32) (m_trials : Int32) (m_isKept : Nat → Int32) (m_keptDares : Nat → Int32) (m_dares : Nat → Int32) (m_keptTimes : Nat → Int32) (m_times : Nat → Int32) (m_keptDrawn : Nat → Int64) (m_keptLesson : Nat → Int32) (p1 : Int32) (u : Int32 × (Nat → Int32) × (Nat → Int32) × Int64 × Int32 × Int32 × Int32) (hF : FX9_again m_drawn m_questions m_rights m_wrongs m_isKept m_keptDares m_dares m_keptTimes m_times m_keptDrawn m_keptLesson p1 = some u) (z35 : ws0[35]? = some (a 35, .inr (9, [.ref (a 36), .int m_readMany, .ref (a 37), .int m_pupils, .ref (a 38), .ref (a 39), .int m_mood, .ref (a 40), .int m_length, .int m_at, .int m_faultAt, .ref (a 41), .ref (a 42), .long m_drawn, .int m_questions, .int m_rights, .int m_wrongs, .int m_tapes, .ref (a 43), .ref (a 44), .int m_trials, .ref (a 45), .ref (a 46), .ref (a 47), .ref (a 48), .ref (a 49), .ref (a 50), .ref (a 51)]))) (z38 : ws0[38]? = some (a 38, .inl (cI, 12, .inl m_dares))) (z39 : ws0[39]? = some (a 39, .inl (cI, 12, .inl m_times))) (z47 : ws0[47]? = some (a 47, .inl (cZ, 2, .inl m_isKept))) (z48 : ws0[48]? = some (a 48, .inl (cI, 24, .inl m_keptDares))) (z49 : ws0[49]? = some (a 49, .inl (cI, 24, .inl m_keptTimes))) (z50 : ws0[50]? = some (a 50, .inl (cJ, 2, .inr (.inl m_keptDrawn)))) (z51 : ws0[51]? = some (a 51, .inl (cI, 6, .inl m_keptLesson))) (hD : va_D A ws0) : Met l yX9_again (wq yX9_again cX9_again 3 (some .int)) rm_X9_again (Pq [.ref (a 35), .int p1] D cI cJ cZ ws0) (Qw D A ws0 [38, 39, 35] (some (.int u.1)) (fun w => w[38]? = some (a 38, .inl (cI, 12, .inl u.2.1)) ∧ w[39]? = some (a 39, .inl (cI, 12, .inl u.2.2.1)) ∧ w[35]? = some (a 35, .inr (9, [.ref (a 36), .int m_readMany, .ref (a 37), .int m_pupils, .ref (a 38), .ref (a 39), .int m_mood, .ref (a 40), .int m_length, .int m_at, .int m_faultAt, .ref (a 41), .ref (a 42), .long u.2.2.2.1, .int u.2.2.2.2.1, .int u.2.2.2.2.2.1, .int u.2.2.2.2.2.2, .int m_tapes, .ref (a 43), .ref (a 44), .int m_trials, .ref (a 45), .ref (a 46), .ref (a 47), .ref (a 48), .ref (a 49), .ref (a 50), .ref (a 51)])))) 0 0 A := by
  refine mq_of (by decide) (Nat.le_of_ble_eq_true rfl) (fun p e s m args below meth c ls Q hQ X _ hP hl => ?_)
  obtain ⟨hx, hb, hr, hml, hown, hts, hlk, hK, hN⟩ := id X
  have hown : s.vm.findClass RX9 = some m.cls := hown
  have hl : lv_has ls 3 [(0, .ref (a 35)), (1, .int p1)] := hl
  have hS : va_S A s.heap s.heap [] := va_S.rf
  have hs : ∀ j : Nat, j ∉ [38, 39, 35] → ws0[j]? = ws0[j]? := fun _ _ => rfl
  have h35 := z35
  have h38 := z38
  have h39 := z39
  have h47 := z47
  have h48 := z48
  have h49 := z49
  have h50 := z50
  have h51 := z51
  unfold FX9_again at hF
  refine lv_iload_n hx hb dX9_again_0 rfl (lv_at hl 1 rfl) ?_
  refine lv_i2l hx hb dX9_again_1 rfl ?_
  refine lv_lconst (v := (0 : Int64)) hx hb dX9_again_2 (by decide) ?_
  refine lv_lconst (v := (1 : Int64)) hx hb dX9_again_3 (by decide) ?_
  refine rd_i (runS (As := [.long p1.toInt64, .long (0 : Int64), .long (1 : Int64)]) (rest := []) X cq_X9_in lk_X9_66 (c_X9_in l D cI cJ cZ a ws0 p1.toInt64 (0 : Int64) (1 : Int64) _ rfl ) rfl rfl ⟨Nat.le_of_ble_eq_true rfl, Nat.le_of_ble_eq_true rfl⟩ hP rfl hl.1 rfl (Nat.le_of_ble_eq_true rfl) dX9_again_4 ⟨Nat.le_of_ble_eq_true rfl, Nat.le_of_ble_eq_true rfl⟩) ?_
  refine zf_ne (tgt := 12) hx hb dX9_again_7 (by decide) (fun c1 => ?_) (fun c1 => ?_)
  · replace hF := (if_pos c1).symm.trans hF
    refine lv_aload_n hx hb dX9_again_12 rfl (lv_at hl 0 rfl) ?_
    refine gf_X9_45 hx hb hts hown hK hP h35 dX9_again_13 ?_
    refine lv_iload_n hx hb dX9_again_16 rfl (lv_at hl 1 rfl) ?_
    obtain ⟨hg2, hF⟩ := gd_some hF
    refine va_zald hx hb hK hP 47 2 h47 rfl hg2 dX9_again_17 ?_
    refine lv_if_ne (tgt := 24) hx hb dX9_again_18 (by decide) (fun c3 => ?_) (fun c3 => ?_)
    · replace hF := (if_neg c3).symm.trans hF
      refine lv_iconst (v := (0 : Int32)) hx hb dX9_again_24 (by decide) ?_
      refine lv_istore_n (lv' := [(2, .int (0 : Int32)), (0, .ref (a 35)), (1, .int p1)]) hx hb dX9_again_25 rfl hl (by decide) rfl (fun ls hl => ?_)
      have hL26 : ∀ (nf : Nat) (x4 : Int32) (x5 : Nat → Int32) (x6 : Nat → Int32) (r : (Nat → Int32) × (Nat → Int32)), itr (fun v => FX9_again_S26 m_keptDares m_keptTimes p1 v.1 v.2.1 v.2.2) nf (x4, x5, x6) = some r → ∀ (wJ : va_W) (HJ : Heap) (lJ : List Loc), va_P D vwCl wJ HJ → va_D A wJ → va_S A s.heap HJ lJ → (∀ j : Nat, j ∉ [38, 39, 35] → wJ[j]? = ws0[j]?) → wJ[38]? = some (a 38, .inl (cI, 12, .inl x5)) → wJ[39]? = some (a 39, .inl (cI, 12, .inl x6)) → wJ[35]? = some (a 35, .inr (9, [.ref (a 36), .int m_readMany, .ref (a 37), .int m_pupils, .ref (a 38), .ref (a 39), .int m_mood, .ref (a 40), .int m_length, .int m_at, .int m_faultAt, .ref (a 41), .ref (a 42), .long m_drawn, .int m_questions, .int m_rights, .int m_wrongs, .int m_tapes, .ref (a 43), .ref (a 44), .int m_trials, .ref (a 45), .ref (a 46), .ref (a 47), .ref (a 48), .ref (a 49), .ref (a 50), .ref (a 51)])) → ∀ ls, lv_has ls 3 [(2, .int x4), (0, .ref (a 35)), (1, .int p1)] → (∀ o : (Nat → Int32) × (Nat → Int32), r = o → ∀ (wK : va_W) (HK : Heap) (lK : List Loc), va_P D vwCl wK HK → va_D A wK → va_S A s.heap HK lK → (∀ j : Nat, j ∉ [38, 39, 35] → wK[j]? = ws0[j]?) → wK[38]? = some (a 38, .inl (cI, 12, .inl o.1)) → wK[39]? = some (a 39, .inl (cI, 12, .inl o.2)) → wK[35]? = some (a 35, .inr (9, [.ref (a 36), .int m_readMany, .ref (a 37), .int m_pupils, .ref (a 38), .ref (a 39), .int m_mood, .ref (a 40), .int m_length, .int m_at, .int m_faultAt, .ref (a 41), .ref (a 42), .long m_drawn, .int m_questions, .int m_rights, .int m_wrongs, .int m_tapes, .ref (a 43), .ref (a 44), .int m_trials, .ref (a 45), .ref (a 46), .ref (a 47), .ref (a 48), .ref (a 49), .ref (a 50), .ref (a 51)])) → ∀ ls, lv_has ls 3 [(0, .ref (a 35)), (1, .int p1)] → W p l e rm_X9_again s m args below meth c HK lK 0 0 Q (F0 m 72 ls [])) → W p l e rm_X9_again s m args below meth c HJ lJ 0 0 Q (F0 m 26 ls []) := by
        intro nf
        induction nf with
        | zero => intro _ _ _ r hF; exact (itr_0 hF).elim
        | succ nf ih =>
          intro x4 x5 x6 r hF w H locs hP hD hS hs h38 h39 h35 ls hl hE
          obtain ⟨wo, hF, hw⟩ := itr_s hF
          replace hF : FX9_again_S26 m_keptDares m_keptTimes p1 x4 x5 x6 = some wo := hF
          have h47 := (hs 47 (by simp only [List.mem_cons, List.not_mem_nil, or_false, not_or]; omega)).trans z47
          have h48 := (hs 48 (by simp only [List.mem_cons, List.not_mem_nil, or_false, not_or]; omega)).trans z48
          have h49 := (hs 49 (by simp only [List.mem_cons, List.not_mem_nil, or_false, not_or]; omega)).trans z49
          have h50 := (hs 50 (by simp only [List.mem_cons, List.not_mem_nil, or_false, not_or]; omega)).trans z50
          have h51 := (hs 51 (by simp only [List.mem_cons, List.not_mem_nil, or_false, not_or]; omega)).trans z51
          unfold FX9_again_S26 at hF
          refine lv_iload_n hx hb dX9_again_26 rfl (lv_at hl 0 rfl) ?_
          refine lv_bipush (v := (12 : Int32)) hx hb dX9_again_27 (by decide) ?_
          refine lv_icmp_ge (tgt := 72) hx hb dX9_again_29 (by decide) (fun c7 => ?_) (fun c7 => ?_)
          · replace hF := (if_pos c7).symm.trans hF
            obtain rfl := Option.some.inj hF
            obtain rfl := hw
            exact hE _ rfl _ _ _ hP hD hS hs h38 h39 h35 ls (lv_sub hl [1, 2] rfl)
          · replace hF := (if_neg c7).symm.trans hF
            refine lv_aload_n hx hb dX9_again_32 rfl (lv_at hl 1 rfl) ?_
            refine gf_X9_16 hx hb hts hown hK hP h35 dX9_again_33 ?_
            refine lv_iload_n hx hb dX9_again_36 rfl (lv_at hl 0 rfl) ?_
            refine lv_aload_n hx hb dX9_again_37 rfl (lv_at hl 1 rfl) ?_
            refine gf_X9_48 hx hb hts hown hK hP h35 dX9_again_38 ?_
            refine lv_bipush (v := (12 : Int32)) hx hb dX9_again_41 (by decide) ?_
            refine lv_iload_n hx hb dX9_again_43 rfl (lv_at hl 2 rfl) ?_
            refine lv_imul hx hb dX9_again_44 ?_
            refine lv_iload_n hx hb dX9_again_45 rfl (lv_at hl 0 rfl) ?_
            refine lv_iadd hx hb dX9_again_46 ?_
            obtain ⟨hg8, hF⟩ := gd_some hF
            refine va_iald hx hb hK hP 48 0 h48 rfl hg8 dX9_again_47 ?_
            obtain ⟨hg9, hF⟩ := gd_some hF
            refine ast_i hx hb hK hP hD hS h38 hg9 dX9_again_48 (fun w10 H locs hP hD hk hc hS => ?_)
            have h38 : w10[38]? = some (a 38, .inl (cI, 12, .inl (upd x5 x4.toNatClampNeg (m_keptDares (((12 : Int32) * p1) + x4).toNatClampNeg)))) := hc
            have h35 := (hk 35 (by omega)).trans h35
            have h47 := (hk 47 (by omega)).trans h47
            have h48 := (hk 48 (by omega)).trans h48
            have h49 := (hk 49 (by omega)).trans h49
            have h39 := (hk 39 (by omega)).trans h39
            have h50 := (hk 50 (by omega)).trans h50
            have h51 := (hk 51 (by omega)).trans h51
            replace hs := sm_k hk (by simp) hs
            refine lv_aload_n hx hb dX9_again_49 rfl (lv_at hl 1 rfl) ?_
            refine gf_X9_19 hx hb hts hown hK hP h35 dX9_again_50 ?_
            refine lv_iload_n hx hb dX9_again_53 rfl (lv_at hl 0 rfl) ?_
            refine lv_aload_n hx hb dX9_again_54 rfl (lv_at hl 1 rfl) ?_
            refine gf_X9_51 hx hb hts hown hK hP h35 dX9_again_55 ?_
            refine lv_bipush (v := (12 : Int32)) hx hb dX9_again_58 (by decide) ?_
            refine lv_iload_n hx hb dX9_again_60 rfl (lv_at hl 2 rfl) ?_
            refine lv_imul hx hb dX9_again_61 ?_
            refine lv_iload_n hx hb dX9_again_62 rfl (lv_at hl 0 rfl) ?_
            refine lv_iadd hx hb dX9_again_63 ?_
            obtain ⟨hg11, hF⟩ := gd_some hF
            refine va_iald hx hb hK hP 49 0 h49 rfl hg11 dX9_again_64 ?_
            obtain ⟨hg12, hF⟩ := gd_some hF
            refine ast_i hx hb hK hP hD hS h39 hg12 dX9_again_65 (fun w13 H locs hP hD hk hc hS => ?_)
            have h39 : w13[39]? = some (a 39, .inl (cI, 12, .inl (upd x6 x4.toNatClampNeg (m_keptTimes (((12 : Int32) * p1) + x4).toNatClampNeg)))) := hc
            have h35 := (hk 35 (by omega)).trans h35
            have h47 := (hk 47 (by omega)).trans h47
            have h48 := (hk 48 (by omega)).trans h48
            have h38 := (hk 38 (by omega)).trans h38
            have h49 := (hk 49 (by omega)).trans h49
            have h50 := (hk 50 (by omega)).trans h50
            have h51 := (hk 51 (by omega)).trans h51
            replace hs := sm_k hk (by simp) hs
            refine lv_iinc (v := x4 + (1 : Int32)) (lv' := [(2, .int (x4 + (1 : Int32))), (0, .ref (a 35)), (1, .int p1)]) hx hb dX9_again_66 hl (k := 0) rfl rfl (by decide) rfl (fun ls hl => ?_)
            refine lv_goto (tgt := 26) hx hb dX9_again_69 (by decide) ?_
            obtain rfl := Option.some.inj hF
            exact ih _ _ _ _ hw _ _ _ hP hD hS hs h38 h39 h35 ls (lv_sub hl [0, 1, 2] rfl) hE
      obtain ⟨o14, ho14, hF⟩ := bd_some hF
      refine hL26 fu (0 : Int32) m_dares m_times o14 ho14 _ _ _ hP hD hS hs h38 h39 h35 ls (lv_sub hl [0, 1, 2] rfl) ?_
      intro _ q_o14 w H locs hP hD hS hs h38 h39 h35 ls hl
      subst q_o14
      have h47 := (hs 47 (by simp only [List.mem_cons, List.not_mem_nil, or_false, not_or]; omega)).trans z47
      have h48 := (hs 48 (by simp only [List.mem_cons, List.not_mem_nil, or_false, not_or]; omega)).trans z48
      have h49 := (hs 49 (by simp only [List.mem_cons, List.not_mem_nil, or_false, not_or]; omega)).trans z49
      have h50 := (hs 50 (by simp only [List.mem_cons, List.not_mem_nil, or_false, not_or]; omega)).trans z50
      have h51 := (hs 51 (by simp only [List.mem_cons, List.not_mem_nil, or_false, not_or]; omega)).trans z51
      refine lv_aload_n hx hb dX9_again_72 rfl (lv_at hl 0 rfl) ?_
      refine lv_aload_n hx hb dX9_again_73 rfl (lv_at hl 0 rfl) ?_
      refine gf_X9_54 hx hb hts hown hK hP h35 dX9_again_74 ?_
      refine lv_iload_n hx hb dX9_again_77 rfl (lv_at hl 1 rfl) ?_
      obtain ⟨hg15, hF⟩ := gd_some hF
      refine va_lald hx hb hK hP 50 1 h50 rfl hg15 dX9_again_78 ?_
      refine pf_X9_100 hx hb hts hown hK hP hD hS h35 rfl rfl dX9_again_79 (fun w16 H locs hP hD hk hc hS => ?_)
      have h35 : w16[35]? = some (a 35, .inr (9, [.ref (a 36), .int m_readMany, .ref (a 37), .int m_pupils, .ref (a 38), .ref (a 39), .int m_mood, .ref (a 40), .int m_length, .int m_at, .int m_faultAt, .ref (a 41), .ref (a 42), .long (m_keptDrawn p1.toNatClampNeg), .int m_questions, .int m_rights, .int m_wrongs, .int m_tapes, .ref (a 43), .ref (a 44), .int m_trials, .ref (a 45), .ref (a 46), .ref (a 47), .ref (a 48), .ref (a 49), .ref (a 50), .ref (a 51)])) := hc
      have h47 := (hk 47 (by omega)).trans h47
      have h48 := (hk 48 (by omega)).trans h48
      have h38 := (hk 38 (by omega)).trans h38
      have h49 := (hk 49 (by omega)).trans h49
      have h39 := (hk 39 (by omega)).trans h39
      have h50 := (hk 50 (by omega)).trans h50
      have h51 := (hk 51 (by omega)).trans h51
      replace hs := sm_k hk (by simp) hs
      refine lv_aload_n hx hb dX9_again_82 rfl (lv_at hl 0 rfl) ?_
      refine lv_aload_n hx hb dX9_again_83 rfl (lv_at hl 0 rfl) ?_
      refine gf_X9_57 hx hb hts hown hK hP h35 dX9_again_84 ?_
      refine lv_iconst (v := (3 : Int32)) hx hb dX9_again_87 (by decide) ?_
      refine lv_iload_n hx hb dX9_again_88 rfl (lv_at hl 1 rfl) ?_
      refine lv_imul hx hb dX9_again_89 ?_
      obtain ⟨hg17, hF⟩ := gd_some hF
      refine va_iald hx hb hK hP 51 0 h51 rfl hg17 dX9_again_90 ?_
      refine pf_X9_104 hx hb hts hown hK hP hD hS h35 rfl rfl dX9_again_91 (fun w18 H locs hP hD hk hc hS => ?_)
      have h35 : w18[35]? = some (a 35, .inr (9, [.ref (a 36), .int m_readMany, .ref (a 37), .int m_pupils, .ref (a 38), .ref (a 39), .int m_mood, .ref (a 40), .int m_length, .int m_at, .int m_faultAt, .ref (a 41), .ref (a 42), .long (m_keptDrawn p1.toNatClampNeg), .int (m_keptLesson ((3 : Int32) * p1).toNatClampNeg), .int m_rights, .int m_wrongs, .int m_tapes, .ref (a 43), .ref (a 44), .int m_trials, .ref (a 45), .ref (a 46), .ref (a 47), .ref (a 48), .ref (a 49), .ref (a 50), .ref (a 51)])) := hc
      have h47 := (hk 47 (by omega)).trans h47
      have h48 := (hk 48 (by omega)).trans h48
      have h38 := (hk 38 (by omega)).trans h38
      have h49 := (hk 49 (by omega)).trans h49
      have h39 := (hk 39 (by omega)).trans h39
      have h50 := (hk 50 (by omega)).trans h50
      have h51 := (hk 51 (by omega)).trans h51
      replace hs := sm_k hk (by simp) hs
      refine lv_aload_n hx hb dX9_again_94 rfl (lv_at hl 0 rfl) ?_
      refine lv_aload_n hx hb dX9_again_95 rfl (lv_at hl 0 rfl) ?_
      refine gf_X9_57 hx hb hts hown hK hP h35 dX9_again_96 ?_
      refine lv_iconst (v := (3 : Int32)) hx hb dX9_again_99 (by decide) ?_
      refine lv_iload_n hx hb dX9_again_100 rfl (lv_at hl 1 rfl) ?_
      refine lv_imul hx hb dX9_again_101 ?_
      refine lv_iconst (v := (1 : Int32)) hx hb dX9_again_102 (by decide) ?_
      refine lv_iadd hx hb dX9_again_103 ?_
      obtain ⟨hg19, hF⟩ := gd_some hF
      refine va_iald hx hb hK hP 51 0 h51 rfl hg19 dX9_again_104 ?_
      refine pf_X9_107 hx hb hts hown hK hP hD hS h35 rfl rfl dX9_again_105 (fun w20 H locs hP hD hk hc hS => ?_)
      have h35 : w20[35]? = some (a 35, .inr (9, [.ref (a 36), .int m_readMany, .ref (a 37), .int m_pupils, .ref (a 38), .ref (a 39), .int m_mood, .ref (a 40), .int m_length, .int m_at, .int m_faultAt, .ref (a 41), .ref (a 42), .long (m_keptDrawn p1.toNatClampNeg), .int (m_keptLesson ((3 : Int32) * p1).toNatClampNeg), .int (m_keptLesson (((3 : Int32) * p1) + (1 : Int32)).toNatClampNeg), .int m_wrongs, .int m_tapes, .ref (a 43), .ref (a 44), .int m_trials, .ref (a 45), .ref (a 46), .ref (a 47), .ref (a 48), .ref (a 49), .ref (a 50), .ref (a 51)])) := hc
      have h47 := (hk 47 (by omega)).trans h47
      have h48 := (hk 48 (by omega)).trans h48
      have h38 := (hk 38 (by omega)).trans h38
      have h49 := (hk 49 (by omega)).trans h49
      have h39 := (hk 39 (by omega)).trans h39
      have h50 := (hk 50 (by omega)).trans h50
      have h51 := (hk 51 (by omega)).trans h51
      replace hs := sm_k hk (by simp) hs
      refine lv_aload_n hx hb dX9_again_108 rfl (lv_at hl 0 rfl) ?_
      refine lv_aload_n hx hb dX9_again_109 rfl (lv_at hl 0 rfl) ?_
      refine gf_X9_57 hx hb hts hown hK hP h35 dX9_again_110 ?_
      refine lv_iconst (v := (3 : Int32)) hx hb dX9_again_113 (by decide) ?_
      refine lv_iload_n hx hb dX9_again_114 rfl (lv_at hl 1 rfl) ?_
      refine lv_imul hx hb dX9_again_115 ?_
      refine lv_iconst (v := (2 : Int32)) hx hb dX9_again_116 (by decide) ?_
      refine lv_iadd hx hb dX9_again_117 ?_
      obtain ⟨hg21, hF⟩ := gd_some hF
      refine va_iald hx hb hK hP 51 0 h51 rfl hg21 dX9_again_118 ?_
      refine pf_X9_110 hx hb hts hown hK hP hD hS h35 rfl rfl dX9_again_119 (fun w22 H locs hP hD hk hc hS => ?_)
      have h35 : w22[35]? = some (a 35, .inr (9, [.ref (a 36), .int m_readMany, .ref (a 37), .int m_pupils, .ref (a 38), .ref (a 39), .int m_mood, .ref (a 40), .int m_length, .int m_at, .int m_faultAt, .ref (a 41), .ref (a 42), .long (m_keptDrawn p1.toNatClampNeg), .int (m_keptLesson ((3 : Int32) * p1).toNatClampNeg), .int (m_keptLesson (((3 : Int32) * p1) + (1 : Int32)).toNatClampNeg), .int (m_keptLesson (((3 : Int32) * p1) + (2 : Int32)).toNatClampNeg), .int m_tapes, .ref (a 43), .ref (a 44), .int m_trials, .ref (a 45), .ref (a 46), .ref (a 47), .ref (a 48), .ref (a 49), .ref (a 50), .ref (a 51)])) := hc
      have h47 := (hk 47 (by omega)).trans h47
      have h48 := (hk 48 (by omega)).trans h48
      have h38 := (hk 38 (by omega)).trans h38
      have h49 := (hk 49 (by omega)).trans h49
      have h39 := (hk 39 (by omega)).trans h39
      have h50 := (hk 50 (by omega)).trans h50
      have h51 := (hk 51 (by omega)).trans h51
      replace hs := sm_k hk (by simp) hs
      refine lv_aload_n hx hb dX9_again_122 rfl (lv_at hl 0 rfl) ?_
      refine gf_X9_104 hx hb hts hown hK hP h35 dX9_again_123 ?_
      obtain rfl := Option.some.inj hF
      rw [hQ]
      exact rw_i X hS hP hD hs ⟨h38, h39, h35⟩ dX9_again_126
    · replace hF := (if_pos c3).symm.trans hF
      refine lv_bipush (v := (-3 : Int32)) hx hb dX9_again_21 (by decide) ?_
      obtain rfl := Option.some.inj hF
      rw [hQ]
      exact rw_i X hS hP hD hs ⟨h38, h39, h35⟩ dX9_again_23
  · replace hF := (if_neg c1).symm.trans hF
    refine lv_iconst (v := (-1 : Int32)) hx hb dX9_again_10 (by decide) ?_
    obtain rfl := Option.some.inj hF
    rw [hQ]
    exact rw_i X hS hP hD hs ⟨h38, h39, h35⟩ dX9_again_11
def FX9_count (m_pupils : Int32) (m_length : Int32) (m_tapes : Int32) (m_trials : Int32) (m_trialWaited : Nat → Int32) (p1 : Int32) : Option (Int32) :=
  if p1 = (0 : Int32) then (some m_length) else if p1 = (1 : Int32) then (some m_pupils) else if p1 = (2 : Int32) then (some m_tapes) else if p1 = (3 : Int32) then (some m_trials) else if p1 = (4 : Int32) then ((FX9_waits m_trials m_trialWaited).bind fun x6 => some x6) else some (-2 : Int32)
def rm_X9_count : Room := { frames := 1, cells := 0, slots := 0, locals := 22 }
set_option maxHeartbeats 4000000 in
set_option maxRecDepth 100000 in
theorem c_X9_count (l : Launch) (D : va_G) (cI cJ cZ : ClassId) (a : Nat → Nat) (ws0 : va_W)  (m_readMany : Int32) (m_pupils : Int32) (m_mood : Int32) (m_length : Int32) (m_at : Int32) (m_faultAt : Int32) (m_drawn : Int64) (m_questions : Int32) (m_rights : Int32) (m_wrongs : Int32) (m_tapes : Int32) (m_trials : Int32) (m_trialWaited : Nat → Int32) (p1 : Int32) (u : Int32) (hF : FX9_count m_pupils m_length m_tapes m_trials m_trialWaited p1 = some u) (h35 : ws0[35]? = some (a 35, .inr (9, [.ref (a 36), .int m_readMany, .ref (a 37), .int m_pupils, .ref (a 38), .ref (a 39), .int m_mood, .ref (a 40), .int m_length, .int m_at, .int m_faultAt, .ref (a 41), .ref (a 42), .long m_drawn, .int m_questions, .int m_rights, .int m_wrongs, .int m_tapes, .ref (a 43), .ref (a 44), .int m_trials, .ref (a 45), .ref (a 46), .ref (a 47), .ref (a 48), .ref (a 49), .ref (a 50), .ref (a 51)]))) (h46 : ws0[46]? = some (a 46, .inl (cZ, 10, .inl m_trialWaited))) : Met l yX9_count (wq yX9_count cX9_count 2 (some .int)) rm_X9_count (Pq [.ref (a 35), .int p1] D cI cJ cZ ws0) (Qq (some (.int u))) 0 0 (fun _ => False) := by
  refine mq_of (by decide) (Nat.le_of_ble_eq_true rfl) (fun p e s m args below meth c ls Q hQ X _ hP hl => ?_)
  obtain ⟨hx, hb, hr, hml, hown, hts, hlk, hK, hN⟩ := id X
  have hown : s.vm.findClass RX9 = some m.cls := hown
  have hl : lv_has ls 2 [(0, .ref (a 35)), (1, .int p1)] := hl
  unfold FX9_count at hF
  refine lv_iload_n hx hb dX9_count_0 rfl (lv_at hl 1 rfl) ?_
  by_cases c1 : p1 = (0 : Int32)
  · replace hF := (if_pos c1).symm.trans hF
    refine lv_tableIn (tgt := 36) (off := 35) hx hb dX9_count_1 (by rw [c1]; decide) (by rw [c1]; decide) (by rw [c1]; rfl) (by decide) ?_
    refine lv_aload_n hx hb dX9_count_36 rfl (lv_at hl 0 rfl) ?_
    refine gf_X9_70 hx hb hts hown hK hP h35 dX9_count_37 ?_
    obtain rfl := Option.some.inj hF
    rw [hQ]
    exact rt_i X dX9_count_40
  replace hF := (if_neg c1).symm.trans hF
  by_cases c2 : p1 = (1 : Int32)
  · replace hF := (if_pos c2).symm.trans hF
    refine lv_tableIn (tgt := 41) (off := 40) hx hb dX9_count_1 (by rw [c2]; decide) (by rw [c2]; decide) (by rw [c2]; rfl) (by decide) ?_
    refine lv_aload_n hx hb dX9_count_41 rfl (lv_at hl 0 rfl) ?_
    refine gf_X9_97 hx hb hts hown hK hP h35 dX9_count_42 ?_
    obtain rfl := Option.some.inj hF
    rw [hQ]
    exact rt_i X dX9_count_45
  replace hF := (if_neg c2).symm.trans hF
  by_cases c3 : p1 = (2 : Int32)
  · replace hF := (if_pos c3).symm.trans hF
    refine lv_tableIn (tgt := 46) (off := 45) hx hb dX9_count_1 (by rw [c3]; decide) (by rw [c3]; decide) (by rw [c3]; rfl) (by decide) ?_
    refine lv_aload_n hx hb dX9_count_46 rfl (lv_at hl 0 rfl) ?_
    refine gf_X9_198 hx hb hts hown hK hP h35 dX9_count_47 ?_
    obtain rfl := Option.some.inj hF
    rw [hQ]
    exact rt_i X dX9_count_50
  replace hF := (if_neg c3).symm.trans hF
  by_cases c4 : p1 = (3 : Int32)
  · replace hF := (if_pos c4).symm.trans hF
    refine lv_tableIn (tgt := 51) (off := 50) hx hb dX9_count_1 (by rw [c4]; decide) (by rw [c4]; decide) (by rw [c4]; rfl) (by decide) ?_
    refine lv_aload_n hx hb dX9_count_51 rfl (lv_at hl 0 rfl) ?_
    refine gf_X9_215 hx hb hts hown hK hP h35 dX9_count_52 ?_
    obtain rfl := Option.some.inj hF
    rw [hQ]
    exact rt_i X dX9_count_55
  replace hF := (if_neg c4).symm.trans hF
  by_cases c5 : p1 = (4 : Int32)
  · replace hF := (if_pos c5).symm.trans hF
    refine lv_tableIn (tgt := 56) (off := 55) hx hb dX9_count_1 (by rw [c5]; decide) (by rw [c5]; decide) (by rw [c5]; rfl) (by decide) ?_
    refine lv_aload_n hx hb dX9_count_56 rfl (lv_at hl 0 rfl) ?_
    obtain ⟨x6, hx6, hF⟩ := bd_some hF
    refine rd_i (runV (As := []) (rest := []) X cq_X9_waits lk_X9_218 (c_X9_waits l D cI cJ cZ a ws0 m_readMany m_pupils m_mood m_length m_at m_faultAt m_drawn m_questions m_rights m_wrongs m_tapes m_trials m_trialWaited x6 hx6 h35 h46) rfl rfl ⟨Nat.le_of_ble_eq_true rfl, Nat.le_of_ble_eq_true rfl⟩ hP h35 rfl rfl hl.1 rfl (Nat.le_of_ble_eq_true rfl) dX9_count_57 ⟨Nat.le_of_ble_eq_true rfl, Nat.le_of_ble_eq_true rfl⟩) ?_
    obtain rfl := Option.some.inj hF
    rw [hQ]
    exact rt_i X dX9_count_60
  replace hF := (if_neg c5).symm.trans hF
  have zc1 : ¬ p1.toInt = 0 := fun q => c1 (Int32.toInt_inj.mp (q.trans (by decide)))
  have zc2 : ¬ p1.toInt = 1 := fun q => c2 (Int32.toInt_inj.mp (q.trans (by decide)))
  have zc3 : ¬ p1.toInt = 2 := fun q => c3 (Int32.toInt_inj.mp (q.trans (by decide)))
  have zc4 : ¬ p1.toInt = 3 := fun q => c4 (Int32.toInt_inj.mp (q.trans (by decide)))
  have zc5 : ¬ p1.toInt = 4 := fun q => c5 (Int32.toInt_inj.mp (q.trans (by decide)))
  refine lv_tableOut (tgt := 61) hx hb dX9_count_1 (by omega) (by decide) ?_
  refine lv_bipush (v := (-2 : Int32)) hx hb dX9_count_61 (by decide) ?_
  obtain rfl := Option.some.inj hF
  rw [hQ]
  exact rt_i X dX9_count_63
