def FX9_luck_J39L16 (x6 : Int32) (x7 : Int32) (x8 : Int64) (x9 : Nat → Int64) : Option ((Int32 × (Nat → Int64)) ⊕ ((Nat → Int64))) :=
  if x7 < 0 ∨ 13 ≤ x7.toNatClampNeg then none else some (.inl (x6 + (1 : Int32), vp_updL x9 x7.toNatClampNeg x8))
def FX9_luck_S16 (x2 : Int32) (x3 : Nat → Int64) : Option ((Int32 × (Nat → Int64)) ⊕ ((Nat → Int64))) :=
  if (13 : Int32) ≤ x2 then (some (.inr x3)) else (if x2 = 0 then (FX9_luck_J39L16 x2 x2 (1 : Int64) x3) else (FX9_luck_J39L16 x2 x2 (0 : Int64) x3))
def FX9_luck_J144L100 (x26 : Int32) (x27 : Int32) (x28 : Int64) (x29 : Int64) (x30 : Nat → Int64) : Option ((Int32 × (Nat → Int64)) ⊕ ((Nat → Int64))) :=
  if x27 < 0 ∨ 13 ≤ x27.toNatClampNeg then none else some (.inl (x26 + (-1 : Int32), vp_updL x30 x27.toNatClampNeg (x28 + x29)))
def FX9_luck_S100 (x18 : Int32) (x20 : Int32) (x21 : Int32) (x22 : Nat → Int64) : Option ((Int32 × (Nat → Int64)) ⊕ ((Nat → Int64))) :=
  if x21 < 0 then (some (.inr x22)) else (if x21 < 0 ∨ 13 ≤ x21.toNatClampNeg then none else if x21 ≤ 0 then (FX9_luck_J144L100 x21 x21 ((x22 x21.toNatClampNeg) * ((x20 - x18).toInt64)) (0 : Int64) x22) else (if (x21 - (1 : Int32)) < 0 ∨ 13 ≤ (x21 - (1 : Int32)).toNatClampNeg then none else FX9_luck_J144L100 x21 x21 ((x22 x21.toNatClampNeg) * ((x20 - x18).toInt64)) ((x22 (x21 - (1 : Int32)).toNatClampNeg) * x18.toInt64) x22))
def FX9_luck_S49 (m_tapes : Int32) (m_tapeHands : Nat → Int32) (p1 : Int32) (x13 : Int64) (x14 : Int32) (x15 : Nat → Int64) : Option ((Int64 × Int32 × (Nat → Int64)) ⊕ (Int64 × (Nat → Int64))) :=
  if m_tapes ≤ x14 then (some (.inr (x13, x15))) else (if x14 < 0 ∨ 12 ≤ x14.toNatClampNeg then none else (FX9_ones ((m_tapeHands x14.toNatClampNeg) &&& p1)).bind fun x18 => if x14 < 0 ∨ 12 ≤ x14.toNatClampNeg then none else (FX9_ones (m_tapeHands x14.toNatClampNeg)).bind fun x20 => (itr (fun v => FX9_luck_S100 x18 x20 v.1 v.2) fu ((12 : Int32), x15)).bind fun o34 => some (.inl (x13 * ((x18 + (x20 - x18)).toInt64), x14 + (1 : Int32), o34)))
def FX9_luck_S168 (o35 : Int64 × (Nat → Int64)) (x37 : Int64) (x38 : Int32) : Option ((Int64 × Int32) ⊕ (Int64)) :=
  if (13 : Int32) ≤ x38 then (some (.inr x37)) else (if x38 < 0 ∨ 13 ≤ x38.toNatClampNeg then none else some (.inl (x37 + (o35.2 x38.toNatClampNeg), x38 + (1 : Int32))))
def FX9_luck (m_tapes : Int32) (m_others : Nat → Int64) (m_tapeHands : Nat → Int32) (m_tapeTaken : Nat → Int32) (p1 : Int32) (p2 : Int32) : Option (Int64 × (Nat → Int64)) :=
  if (FX9_isGroup p1) = true then ((itr (fun v => FX9_luck_S16 v.1 v.2) fu ((0 : Int32), m_others)).bind fun o12 => (itr (fun v => FX9_luck_S49 m_tapes m_tapeHands p1 v.1 v.2.1 v.2.2) fu ((1 : Int64), (0 : Int32), o12)).bind fun o35 => (FX9_cameOf m_tapes m_tapeTaken p1).bind fun x36 => (itr (fun v => FX9_luck_S168 o35 v.1 v.2) fu ((0 : Int64), x36)).bind fun o41 => (FX9_part o41 o35.1 p2).bind fun x42 => some (x42, o35.2)) else (some ((-2 : Int64), m_others))
def rm_X9_luck : Room := { frames := 2, cells := 0, slots := 0, locals := 45 }
set_option maxHeartbeats 4000000 in
set_option maxRecDepth 100000 in
theorem c_X9_luck (l : Launch) (D : va_G) (cI cJ cZ : ClassId) (a : Nat → Nat) (ws0 : va_W) (A : Nat → Prop)  (m_readMany : Int32) (m_pupils : Int32) (m_mood : Int32) (m_length : Int32) (m_at : Int32) (m_faultAt : Int32) (m_drawn : Int64) (m_questions : Int32) (m_rights : Int32) (m_wrongs : Int32) (m_tapes : Int32) (m_trials : Int32) (m_others : Nat → Int64) (m_tapeHands : Nat → Int32) (m_tapeTaken : Nat → Int32) (p1 : Int32) (p2 : Int32) (u : Int64 × (Nat → Int64)) (hF : FX9_luck m_tapes m_others m_tapeHands m_tapeTaken p1 p2 = some u) (z35 : ws0[35]? = some (a 35, .inr (9, [.ref (a 36), .int m_readMany, .ref (a 37), .int m_pupils, .ref (a 38), .ref (a 39), .int m_mood, .ref (a 40), .int m_length, .int m_at, .int m_faultAt, .ref (a 41), .ref (a 42), .long m_drawn, .int m_questions, .int m_rights, .int m_wrongs, .int m_tapes, .ref (a 43), .ref (a 44), .int m_trials, .ref (a 45), .ref (a 46), .ref (a 47), .ref (a 48), .ref (a 49), .ref (a 50), .ref (a 51)]))) (z42 : ws0[42]? = some (a 42, .inl (cJ, 13, .inr (.inl m_others)))) (z43 : ws0[43]? = some (a 43, .inl (cI, 12, .inl m_tapeHands))) (z44 : ws0[44]? = some (a 44, .inl (cI, 12, .inl m_tapeTaken))) (hD : va_D A ws0) : Met l yX9_luck (wq yX9_luck cX9_luck 9 (some .long)) rm_X9_luck (Pq [.ref (a 35), .int p1, .int p2] D cI cJ cZ ws0) (Qw D A ws0 [42] (some (.long u.1)) (fun w => w[42]? = some (a 42, .inl (cJ, 13, .inr (.inl u.2))))) 0 0 A := by
  refine mq_of (by decide) (Nat.le_of_ble_eq_true rfl) (fun p e s m args below meth c ls Q hQ X _ hP hl => ?_)
  obtain ⟨hx, hb, hr, hml, hown, hts, hlk, hK, hN⟩ := id X
  have hown : s.vm.findClass RX9 = some m.cls := hown
  have hl : lv_has ls 9 [(0, .ref (a 35)), (1, .int p1), (2, .int p2)] := hl
  have hS : va_S A s.heap s.heap [] := va_S.rf
  have hs : ∀ j : Nat, j ∉ [42] → ws0[j]? = ws0[j]? := fun _ _ => rfl
  have h35 := z35
  have h42 := z42
  have h43 := z43
  have h44 := z44
  unfold FX9_luck at hF
  refine lv_iload_n hx hb dX9_luck_0 rfl (lv_at hl 1 rfl) ?_
  refine rd_i (runS (As := [.int p1]) (rest := []) X cq_X9_isGroup lk_X9_201 (c_X9_isGroup l D cI cJ cZ a ws0 p1 _ rfl ) rfl rfl ⟨Nat.le_of_ble_eq_true rfl, Nat.le_of_ble_eq_true rfl⟩ hP rfl hl.1 rfl (Nat.le_of_ble_eq_true rfl) dX9_luck_1 ⟨Nat.le_of_ble_eq_true rfl, Nat.le_of_ble_eq_true rfl⟩) ?_
  refine zf_ne (tgt := 11) hx hb dX9_luck_4 (by decide) (fun c1 => ?_) (fun c1 => ?_)
  · replace hF := (if_pos c1).symm.trans hF
    refine lv_lconst (v := (1 : Int64)) hx hb dX9_luck_11 (by decide) ?_
    refine lv_lstore_n (lv' := [(3, .long (1 : Int64)), (0, .ref (a 35)), (1, .int p1), (2, .int p2)]) hx hb dX9_luck_12 rfl hl (by decide) rfl (fun ls hl => ?_)
    refine lv_iconst (v := (0 : Int32)) hx hb dX9_luck_13 (by decide) ?_
    refine lv_istore (lv' := [(5, .int (0 : Int32)), (3, .long (1 : Int64)), (0, .ref (a 35)), (1, .int p1), (2, .int p2)]) hx hb dX9_luck_14 hl (by decide) rfl (fun ls hl => ?_)
    have hL16 : ∀ (nf : Nat) (x2 : Int32) (x3 : Nat → Int64) (r : (Nat → Int64)), itr (fun v => FX9_luck_S16 v.1 v.2) nf (x2, x3) = some r → ∀ (wJ : va_W) (HJ : Heap) (lJ : List Loc), va_P D vwCl wJ HJ → va_D A wJ → va_S A s.heap HJ lJ → (∀ j : Nat, j ∉ [42] → wJ[j]? = ws0[j]?) → wJ[42]? = some (a 42, .inl (cJ, 13, .inr (.inl x3))) → ∀ ls, lv_has ls 9 [(5, .int x2), (3, .long (1 : Int64)), (0, .ref (a 35)), (1, .int p1), (2, .int p2)] → (∀ o : (Nat → Int64), r = o → ∀ (wK : va_W) (HK : Heap) (lK : List Loc), va_P D vwCl wK HK → va_D A wK → va_S A s.heap HK lK → (∀ j : Nat, j ∉ [42] → wK[j]? = ws0[j]?) → wK[42]? = some (a 42, .inl (cJ, 13, .inr (.inl o))) → ∀ ls, lv_has ls 9 [(3, .long (1 : Int64)), (0, .ref (a 35)), (1, .int p1), (2, .int p2)] → W p l e rm_X9_luck s m args below meth c HK lK 0 0 Q (F0 m 46 ls [])) → W p l e rm_X9_luck s m args below meth c HJ lJ 0 0 Q (F0 m 16 ls []) := by
      intro nf
      induction nf with
      | zero => intro _ _ r hF; exact (itr_0 hF).elim
      | succ nf ih =>
        intro x2 x3 r hF w H locs hP hD hS hs h42 ls hl hE
        obtain ⟨wo, hF, hw⟩ := itr_s hF
        replace hF : FX9_luck_S16 x2 x3 = some wo := hF
        have h35 := (hs 35 (by simp only [List.mem_cons, List.not_mem_nil, or_false, not_or]; omega)).trans z35
        have h43 := (hs 43 (by simp only [List.mem_cons, List.not_mem_nil, or_false, not_or]; omega)).trans z43
        have h44 := (hs 44 (by simp only [List.mem_cons, List.not_mem_nil, or_false, not_or]; omega)).trans z44
        have hJ39 : ∀ (x6 : Int32) (x7 : Int32) (x8 : Int64) (x9 : Nat → Int64), ∀ (wJ : va_W) (HJ : Heap) (lJ : List Loc), va_P D vwCl wJ HJ → va_D A wJ → va_S A s.heap HJ lJ → (∀ j : Nat, j ∉ [42] → wJ[j]? = ws0[j]?) → wJ[42]? = some (a 42, .inl (cJ, 13, .inr (.inl x9))) → ∀ ls, lv_has ls 9 [(5, .int x6), (3, .long (1 : Int64)), (0, .ref (a 35)), (1, .int p1), (2, .int p2)] → FX9_luck_J39L16 x6 x7 x8 x9 = some wo → W p l e rm_X9_luck s m args below meth c HJ lJ 0 0 Q (F0 m 39 ls [.long x8, .int x7, .ref (a 42)]) := by
          intro x6 x7 x8 x9 w H locs hP hD hS hs h42 ls hl hF
          have h35 := (hs 35 (by simp only [List.mem_cons, List.not_mem_nil, or_false, not_or]; omega)).trans z35
          have h43 := (hs 43 (by simp only [List.mem_cons, List.not_mem_nil, or_false, not_or]; omega)).trans z43
          have h44 := (hs 44 (by simp only [List.mem_cons, List.not_mem_nil, or_false, not_or]; omega)).trans z44
          unfold FX9_luck_J39L16 at hF
          obtain ⟨hg10, hF⟩ := gd_some hF
          refine ast_l hx hb hK hP hD hS h42 hg10 dX9_luck_39 (fun w11 H locs hP hD hk hc hS => ?_)
          have h42 : w11[42]? = some (a 42, .inl (cJ, 13, .inr (.inl (vp_updL x9 x7.toNatClampNeg x8)))) := hc
          have h35 := (hk 35 (by omega)).trans h35
          have h43 := (hk 43 (by omega)).trans h43
          have h44 := (hk 44 (by omega)).trans h44
          replace hs := sm_k hk (by simp) hs
          refine lv_iinc (v := x6 + (1 : Int32)) (lv' := [(5, .int (x6 + (1 : Int32))), (3, .long (1 : Int64)), (0, .ref (a 35)), (1, .int p1), (2, .int p2)]) hx hb dX9_luck_40 hl (k := 0) rfl rfl (by decide) rfl (fun ls hl => ?_)
          refine lv_goto (tgt := 16) hx hb dX9_luck_43 (by decide) ?_
          obtain rfl := Option.some.inj hF
          exact ih _ _ _ hw _ _ _ hP hD hS hs h42 ls (lv_sub hl [0, 1, 2, 3, 4] rfl) hE
        unfold FX9_luck_S16 at hF
        refine lv_iload hx hb dX9_luck_16 (lv_at hl 0 rfl) ?_
        refine lv_bipush (v := (13 : Int32)) hx hb dX9_luck_18 (by decide) ?_
        refine lv_icmp_ge (tgt := 46) hx hb dX9_luck_20 (by decide) (fun c4 => ?_) (fun c4 => ?_)
        · replace hF := (if_pos c4).symm.trans hF
          obtain rfl := Option.some.inj hF
          obtain rfl := hw
          exact hE _ rfl _ _ _ hP hD hS hs h42 ls (lv_sub hl [1, 2, 3, 4] rfl)
        · replace hF := (if_neg c4).symm.trans hF
          refine lv_aload_n hx hb dX9_luck_23 rfl (lv_at hl 2 rfl) ?_
          refine gf_X9_29 hx hb hts hown hK hP h35 dX9_luck_24 ?_
          refine lv_iload hx hb dX9_luck_27 (lv_at hl 0 rfl) ?_
          refine lv_iload hx hb dX9_luck_29 (lv_at hl 0 rfl) ?_
          refine lv_if_ne (tgt := 38) hx hb dX9_luck_31 (by decide) (fun c5 => ?_) (fun c5 => ?_)
          · replace hF := (if_neg c5).symm.trans hF
            refine lv_lconst (v := (0 : Int64)) hx hb dX9_luck_38 (by decide) ?_
            exact hJ39 x2 x2 (0 : Int64) x3 _ _ _ hP hD hS hs h42 ls (lv_sub hl [0, 1, 2, 3, 4] rfl) hF
          · replace hF := (if_pos c5).symm.trans hF
            refine lv_lconst (v := (1 : Int64)) hx hb dX9_luck_34 (by decide) ?_
            refine lv_goto (tgt := 39) hx hb dX9_luck_35 (by decide) ?_
            exact hJ39 x2 x2 (1 : Int64) x3 _ _ _ hP hD hS hs h42 ls (lv_sub hl [0, 1, 2, 3, 4] rfl) hF
    obtain ⟨o12, ho12, hF⟩ := bd_some hF
    refine hL16 fu (0 : Int32) m_others o12 ho12 _ _ _ hP hD hS hs h42 ls (lv_sub hl [0, 1, 2, 3, 4] rfl) ?_
    intro _ q_o12 w H locs hP hD hS hs h42 ls hl
    subst q_o12
    have h35 := (hs 35 (by simp only [List.mem_cons, List.not_mem_nil, or_false, not_or]; omega)).trans z35
    have h43 := (hs 43 (by simp only [List.mem_cons, List.not_mem_nil, or_false, not_or]; omega)).trans z43
    have h44 := (hs 44 (by simp only [List.mem_cons, List.not_mem_nil, or_false, not_or]; omega)).trans z44
    refine lv_iconst (v := (0 : Int32)) hx hb dX9_luck_46 (by decide) ?_
    refine lv_istore (lv' := [(5, .int (0 : Int32)), (3, .long (1 : Int64)), (0, .ref (a 35)), (1, .int p1), (2, .int p2)]) hx hb dX9_luck_47 hl (by decide) rfl (fun ls hl => ?_)
    have hL49 : ∀ (nf : Nat) (x13 : Int64) (x14 : Int32) (x15 : Nat → Int64) (r : Int64 × (Nat → Int64)), itr (fun v => FX9_luck_S49 m_tapes m_tapeHands p1 v.1 v.2.1 v.2.2) nf (x13, x14, x15) = some r → ∀ (wJ : va_W) (HJ : Heap) (lJ : List Loc), va_P D vwCl wJ HJ → va_D A wJ → va_S A s.heap HJ lJ → (∀ j : Nat, j ∉ [42] → wJ[j]? = ws0[j]?) → wJ[42]? = some (a 42, .inl (cJ, 13, .inr (.inl x15))) → ∀ ls, lv_has ls 9 [(5, .int x14), (3, .long x13), (0, .ref (a 35)), (1, .int p1), (2, .int p2)] → (∀ o : Int64 × (Nat → Int64), r = o → ∀ (wK : va_W) (HK : Heap) (lK : List Loc), va_P D vwCl wK HK → va_D A wK → va_S A s.heap HK lK → (∀ j : Nat, j ∉ [42] → wK[j]? = ws0[j]?) → wK[42]? = some (a 42, .inl (cJ, 13, .inr (.inl o.2))) → ∀ ls, lv_has ls 9 [(3, .long o.1), (0, .ref (a 35)), (1, .int p1), (2, .int p2)] → W p l e rm_X9_luck s m args below meth c HK lK 0 0 Q (F0 m 158 ls [])) → W p l e rm_X9_luck s m args below meth c HJ lJ 0 0 Q (F0 m 49 ls []) := by
      intro nf
      induction nf with
      | zero => intro _ _ _ r hF; exact (itr_0 hF).elim
      | succ nf ih =>
        intro x13 x14 x15 r hF w H locs hP hD hS hs h42 ls hl hE
        obtain ⟨wo, hF, hw⟩ := itr_s hF
        replace hF : FX9_luck_S49 m_tapes m_tapeHands p1 x13 x14 x15 = some wo := hF
        have h35 := (hs 35 (by simp only [List.mem_cons, List.not_mem_nil, or_false, not_or]; omega)).trans z35
        have h43 := (hs 43 (by simp only [List.mem_cons, List.not_mem_nil, or_false, not_or]; omega)).trans z43
        have h44 := (hs 44 (by simp only [List.mem_cons, List.not_mem_nil, or_false, not_or]; omega)).trans z44
        unfold FX9_luck_S49 at hF
        refine lv_iload hx hb dX9_luck_49 (lv_at hl 0 rfl) ?_
        refine lv_aload_n hx hb dX9_luck_51 rfl (lv_at hl 2 rfl) ?_
        refine gf_X9_198 hx hb hts hown hK hP h35 dX9_luck_52 ?_
        refine lv_icmp_ge (tgt := 158) hx hb dX9_luck_55 (by decide) (fun c16 => ?_) (fun c16 => ?_)
        · replace hF := (if_pos c16).symm.trans hF
          obtain rfl := Option.some.inj hF
          obtain rfl := hw
          exact hE _ rfl _ _ _ hP hD hS hs h42 ls (lv_sub hl [1, 2, 3, 4] rfl)
        · replace hF := (if_neg c16).symm.trans hF
          refine lv_aload_n hx hb dX9_luck_58 rfl (lv_at hl 2 rfl) ?_
          refine gf_X9_32 hx hb hts hown hK hP h35 dX9_luck_59 ?_
          refine lv_iload hx hb dX9_luck_62 (lv_at hl 0 rfl) ?_
          obtain ⟨hg17, hF⟩ := gd_some hF
          refine va_iald hx hb hK hP 43 0 h43 rfl hg17 dX9_luck_64 ?_
          refine lv_iload_n hx hb dX9_luck_65 rfl (lv_at hl 3 rfl) ?_
          refine lv_iand hx hb dX9_luck_66 ?_
          obtain ⟨x18, hx18, hF⟩ := bd_some hF
          refine rd_i (runS (As := [.int ((m_tapeHands x14.toNatClampNeg) &&& p1)]) (rest := []) X cq_X9_ones lk_X9_185 (c_X9_ones l D cI cJ cZ a w ((m_tapeHands x14.toNatClampNeg) &&& p1) x18 hx18 ) rfl rfl ⟨Nat.le_of_ble_eq_true rfl, Nat.le_of_ble_eq_true rfl⟩ hP rfl hl.1 rfl (Nat.le_of_ble_eq_true rfl) dX9_luck_67 ⟨Nat.le_of_ble_eq_true rfl, Nat.le_of_ble_eq_true rfl⟩) ?_
          refine lv_istore (lv' := [(6, .int x18), (5, .int x14), (3, .long x13), (0, .ref (a 35)), (1, .int p1), (2, .int p2)]) hx hb dX9_luck_70 hl (by decide) rfl (fun ls hl => ?_)
          refine lv_aload_n hx hb dX9_luck_72 rfl (lv_at hl 3 rfl) ?_
          refine gf_X9_32 hx hb hts hown hK hP h35 dX9_luck_73 ?_
          refine lv_iload hx hb dX9_luck_76 (lv_at hl 1 rfl) ?_
          obtain ⟨hg19, hF⟩ := gd_some hF
          refine va_iald hx hb hK hP 43 0 h43 rfl hg19 dX9_luck_78 ?_
          obtain ⟨x20, hx20, hF⟩ := bd_some hF
          refine rd_i (runS (As := [.int (m_tapeHands x14.toNatClampNeg)]) (rest := []) X cq_X9_ones lk_X9_185 (c_X9_ones l D cI cJ cZ a w (m_tapeHands x14.toNatClampNeg) x20 hx20 ) rfl rfl ⟨Nat.le_of_ble_eq_true rfl, Nat.le_of_ble_eq_true rfl⟩ hP rfl hl.1 rfl (Nat.le_of_ble_eq_true rfl) dX9_luck_79 ⟨Nat.le_of_ble_eq_true rfl, Nat.le_of_ble_eq_true rfl⟩) ?_
          refine lv_iload hx hb dX9_luck_82 (lv_at hl 0 rfl) ?_
          refine lv_isub hx hb dX9_luck_84 ?_
          refine lv_istore (lv' := [(7, .int (x20 - x18)), (6, .int x18), (5, .int x14), (3, .long x13), (0, .ref (a 35)), (1, .int p1), (2, .int p2)]) hx hb dX9_luck_85 hl (by decide) rfl (fun ls hl => ?_)
          refine lv_lload_n hx hb dX9_luck_87 rfl (lv_at hl 3 rfl) ?_
          refine lv_iload hx hb dX9_luck_88 (lv_at hl 1 rfl) ?_
          refine lv_iload hx hb dX9_luck_90 (lv_at hl 0 rfl) ?_
          refine lv_iadd hx hb dX9_luck_92 ?_
          refine lv_i2l hx hb dX9_luck_93 rfl ?_
          refine lv_lmul hx hb dX9_luck_94 ?_
          refine lv_lstore_n (lv' := [(3, .long (x13 * ((x18 + (x20 - x18)).toInt64))), (7, .int (x20 - x18)), (6, .int x18), (5, .int x14), (0, .ref (a 35)), (1, .int p1), (2, .int p2)]) hx hb dX9_luck_95 rfl hl (by decide) rfl (fun ls hl => ?_)
          refine lv_bipush (v := (12 : Int32)) hx hb dX9_luck_96 (by decide) ?_
          refine lv_istore (lv' := [(8, .int (12 : Int32)), (3, .long (x13 * ((x18 + (x20 - x18)).toInt64))), (7, .int (x20 - x18)), (6, .int x18), (5, .int x14), (0, .ref (a 35)), (1, .int p1), (2, .int p2)]) hx hb dX9_luck_98 hl (by decide) rfl (fun ls hl => ?_)
          have hL100 : ∀ (nf : Nat) (x21 : Int32) (x22 : Nat → Int64) (r : (Nat → Int64)), itr (fun v => FX9_luck_S100 x18 x20 v.1 v.2) nf (x21, x22) = some r → ∀ (wJ : va_W) (HJ : Heap) (lJ : List Loc), va_P D vwCl wJ HJ → va_D A wJ → va_S A s.heap HJ lJ → (∀ j : Nat, j ∉ [42] → wJ[j]? = ws0[j]?) → wJ[42]? = some (a 42, .inl (cJ, 13, .inr (.inl x22))) → ∀ ls, lv_has ls 9 [(8, .int x21), (3, .long (x13 * ((x18 + (x20 - x18)).toInt64))), (7, .int (x20 - x18)), (6, .int x18), (5, .int x14), (0, .ref (a 35)), (1, .int p1), (2, .int p2)] → (∀ o : (Nat → Int64), r = o → ∀ (wK : va_W) (HK : Heap) (lK : List Loc), va_P D vwCl wK HK → va_D A wK → va_S A s.heap HK lK → (∀ j : Nat, j ∉ [42] → wK[j]? = ws0[j]?) → wK[42]? = some (a 42, .inl (cJ, 13, .inr (.inl o))) → ∀ ls, lv_has ls 9 [(3, .long (x13 * ((x18 + (x20 - x18)).toInt64))), (5, .int x14), (0, .ref (a 35)), (1, .int p1), (2, .int p2)] → W p l e rm_X9_luck s m args below meth c HK lK 0 0 Q (F0 m 152 ls [])) → W p l e rm_X9_luck s m args below meth c HJ lJ 0 0 Q (F0 m 100 ls []) := by
            intro nf
            induction nf with
            | zero => intro _ _ r hF; exact (itr_0 hF).elim
            | succ nf ih =>
              intro x21 x22 r hF w H locs hP hD hS hs h42 ls hl hE
              obtain ⟨wo, hF, hw⟩ := itr_s hF
              replace hF : FX9_luck_S100 x18 x20 x21 x22 = some wo := hF
              have h35 := (hs 35 (by simp only [List.mem_cons, List.not_mem_nil, or_false, not_or]; omega)).trans z35
              have h43 := (hs 43 (by simp only [List.mem_cons, List.not_mem_nil, or_false, not_or]; omega)).trans z43
              have h44 := (hs 44 (by simp only [List.mem_cons, List.not_mem_nil, or_false, not_or]; omega)).trans z44
              have hJ144 : ∀ (x26 : Int32) (x27 : Int32) (x28 : Int64) (x29 : Int64) (x30 : Nat → Int64), ∀ (wJ : va_W) (HJ : Heap) (lJ : List Loc), va_P D vwCl wJ HJ → va_D A wJ → va_S A s.heap HJ lJ → (∀ j : Nat, j ∉ [42] → wJ[j]? = ws0[j]?) → wJ[42]? = some (a 42, .inl (cJ, 13, .inr (.inl x30))) → ∀ ls, lv_has ls 9 [(8, .int x26), (3, .long (x13 * ((x18 + (x20 - x18)).toInt64))), (7, .int (x20 - x18)), (6, .int x18), (5, .int x14), (0, .ref (a 35)), (1, .int p1), (2, .int p2)] → FX9_luck_J144L100 x26 x27 x28 x29 x30 = some wo → W p l e rm_X9_luck s m args below meth c HJ lJ 0 0 Q (F0 m 144 ls [.long x29, .long x28, .int x27, .ref (a 42)]) := by
                intro x26 x27 x28 x29 x30 w H locs hP hD hS hs h42 ls hl hF
                have h35 := (hs 35 (by simp only [List.mem_cons, List.not_mem_nil, or_false, not_or]; omega)).trans z35
                have h43 := (hs 43 (by simp only [List.mem_cons, List.not_mem_nil, or_false, not_or]; omega)).trans z43
                have h44 := (hs 44 (by simp only [List.mem_cons, List.not_mem_nil, or_false, not_or]; omega)).trans z44
                unfold FX9_luck_J144L100 at hF
                refine lv_ladd hx hb dX9_luck_144 ?_
                obtain ⟨hg31, hF⟩ := gd_some hF
                refine ast_l hx hb hK hP hD hS h42 hg31 dX9_luck_145 (fun w32 H locs hP hD hk hc hS => ?_)
                have h42 : w32[42]? = some (a 42, .inl (cJ, 13, .inr (.inl (vp_updL x30 x27.toNatClampNeg (x28 + x29))))) := hc
                have h35 := (hk 35 (by omega)).trans h35
                have h43 := (hk 43 (by omega)).trans h43
                have h44 := (hk 44 (by omega)).trans h44
                replace hs := sm_k hk (by simp) hs
                refine lv_iinc (v := x26 + (-1 : Int32)) (lv' := [(8, .int (x26 + (-1 : Int32))), (3, .long (x13 * ((x18 + (x20 - x18)).toInt64))), (7, .int (x20 - x18)), (6, .int x18), (5, .int x14), (0, .ref (a 35)), (1, .int p1), (2, .int p2)]) hx hb dX9_luck_146 hl (k := 0) rfl rfl (by decide) rfl (fun ls hl => ?_)
                refine lv_goto (tgt := 100) hx hb dX9_luck_149 (by decide) ?_
                obtain rfl := Option.some.inj hF
                exact ih _ _ _ hw _ _ _ hP hD hS hs h42 ls (lv_sub hl [0, 1, 2, 3, 4, 5, 6, 7] rfl) hE
              unfold FX9_luck_S100 at hF
              refine lv_iload hx hb dX9_luck_100 (lv_at hl 0 rfl) ?_
              refine lv_if_lt (tgt := 152) hx hb dX9_luck_102 (by decide) (fun c23 => ?_) (fun c23 => ?_)
              · replace hF := (if_pos c23).symm.trans hF
                obtain rfl := Option.some.inj hF
                obtain rfl := hw
                exact hE _ rfl _ _ _ hP hD hS hs h42 ls (lv_sub hl [1, 4, 5, 6, 7] rfl)
              · replace hF := (if_neg c23).symm.trans hF
                refine lv_aload_n hx hb dX9_luck_105 rfl (lv_at hl 5 rfl) ?_
                refine gf_X9_29 hx hb hts hown hK hP h35 dX9_luck_106 ?_
                refine lv_iload hx hb dX9_luck_109 (lv_at hl 0 rfl) ?_
                refine lv_aload_n hx hb dX9_luck_111 rfl (lv_at hl 5 rfl) ?_
                refine gf_X9_29 hx hb hts hown hK hP h35 dX9_luck_112 ?_
                refine lv_iload hx hb dX9_luck_115 (lv_at hl 0 rfl) ?_
                obtain ⟨hg24, hF⟩ := gd_some hF
                refine va_lald hx hb hK hP 42 1 h42 rfl hg24 dX9_luck_117 ?_
                refine lv_iload hx hb dX9_luck_118 (lv_at hl 2 rfl) ?_
                refine lv_i2l hx hb dX9_luck_120 rfl ?_
                refine lv_lmul hx hb dX9_luck_121 ?_
                refine lv_iload hx hb dX9_luck_122 (lv_at hl 0 rfl) ?_
                refine lv_if_le (tgt := 143) hx hb dX9_luck_124 (by decide) (fun c25 => ?_) (fun c25 => ?_)
                · replace hF := (if_pos c25).symm.trans hF
                  refine lv_lconst (v := (0 : Int64)) hx hb dX9_luck_143 (by decide) ?_
                  exact hJ144 x21 x21 ((x22 x21.toNatClampNeg) * ((x20 - x18).toInt64)) (0 : Int64) x22 _ _ _ hP hD hS hs h42 ls (lv_sub hl [0, 1, 2, 3, 4, 5, 6, 7] rfl) hF
                · replace hF := (if_neg c25).symm.trans hF
                  refine lv_aload_n hx hb dX9_luck_127 rfl (lv_at hl 5 rfl) ?_
                  refine gf_X9_29 hx hb hts hown hK hP h35 dX9_luck_128 ?_
                  refine lv_iload hx hb dX9_luck_131 (lv_at hl 0 rfl) ?_
                  refine lv_iconst (v := (1 : Int32)) hx hb dX9_luck_133 (by decide) ?_
                  refine lv_isub hx hb dX9_luck_134 ?_
                  obtain ⟨hg33, hF⟩ := gd_some hF
                  refine va_lald hx hb hK hP 42 1 h42 rfl hg33 dX9_luck_135 ?_
                  refine lv_iload hx hb dX9_luck_136 (lv_at hl 3 rfl) ?_
                  refine lv_i2l hx hb dX9_luck_138 rfl ?_
                  refine lv_lmul hx hb dX9_luck_139 ?_
                  refine lv_goto (tgt := 144) hx hb dX9_luck_140 (by decide) ?_
                  exact hJ144 x21 x21 ((x22 x21.toNatClampNeg) * ((x20 - x18).toInt64)) ((x22 (x21 - (1 : Int32)).toNatClampNeg) * x18.toInt64) x22 _ _ _ hP hD hS hs h42 ls (lv_sub hl [0, 1, 2, 3, 4, 5, 6, 7] rfl) hF
          obtain ⟨o34, ho34, hF⟩ := bd_some hF
          refine hL100 fu (12 : Int32) x15 o34 ho34 _ _ _ hP hD hS hs h42 ls (lv_sub hl [0, 1, 2, 3, 4, 5, 6, 7] rfl) ?_
          intro _ q_o34 w H locs hP hD hS hs h42 ls hl
          subst q_o34
          have h35 := (hs 35 (by simp only [List.mem_cons, List.not_mem_nil, or_false, not_or]; omega)).trans z35
          have h43 := (hs 43 (by simp only [List.mem_cons, List.not_mem_nil, or_false, not_or]; omega)).trans z43
          have h44 := (hs 44 (by simp only [List.mem_cons, List.not_mem_nil, or_false, not_or]; omega)).trans z44
          refine lv_iinc (v := x14 + (1 : Int32)) (lv' := [(5, .int (x14 + (1 : Int32))), (3, .long (x13 * ((x18 + (x20 - x18)).toInt64))), (0, .ref (a 35)), (1, .int p1), (2, .int p2)]) hx hb dX9_luck_152 hl (k := 1) rfl rfl (by decide) rfl (fun ls hl => ?_)
          refine lv_goto (tgt := 49) hx hb dX9_luck_155 (by decide) ?_
          obtain rfl := Option.some.inj hF
          exact ih _ _ _ _ hw _ _ _ hP hD hS hs h42 ls (lv_sub hl [0, 1, 2, 3, 4] rfl) hE
    obtain ⟨o35, ho35, hF⟩ := bd_some hF
    refine hL49 fu (1 : Int64) (0 : Int32) o12 o35 ho35 _ _ _ hP hD hS hs h42 ls (lv_sub hl [0, 1, 2, 3, 4] rfl) ?_
    intro _ q_o35 w H locs hP hD hS hs h42 ls hl
    subst q_o35
    have h35 := (hs 35 (by simp only [List.mem_cons, List.not_mem_nil, or_false, not_or]; omega)).trans z35
    have h43 := (hs 43 (by simp only [List.mem_cons, List.not_mem_nil, or_false, not_or]; omega)).trans z43
    have h44 := (hs 44 (by simp only [List.mem_cons, List.not_mem_nil, or_false, not_or]; omega)).trans z44
    refine lv_lconst (v := (0 : Int64)) hx hb dX9_luck_158 (by decide) ?_
    refine lv_lstore (lv' := [(5, .long (0 : Int64)), (3, .long o35.1), (0, .ref (a 35)), (1, .int p1), (2, .int p2)]) hx hb dX9_luck_159 hl (by decide) rfl (fun ls hl => ?_)
    refine lv_aload_n hx hb dX9_luck_161 rfl (lv_at hl 2 rfl) ?_
    refine lv_iload_n hx hb dX9_luck_162 rfl (lv_at hl 3 rfl) ?_
    obtain ⟨x36, hx36, hF⟩ := bd_some hF
    refine rd_i (runV (As := [.int p1]) (rest := []) X cq_X9_cameOf lk_X9_204 (c_X9_cameOf l D cI cJ cZ a w m_readMany m_pupils m_mood m_length m_at m_faultAt m_drawn m_questions m_rights m_wrongs m_tapes m_trials m_tapeTaken p1 x36 hx36 h35 h44) rfl rfl ⟨Nat.le_of_ble_eq_true rfl, Nat.le_of_ble_eq_true rfl⟩ hP h35 rfl rfl hl.1 rfl (Nat.le_of_ble_eq_true rfl) dX9_luck_163 ⟨Nat.le_of_ble_eq_true rfl, Nat.le_of_ble_eq_true rfl⟩) ?_
    refine lv_istore (lv' := [(7, .int x36), (5, .long (0 : Int64)), (3, .long o35.1), (0, .ref (a 35)), (1, .int p1), (2, .int p2)]) hx hb dX9_luck_166 hl (by decide) rfl (fun ls hl => ?_)
    have hL168 : ∀ (nf : Nat) (x37 : Int64) (x38 : Int32) (r : Int64), itr (fun v => FX9_luck_S168 o35 v.1 v.2) nf (x37, x38) = some r → ∀ (wJ : va_W) (HJ : Heap) (lJ : List Loc), va_P D vwCl wJ HJ → va_D A wJ → va_S A s.heap HJ lJ → (∀ j : Nat, j ∉ [42] → wJ[j]? = ws0[j]?) → wJ[42]? = some (a 42, .inl (cJ, 13, .inr (.inl o35.2))) → ∀ ls, lv_has ls 9 [(7, .int x38), (5, .long x37), (3, .long o35.1), (0, .ref (a 35)), (2, .int p2)] → (∀ o : Int64, r = o → ∀ (wK : va_W) (HK : Heap) (lK : List Loc), va_P D vwCl wK HK → va_D A wK → va_S A s.heap HK lK → (∀ j : Nat, j ∉ [42] → wK[j]? = ws0[j]?) → wK[42]? = some (a 42, .inl (cJ, 13, .inr (.inl o35.2))) → ∀ ls, lv_has ls 9 [(5, .long o), (3, .long o35.1), (2, .int p2)] → W p l e rm_X9_luck s m args below meth c HK lK 0 0 Q (F0 m 193 ls [])) → W p l e rm_X9_luck s m args below meth c HJ lJ 0 0 Q (F0 m 168 ls []) := by
      intro nf
      induction nf with
      | zero => intro _ _ r hF; exact (itr_0 hF).elim
      | succ nf ih =>
        intro x37 x38 r hF w H locs hP hD hS hs h42 ls hl hE
        obtain ⟨wo, hF, hw⟩ := itr_s hF
        replace hF : FX9_luck_S168 o35 x37 x38 = some wo := hF
        have h35 := (hs 35 (by simp only [List.mem_cons, List.not_mem_nil, or_false, not_or]; omega)).trans z35
        have h43 := (hs 43 (by simp only [List.mem_cons, List.not_mem_nil, or_false, not_or]; omega)).trans z43
        have h44 := (hs 44 (by simp only [List.mem_cons, List.not_mem_nil, or_false, not_or]; omega)).trans z44
        unfold FX9_luck_S168 at hF
        refine lv_iload hx hb dX9_luck_168 (lv_at hl 0 rfl) ?_
        refine lv_bipush (v := (13 : Int32)) hx hb dX9_luck_170 (by decide) ?_
        refine lv_icmp_ge (tgt := 193) hx hb dX9_luck_172 (by decide) (fun c39 => ?_) (fun c39 => ?_)
        · replace hF := (if_pos c39).symm.trans hF
          obtain rfl := Option.some.inj hF
          obtain rfl := hw
          exact hE _ rfl _ _ _ hP hD hS hs h42 ls (lv_sub hl [1, 2, 4] rfl)
        · replace hF := (if_neg c39).symm.trans hF
          refine lv_lload hx hb dX9_luck_175 (lv_at hl 1 rfl) ?_
          refine lv_aload_n hx hb dX9_luck_177 rfl (lv_at hl 3 rfl) ?_
          refine gf_X9_29 hx hb hts hown hK hP h35 dX9_luck_178 ?_
          refine lv_iload hx hb dX9_luck_181 (lv_at hl 0 rfl) ?_
          obtain ⟨hg40, hF⟩ := gd_some hF
          refine va_lald hx hb hK hP 42 1 h42 rfl hg40 dX9_luck_183 ?_
          refine lv_ladd hx hb dX9_luck_184 ?_
          refine lv_lstore (lv' := [(5, .long (x37 + (o35.2 x38.toNatClampNeg))), (7, .int x38), (3, .long o35.1), (0, .ref (a 35)), (2, .int p2)]) hx hb dX9_luck_185 hl (by decide) rfl (fun ls hl => ?_)
          refine lv_iinc (v := x38 + (1 : Int32)) (lv' := [(7, .int (x38 + (1 : Int32))), (5, .long (x37 + (o35.2 x38.toNatClampNeg))), (3, .long o35.1), (0, .ref (a 35)), (2, .int p2)]) hx hb dX9_luck_187 hl (k := 1) rfl rfl (by decide) rfl (fun ls hl => ?_)
          refine lv_goto (tgt := 168) hx hb dX9_luck_190 (by decide) ?_
          obtain rfl := Option.some.inj hF
          exact ih _ _ _ hw _ _ _ hP hD hS hs h42 ls (lv_sub hl [0, 1, 2, 3, 4] rfl) hE
    obtain ⟨o41, ho41, hF⟩ := bd_some hF
    refine hL168 fu (0 : Int64) x36 o41 ho41 _ _ _ hP hD hS hs h42 ls (lv_sub hl [0, 1, 2, 3, 5] rfl) ?_
    intro _ q_o41 w H locs hP hD hS hs h42 ls hl
    subst q_o41
    have h35 := (hs 35 (by simp only [List.mem_cons, List.not_mem_nil, or_false, not_or]; omega)).trans z35
    have h43 := (hs 43 (by simp only [List.mem_cons, List.not_mem_nil, or_false, not_or]; omega)).trans z43
    have h44 := (hs 44 (by simp only [List.mem_cons, List.not_mem_nil, or_false, not_or]; omega)).trans z44
    refine lv_lload hx hb dX9_luck_193 (lv_at hl 0 rfl) ?_
    refine lv_lload_n hx hb dX9_luck_195 rfl (lv_at hl 1 rfl) ?_
    refine lv_iload_n hx hb dX9_luck_196 rfl (lv_at hl 2 rfl) ?_
    obtain ⟨x42, hx42, hF⟩ := bd_some hF
    refine rd_l (runS (As := [.long o41, .long o35.1, .int p2]) (rest := []) X cq_X9_part lk_X9_149 (c_X9_part l D cI cJ cZ a w o41 o35.1 p2 x42 hx42 ) rfl rfl ⟨Nat.le_of_ble_eq_true rfl, Nat.le_of_ble_eq_true rfl⟩ hP rfl hl.1 rfl (Nat.le_of_ble_eq_true rfl) dX9_luck_197 ⟨Nat.le_of_ble_eq_true rfl, Nat.le_of_ble_eq_true rfl⟩) ?_
    obtain rfl := Option.some.inj hF
    rw [hQ]
    exact rw_l X hS hP hD hs h42 dX9_luck_200
  · replace hF := (if_neg c1).symm.trans hF
    refine lv_ldc2 (v := (-2 : Int64)) hx hb hown (hts _ kl_X9_135) dX9_luck_7 ?_
    obtain rfl := Option.some.inj hF
    rw [hQ]
    exact rw_l X hS hP hD hs h42 dX9_luck_10
def FX9_choose_S16 (p1 : Int32) (p2 : Int32) (x3 : Int64) (x4 : Int32) : Option ((Int64 × Int32) ⊕ (Int64)) :=
  if p2 ≤ x4 then (some (.inr x3)) else (if ((x4 + (1 : Int32)).toInt64) = 0 then none else some (.inl ((x3 * ((p1 - x4).toInt64)) / ((x4 + (1 : Int32)).toInt64), x4 + (1 : Int32))))
def FX9_choose (p1 : Int32) (p2 : Int32) : Option (Int64) :=
  if p2 < 0 then (some (0 : Int64)) else (if p2 ≤ p1 then ((itr (fun v => FX9_choose_S16 p1 p2 v.1 v.2) fu ((1 : Int64), (0 : Int32))).bind fun o7 => some o7) else (some (0 : Int64)))
def rm_X9_choose : Room := { frames := 0, cells := 0, slots := 0, locals := 0 }
set_option maxHeartbeats 4000000 in
set_option maxRecDepth 100000 in
theorem c_X9_choose (l : Launch) (D : va_G) (cI cJ cZ : ClassId) (a : Nat → Nat) (ws0 : va_W)   (p1 : Int32) (p2 : Int32) (u : Int64) (hF : FX9_choose p1 p2 = some u) : Met l yX9_choose (wq yX9_choose cX9_choose 5 (some .long)) rm_X9_choose (Pq [.int p1, .int p2] D cI cJ cZ ws0) (Qq (some (.long u))) 0 0 (fun _ => False) := by
  refine mq_of (by decide) (Nat.le_of_ble_eq_true rfl) (fun p e s m args below meth c ls Q hQ X _ hP hl => ?_)
  obtain ⟨hx, hb, hr, hml, hown, hts, hlk, hK, hN⟩ := id X
  have hown : s.vm.findClass RX9 = some m.cls := hown
  have hl : lv_has ls 5 [(0, .int p1), (1, .int p2)] := hl
  unfold FX9_choose at hF
  refine lv_iload_n hx hb dX9_choose_0 rfl (lv_at hl 1 rfl) ?_
  refine lv_if_lt (tgt := 9) hx hb dX9_choose_1 (by decide) (fun c1 => ?_) (fun c1 => ?_)
  · replace hF := (if_pos c1).symm.trans hF
    refine lv_lconst (v := (0 : Int64)) hx hb dX9_choose_9 (by decide) ?_
    obtain rfl := Option.some.inj hF
    rw [hQ]
    exact rt_l X dX9_choose_10
  · replace hF := (if_neg c1).symm.trans hF
    refine lv_iload_n hx hb dX9_choose_4 rfl (lv_at hl 1 rfl) ?_
    refine lv_iload_n hx hb dX9_choose_5 rfl (lv_at hl 0 rfl) ?_
    refine lv_icmp_le (tgt := 11) hx hb dX9_choose_6 (by decide) (fun c2 => ?_) (fun c2 => ?_)
    · replace hF := (if_pos c2).symm.trans hF
      refine lv_lconst (v := (1 : Int64)) hx hb dX9_choose_11 (by decide) ?_
      refine lv_lstore_n (lv' := [(2, .long (1 : Int64)), (0, .int p1), (1, .int p2)]) hx hb dX9_choose_12 rfl hl (by decide) rfl (fun ls hl => ?_)
      refine lv_iconst (v := (0 : Int32)) hx hb dX9_choose_13 (by decide) ?_
      refine lv_istore (lv' := [(4, .int (0 : Int32)), (2, .long (1 : Int64)), (0, .int p1), (1, .int p2)]) hx hb dX9_choose_14 hl (by decide) rfl (fun ls hl => ?_)
      have hL16 : ∀ (nf : Nat) (x3 : Int64) (x4 : Int32) (r : Int64), itr (fun v => FX9_choose_S16 p1 p2 v.1 v.2) nf (x3, x4) = some r → ∀ ls, lv_has ls 5 [(4, .int x4), (2, .long x3), (0, .int p1), (1, .int p2)] → (∀ o : Int64, r = o → ∀ ls, lv_has ls 5 [(2, .long o)] → W p l e rm_X9_choose s m args below meth c s.heap [] 0 0 Q (F0 m 42 ls [])) → W p l e rm_X9_choose s m args below meth c s.heap [] 0 0 Q (F0 m 16 ls []) := by
        intro nf
        induction nf with
        | zero => intro _ _ r hF; exact (itr_0 hF).elim
        | succ nf ih =>
          intro x3 x4 r hF ls hl hE
          obtain ⟨wo, hF, hw⟩ := itr_s hF
          replace hF : FX9_choose_S16 p1 p2 x3 x4 = some wo := hF
          unfold FX9_choose_S16 at hF
          refine lv_iload hx hb dX9_choose_16 (lv_at hl 0 rfl) ?_
          refine lv_iload_n hx hb dX9_choose_18 rfl (lv_at hl 3 rfl) ?_
          refine lv_icmp_ge (tgt := 42) hx hb dX9_choose_19 (by decide) (fun c5 => ?_) (fun c5 => ?_)
          · replace hF := (if_pos c5).symm.trans hF
            obtain rfl := Option.some.inj hF
            obtain rfl := hw
            exact hE _ rfl ls (lv_sub hl [1] rfl)
          · replace hF := (if_neg c5).symm.trans hF
            refine lv_lload_n hx hb dX9_choose_22 rfl (lv_at hl 1 rfl) ?_
            refine lv_iload_n hx hb dX9_choose_23 rfl (lv_at hl 2 rfl) ?_
            refine lv_iload hx hb dX9_choose_24 (lv_at hl 0 rfl) ?_
            refine lv_isub hx hb dX9_choose_26 ?_
            refine lv_i2l hx hb dX9_choose_27 rfl ?_
            refine lv_lmul hx hb dX9_choose_28 ?_
            refine lv_iload hx hb dX9_choose_29 (lv_at hl 0 rfl) ?_
            refine lv_iconst (v := (1 : Int32)) hx hb dX9_choose_31 (by decide) ?_
            refine lv_iadd hx hb dX9_choose_32 ?_
            refine lv_i2l hx hb dX9_choose_33 rfl ?_
            obtain ⟨hg6, hF⟩ := gd_some hF
            refine lv_ldiv hx hb dX9_choose_34 hg6 ?_
            refine lv_lstore_n (lv' := [(2, .long ((x3 * ((p1 - x4).toInt64)) / ((x4 + (1 : Int32)).toInt64))), (4, .int x4), (0, .int p1), (1, .int p2)]) hx hb dX9_choose_35 rfl hl (by decide) rfl (fun ls hl => ?_)
            refine lv_iinc (v := x4 + (1 : Int32)) (lv' := [(4, .int (x4 + (1 : Int32))), (2, .long ((x3 * ((p1 - x4).toInt64)) / ((x4 + (1 : Int32)).toInt64))), (0, .int p1), (1, .int p2)]) hx hb dX9_choose_36 hl (k := 1) rfl rfl (by decide) rfl (fun ls hl => ?_)
            refine lv_goto (tgt := 16) hx hb dX9_choose_39 (by decide) ?_
            obtain rfl := Option.some.inj hF
            exact ih _ _ _ hw ls (lv_sub hl [0, 1, 2, 3] rfl) hE
      obtain ⟨o7, ho7, hF⟩ := bd_some hF
      refine hL16 fu (1 : Int64) (0 : Int32) o7 ho7 ls (lv_sub hl [0, 1, 2, 3] rfl) ?_
      intro _ q_o7 ls hl
      subst q_o7
      refine lv_lload_n hx hb dX9_choose_42 rfl (lv_at hl 0 rfl) ?_
      obtain rfl := Option.some.inj hF
      rw [hQ]
      exact rt_l X dX9_choose_43
    · replace hF := (if_neg c2).symm.trans hF
      refine lv_lconst (v := (0 : Int64)) hx hb dX9_choose_9 (by decide) ?_
      obtain rfl := Option.some.inj hF
      rw [hQ]
      exact rt_l X dX9_choose_10
def FX9_boards (p1 : Int32) (p2 : Int32) (p3 : Int32) (p4 : Int32) (p5 : Int32) : Option (Int64) :=
  if (FX9_in p1.toInt64 (1 : Int64) (30 : Int64)) = true then (if (FX9_in p2.toInt64 (0 : Int64) p1.toInt64) = true then (if (FX9_in p3.toInt64 (1 : Int64) p1.toInt64) = true then (if (FX9_in p4.toInt64 (0 : Int64) p3.toInt64) = true then ((FX9_choose p2 p4).bind fun x5 => (FX9_choose (p1 - p2) (p3 - p4)).bind fun x6 => (FX9_choose p1 p3).bind fun x7 => (FX9_part (x5 * x6) x7 p5).bind fun x8 => some x8) else (some (-2 : Int64))) else (some (-2 : Int64))) else (some (-2 : Int64))) else (some (-2 : Int64))
def rm_X9_boards : Room := { frames := 1, cells := 0, slots := 0, locals := 30 }
set_option maxHeartbeats 4000000 in
set_option maxRecDepth 100000 in
theorem c_X9_boards (l : Launch) (D : va_G) (cI cJ cZ : ClassId) (a : Nat → Nat) (ws0 : va_W)   (p1 : Int32) (p2 : Int32) (p3 : Int32) (p4 : Int32) (p5 : Int32) (u : Int64) (hF : FX9_boards p1 p2 p3 p4 p5 = some u) : Met l yX9_boards (wq yX9_boards cX9_boards 6 (some .long)) rm_X9_boards (Pq [.ref (a 35), .int p1, .int p2, .int p3, .int p4, .int p5] D cI cJ cZ ws0) (Qq (some (.long u))) 0 0 (fun _ => False) := by
  refine mq_of (by decide) (Nat.le_of_ble_eq_true rfl) (fun p e s m args below meth c ls Q hQ X _ hP hl => ?_)
  obtain ⟨hx, hb, hr, hml, hown, hts, hlk, hK, hN⟩ := id X
  have hown : s.vm.findClass RX9 = some m.cls := hown
  have hl : lv_has ls 6 [(0, .ref (a 35)), (1, .int p1), (2, .int p2), (3, .int p3), (4, .int p4), (5, .int p5)] := hl
  unfold FX9_boards at hF
  refine lv_iload_n hx hb dX9_boards_0 rfl (lv_at hl 1 rfl) ?_
  refine lv_i2l hx hb dX9_boards_1 rfl ?_
  refine lv_lconst (v := (1 : Int64)) hx hb dX9_boards_2 (by decide) ?_
  refine lv_ldc2 (v := (30 : Int64)) hx hb hown (hts _ kl_X9_207) dX9_boards_3 ?_
  refine rd_i (runS (As := [.long p1.toInt64, .long (1 : Int64), .long (30 : Int64)]) (rest := []) X cq_X9_in lk_X9_66 (c_X9_in l D cI cJ cZ a ws0 p1.toInt64 (1 : Int64) (30 : Int64) _ rfl ) rfl rfl ⟨Nat.le_of_ble_eq_true rfl, Nat.le_of_ble_eq_true rfl⟩ hP rfl hl.1 rfl (Nat.le_of_ble_eq_true rfl) dX9_boards_6 ⟨Nat.le_of_ble_eq_true rfl, Nat.le_of_ble_eq_true rfl⟩) ?_
  refine zf_eq (tgt := 46) hx hb dX9_boards_9 (by decide) (fun c1 => ?_) (fun c1 => ?_)
  · replace hF := (if_neg c1).symm.trans hF
    refine lv_ldc2 (v := (-2 : Int64)) hx hb hown (hts _ kl_X9_135) dX9_boards_46 ?_
    obtain rfl := Option.some.inj hF
    rw [hQ]
    exact rt_l X dX9_boards_49
  · replace hF := (if_pos c1).symm.trans hF
    refine lv_iload_n hx hb dX9_boards_12 rfl (lv_at hl 2 rfl) ?_
    refine lv_i2l hx hb dX9_boards_13 rfl ?_
    refine lv_lconst (v := (0 : Int64)) hx hb dX9_boards_14 (by decide) ?_
    refine lv_iload_n hx hb dX9_boards_15 rfl (lv_at hl 1 rfl) ?_
    refine lv_i2l hx hb dX9_boards_16 rfl ?_
    refine rd_i (runS (As := [.long p2.toInt64, .long (0 : Int64), .long p1.toInt64]) (rest := []) X cq_X9_in lk_X9_66 (c_X9_in l D cI cJ cZ a ws0 p2.toInt64 (0 : Int64) p1.toInt64 _ rfl ) rfl rfl ⟨Nat.le_of_ble_eq_true rfl, Nat.le_of_ble_eq_true rfl⟩ hP rfl hl.1 rfl (Nat.le_of_ble_eq_true rfl) dX9_boards_17 ⟨Nat.le_of_ble_eq_true rfl, Nat.le_of_ble_eq_true rfl⟩) ?_
    refine zf_eq (tgt := 46) hx hb dX9_boards_20 (by decide) (fun c2 => ?_) (fun c2 => ?_)
    · replace hF := (if_neg c2).symm.trans hF
      refine lv_ldc2 (v := (-2 : Int64)) hx hb hown (hts _ kl_X9_135) dX9_boards_46 ?_
      obtain rfl := Option.some.inj hF
      rw [hQ]
      exact rt_l X dX9_boards_49
    · replace hF := (if_pos c2).symm.trans hF
      refine lv_iload_n hx hb dX9_boards_23 rfl (lv_at hl 3 rfl) ?_
      refine lv_i2l hx hb dX9_boards_24 rfl ?_
      refine lv_lconst (v := (1 : Int64)) hx hb dX9_boards_25 (by decide) ?_
      refine lv_iload_n hx hb dX9_boards_26 rfl (lv_at hl 1 rfl) ?_
      refine lv_i2l hx hb dX9_boards_27 rfl ?_
      refine rd_i (runS (As := [.long p3.toInt64, .long (1 : Int64), .long p1.toInt64]) (rest := []) X cq_X9_in lk_X9_66 (c_X9_in l D cI cJ cZ a ws0 p3.toInt64 (1 : Int64) p1.toInt64 _ rfl ) rfl rfl ⟨Nat.le_of_ble_eq_true rfl, Nat.le_of_ble_eq_true rfl⟩ hP rfl hl.1 rfl (Nat.le_of_ble_eq_true rfl) dX9_boards_28 ⟨Nat.le_of_ble_eq_true rfl, Nat.le_of_ble_eq_true rfl⟩) ?_
      refine zf_eq (tgt := 46) hx hb dX9_boards_31 (by decide) (fun c3 => ?_) (fun c3 => ?_)
      · replace hF := (if_neg c3).symm.trans hF
        refine lv_ldc2 (v := (-2 : Int64)) hx hb hown (hts _ kl_X9_135) dX9_boards_46 ?_
        obtain rfl := Option.some.inj hF
        rw [hQ]
        exact rt_l X dX9_boards_49
      · replace hF := (if_pos c3).symm.trans hF
        refine lv_iload hx hb dX9_boards_34 (lv_at hl 4 rfl) ?_
        refine lv_i2l hx hb dX9_boards_36 rfl ?_
        refine lv_lconst (v := (0 : Int64)) hx hb dX9_boards_37 (by decide) ?_
        refine lv_iload_n hx hb dX9_boards_38 rfl (lv_at hl 3 rfl) ?_
        refine lv_i2l hx hb dX9_boards_39 rfl ?_
        refine rd_i (runS (As := [.long p4.toInt64, .long (0 : Int64), .long p3.toInt64]) (rest := []) X cq_X9_in lk_X9_66 (c_X9_in l D cI cJ cZ a ws0 p4.toInt64 (0 : Int64) p3.toInt64 _ rfl ) rfl rfl ⟨Nat.le_of_ble_eq_true rfl, Nat.le_of_ble_eq_true rfl⟩ hP rfl hl.1 rfl (Nat.le_of_ble_eq_true rfl) dX9_boards_40 ⟨Nat.le_of_ble_eq_true rfl, Nat.le_of_ble_eq_true rfl⟩) ?_
        refine zf_ne (tgt := 50) hx hb dX9_boards_43 (by decide) (fun c4 => ?_) (fun c4 => ?_)
        · replace hF := (if_pos c4).symm.trans hF
          refine lv_iload_n hx hb dX9_boards_50 rfl (lv_at hl 2 rfl) ?_
          refine lv_iload hx hb dX9_boards_51 (lv_at hl 4 rfl) ?_
          obtain ⟨x5, hx5, hF⟩ := bd_some hF
          refine rd_l (runS (As := [.int p2, .int p4]) (rest := []) X cq_X9_choose lk_X9_209 (c_X9_choose l D cI cJ cZ a ws0 p2 p4 x5 hx5 ) rfl rfl ⟨Nat.le_of_ble_eq_true rfl, Nat.le_of_ble_eq_true rfl⟩ hP rfl hl.1 rfl (Nat.le_of_ble_eq_true rfl) dX9_boards_53 ⟨Nat.le_of_ble_eq_true rfl, Nat.le_of_ble_eq_true rfl⟩) ?_
          refine lv_iload_n hx hb dX9_boards_56 rfl (lv_at hl 1 rfl) ?_
          refine lv_iload_n hx hb dX9_boards_57 rfl (lv_at hl 2 rfl) ?_
          refine lv_isub hx hb dX9_boards_58 ?_
          refine lv_iload_n hx hb dX9_boards_59 rfl (lv_at hl 3 rfl) ?_
          refine lv_iload hx hb dX9_boards_60 (lv_at hl 4 rfl) ?_
          refine lv_isub hx hb dX9_boards_62 ?_
          obtain ⟨x6, hx6, hF⟩ := bd_some hF
          refine rd_l (runS (As := [.int (p1 - p2), .int (p3 - p4)]) (rest := [.long x5]) X cq_X9_choose lk_X9_209 (c_X9_choose l D cI cJ cZ a ws0 (p1 - p2) (p3 - p4) x6 hx6 ) rfl rfl ⟨Nat.le_of_ble_eq_true rfl, Nat.le_of_ble_eq_true rfl⟩ hP rfl hl.1 rfl (Nat.le_of_ble_eq_true rfl) dX9_boards_63 ⟨Nat.le_of_ble_eq_true rfl, Nat.le_of_ble_eq_true rfl⟩) ?_
          refine lv_lmul hx hb dX9_boards_66 ?_
          refine lv_iload_n hx hb dX9_boards_67 rfl (lv_at hl 1 rfl) ?_
          refine lv_iload_n hx hb dX9_boards_68 rfl (lv_at hl 3 rfl) ?_
          obtain ⟨x7, hx7, hF⟩ := bd_some hF
          refine rd_l (runS (As := [.int p1, .int p3]) (rest := [.long (x5 * x6)]) X cq_X9_choose lk_X9_209 (c_X9_choose l D cI cJ cZ a ws0 p1 p3 x7 hx7 ) rfl rfl ⟨Nat.le_of_ble_eq_true rfl, Nat.le_of_ble_eq_true rfl⟩ hP rfl hl.1 rfl (Nat.le_of_ble_eq_true rfl) dX9_boards_69 ⟨Nat.le_of_ble_eq_true rfl, Nat.le_of_ble_eq_true rfl⟩) ?_
          refine lv_iload hx hb dX9_boards_72 (lv_at hl 5 rfl) ?_
          obtain ⟨x8, hx8, hF⟩ := bd_some hF
          refine rd_l (runS (As := [.long (x5 * x6), .long x7, .int p5]) (rest := []) X cq_X9_part lk_X9_149 (c_X9_part l D cI cJ cZ a ws0 (x5 * x6) x7 p5 x8 hx8 ) rfl rfl ⟨Nat.le_of_ble_eq_true rfl, Nat.le_of_ble_eq_true rfl⟩ hP rfl hl.1 rfl (Nat.le_of_ble_eq_true rfl) dX9_boards_74 ⟨Nat.le_of_ble_eq_true rfl, Nat.le_of_ble_eq_true rfl⟩) ?_
          obtain rfl := Option.some.inj hF
          rw [hQ]
          exact rt_l X dX9_boards_77
        · replace hF := (if_neg c4).symm.trans hF
          refine lv_ldc2 (v := (-2 : Int64)) hx hb hown (hts _ kl_X9_135) dX9_boards_46 ?_
          obtain rfl := Option.some.inj hF
          rw [hQ]
          exact rt_l X dX9_boards_49
def FX9_span_J109L44 (x15 : Int32) (x16 : Int32) : Option ((Int32 × Int32) ⊕ (Int32)) :=
  some (.inl (x16, x15 + (1 : Int32)))
def FX9_span_J104L44 (x18 : Int32) : Option ((Int32 × Int32) ⊕ (Int32)) :=
  some (.inl (x18, x18 + (1 : Int32)))
def FX9_span_J85L44 (p4 : Int32) (x11 : Int32) (x12 : Int32) (x13 : Int32) : Option ((Int32 × Int32) ⊕ (Int32)) :=
  if x13 = 0 then (FX9_span_J109L44 x11 x12) else (if p4 = 0 then (if x12 = (-9 : Int32) then (FX9_span_J104L44 x11) else (FX9_span_J109L44 x11 x12)) else (FX9_span_J104L44 x11))
def FX9_span_S44 (p1 : Int32) (p2 : Int32) (p3 : Int32) (p4 : Int32) (x4 : Int32) (x5 : Int32) : Option ((Int32 × Int32) ⊕ (Int32)) :=
  if p1 < x5 then (some (.inr x4)) else ((FX9_choose x5 p3).bind fun x7 => (FX9_choose (p1 - x5) (p2 - p3)).bind fun x8 => (FX9_choose p1 p2).bind fun x9 => if (((20 : Int64) * x7) * x8) < x9 then (FX9_span_J85L44 p4 x5 x4 (0 : Int32)) else (FX9_span_J85L44 p4 x5 x4 (1 : Int32)))
def FX9_span (p1 : Int32) (p2 : Int32) (p3 : Int32) (p4 : Int32) : Option (Int32) :=
  if (FX9_in p1.toInt64 (1 : Int64) (30 : Int64)) = true then (if (FX9_in p2.toInt64 (1 : Int64) p1.toInt64) = true then (if (FX9_in p3.toInt64 (0 : Int64) p2.toInt64) = true then ((itr (fun v => FX9_span_S44 p1 p2 p3 p4 v.1 v.2) fu ((-9 : Int32), (0 : Int32))).bind fun o20 => some o20) else (some (-2 : Int32))) else (some (-2 : Int32))) else (some (-2 : Int32))
def rm_X9_span : Room := { frames := 1, cells := 0, slots := 0, locals := 25 }
set_option maxHeartbeats 4000000 in
set_option maxRecDepth 100000 in
theorem c_X9_span (l : Launch) (D : va_G) (cI cJ cZ : ClassId) (a : Nat → Nat) (ws0 : va_W)   (p1 : Int32) (p2 : Int32) (p3 : Int32) (p4 : Int32) (u : Int32) (hF : FX9_span p1 p2 p3 p4 = some u) : Met l yX9_span (wq yX9_span cX9_span 8 (some .int)) rm_X9_span (Pq [.ref (a 35), .int p1, .int p2, .int p3, .int p4] D cI cJ cZ ws0) (Qq (some (.int u))) 0 0 (fun _ => False) := by
  refine mq_of (by decide) (Nat.le_of_ble_eq_true rfl) (fun p e s m args below meth c ls Q hQ X _ hP hl => ?_)
  obtain ⟨hx, hb, hr, hml, hown, hts, hlk, hK, hN⟩ := id X
  have hown : s.vm.findClass RX9 = some m.cls := hown
  have hl : lv_has ls 8 [(0, .ref (a 35)), (1, .int p1), (2, .int p2), (3, .int p3), (4, .int p4)] := hl
  unfold FX9_span at hF
  refine lv_iload_n hx hb dX9_span_0 rfl (lv_at hl 1 rfl) ?_
  refine lv_i2l hx hb dX9_span_1 rfl ?_
  refine lv_lconst (v := (1 : Int64)) hx hb dX9_span_2 (by decide) ?_
  refine lv_ldc2 (v := (30 : Int64)) hx hb hown (hts _ kl_X9_207) dX9_span_3 ?_
  refine rd_i (runS (As := [.long p1.toInt64, .long (1 : Int64), .long (30 : Int64)]) (rest := []) X cq_X9_in lk_X9_66 (c_X9_in l D cI cJ cZ a ws0 p1.toInt64 (1 : Int64) (30 : Int64) _ rfl ) rfl rfl ⟨Nat.le_of_ble_eq_true rfl, Nat.le_of_ble_eq_true rfl⟩ hP rfl hl.1 rfl (Nat.le_of_ble_eq_true rfl) dX9_span_6 ⟨Nat.le_of_ble_eq_true rfl, Nat.le_of_ble_eq_true rfl⟩) ?_
  refine zf_eq (tgt := 34) hx hb dX9_span_9 (by decide) (fun c1 => ?_) (fun c1 => ?_)
  · replace hF := (if_neg c1).symm.trans hF
    refine lv_bipush (v := (-2 : Int32)) hx hb dX9_span_34 (by decide) ?_
    obtain rfl := Option.some.inj hF
    rw [hQ]
    exact rt_i X dX9_span_36
  · replace hF := (if_pos c1).symm.trans hF
    refine lv_iload_n hx hb dX9_span_12 rfl (lv_at hl 2 rfl) ?_
    refine lv_i2l hx hb dX9_span_13 rfl ?_
    refine lv_lconst (v := (1 : Int64)) hx hb dX9_span_14 (by decide) ?_
    refine lv_iload_n hx hb dX9_span_15 rfl (lv_at hl 1 rfl) ?_
    refine lv_i2l hx hb dX9_span_16 rfl ?_
    refine rd_i (runS (As := [.long p2.toInt64, .long (1 : Int64), .long p1.toInt64]) (rest := []) X cq_X9_in lk_X9_66 (c_X9_in l D cI cJ cZ a ws0 p2.toInt64 (1 : Int64) p1.toInt64 _ rfl ) rfl rfl ⟨Nat.le_of_ble_eq_true rfl, Nat.le_of_ble_eq_true rfl⟩ hP rfl hl.1 rfl (Nat.le_of_ble_eq_true rfl) dX9_span_17 ⟨Nat.le_of_ble_eq_true rfl, Nat.le_of_ble_eq_true rfl⟩) ?_
    refine zf_eq (tgt := 34) hx hb dX9_span_20 (by decide) (fun c2 => ?_) (fun c2 => ?_)
    · replace hF := (if_neg c2).symm.trans hF
      refine lv_bipush (v := (-2 : Int32)) hx hb dX9_span_34 (by decide) ?_
      obtain rfl := Option.some.inj hF
      rw [hQ]
      exact rt_i X dX9_span_36
    · replace hF := (if_pos c2).symm.trans hF
      refine lv_iload_n hx hb dX9_span_23 rfl (lv_at hl 3 rfl) ?_
      refine lv_i2l hx hb dX9_span_24 rfl ?_
      refine lv_lconst (v := (0 : Int64)) hx hb dX9_span_25 (by decide) ?_
      refine lv_iload_n hx hb dX9_span_26 rfl (lv_at hl 2 rfl) ?_
      refine lv_i2l hx hb dX9_span_27 rfl ?_
      refine rd_i (runS (As := [.long p3.toInt64, .long (0 : Int64), .long p2.toInt64]) (rest := []) X cq_X9_in lk_X9_66 (c_X9_in l D cI cJ cZ a ws0 p3.toInt64 (0 : Int64) p2.toInt64 _ rfl ) rfl rfl ⟨Nat.le_of_ble_eq_true rfl, Nat.le_of_ble_eq_true rfl⟩ hP rfl hl.1 rfl (Nat.le_of_ble_eq_true rfl) dX9_span_28 ⟨Nat.le_of_ble_eq_true rfl, Nat.le_of_ble_eq_true rfl⟩) ?_
      refine zf_ne (tgt := 37) hx hb dX9_span_31 (by decide) (fun c3 => ?_) (fun c3 => ?_)
      · replace hF := (if_pos c3).symm.trans hF
        refine lv_bipush (v := (-9 : Int32)) hx hb dX9_span_37 (by decide) ?_
        refine lv_istore (lv' := [(5, .int (-9 : Int32)), (0, .ref (a 35)), (1, .int p1), (2, .int p2), (3, .int p3), (4, .int p4)]) hx hb dX9_span_39 hl (by decide) rfl (fun ls hl => ?_)
        refine lv_iconst (v := (0 : Int32)) hx hb dX9_span_41 (by decide) ?_
        refine lv_istore (lv' := [(6, .int (0 : Int32)), (5, .int (-9 : Int32)), (0, .ref (a 35)), (1, .int p1), (2, .int p2), (3, .int p3), (4, .int p4)]) hx hb dX9_span_42 hl (by decide) rfl (fun ls hl => ?_)
        have hL44 : ∀ (nf : Nat) (x4 : Int32) (x5 : Int32) (r : Int32), itr (fun v => FX9_span_S44 p1 p2 p3 p4 v.1 v.2) nf (x4, x5) = some r → ∀ ls, lv_has ls 8 [(6, .int x5), (5, .int x4), (1, .int p1), (2, .int p2), (3, .int p3), (4, .int p4)] → (∀ o : Int32, r = o → ∀ ls, lv_has ls 8 [(5, .int o)] → W p l e rm_X9_span s m args below meth c s.heap [] 0 0 Q (F0 m 119 ls [])) → W p l e rm_X9_span s m args below meth c s.heap [] 0 0 Q (F0 m 44 ls []) := by
          intro nf
          induction nf with
          | zero => intro _ _ r hF; exact (itr_0 hF).elim
          | succ nf ih =>
            intro x4 x5 r hF ls hl hE
            obtain ⟨wo, hF, hw⟩ := itr_s hF
            replace hF : FX9_span_S44 p1 p2 p3 p4 x4 x5 = some wo := hF
            have hJ109 : ∀ (x15 : Int32) (x16 : Int32), ∀ ls, lv_has ls 8 [(6, .int x15), (5, .int x16), (1, .int p1), (2, .int p2), (3, .int p3), (4, .int p4)] → FX9_span_J109L44 x15 x16 = some wo → W p l e rm_X9_span s m args below meth c s.heap [] 0 0 Q (F0 m 109 ls []) := by
              intro x15 x16 ls hl hF
              unfold FX9_span_J109L44 at hF
              refine lv_iload hx hb dX9_span_109 (lv_at hl 1 rfl) ?_
              refine lv_istore (lv' := [(5, .int x16), (6, .int x15), (1, .int p1), (2, .int p2), (3, .int p3), (4, .int p4)]) hx hb dX9_span_111 hl (by decide) rfl (fun ls hl => ?_)
              refine lv_iinc (v := x15 + (1 : Int32)) (lv' := [(6, .int (x15 + (1 : Int32))), (5, .int x16), (1, .int p1), (2, .int p2), (3, .int p3), (4, .int p4)]) hx hb dX9_span_113 hl (k := 1) rfl rfl (by decide) rfl (fun ls hl => ?_)
              refine lv_goto (tgt := 44) hx hb dX9_span_116 (by decide) ?_
              obtain rfl := Option.some.inj hF
              exact ih _ _ _ hw ls (lv_sub hl [0, 1, 2, 3, 4, 5] rfl) hE
            have hJ104 : ∀ (x18 : Int32), ∀ ls, lv_has ls 8 [(6, .int x18), (1, .int p1), (2, .int p2), (3, .int p3), (4, .int p4)] → FX9_span_J104L44 x18 = some wo → W p l e rm_X9_span s m args below meth c s.heap [] 0 0 Q (F0 m 104 ls []) := by
              intro x18 ls hl hF
              unfold FX9_span_J104L44 at hF
              refine lv_iload hx hb dX9_span_104 (lv_at hl 0 rfl) ?_
              refine lv_goto (tgt := 111) hx hb dX9_span_106 (by decide) ?_
              refine lv_istore (lv' := [(5, .int x18), (6, .int x18), (1, .int p1), (2, .int p2), (3, .int p3), (4, .int p4)]) hx hb dX9_span_111 hl (by decide) rfl (fun ls hl => ?_)
              refine lv_iinc (v := x18 + (1 : Int32)) (lv' := [(6, .int (x18 + (1 : Int32))), (5, .int x18), (1, .int p1), (2, .int p2), (3, .int p3), (4, .int p4)]) hx hb dX9_span_113 hl (k := 1) rfl rfl (by decide) rfl (fun ls hl => ?_)
              refine lv_goto (tgt := 44) hx hb dX9_span_116 (by decide) ?_
              obtain rfl := Option.some.inj hF
              exact ih _ _ _ hw ls (lv_sub hl [0, 1, 2, 3, 4, 5] rfl) hE
            have hJ85 : ∀ (x11 : Int32) (x12 : Int32) (x13 : Int32), ∀ ls, lv_has ls 8 [(6, .int x11), (5, .int x12), (1, .int p1), (2, .int p2), (3, .int p3), (4, .int p4)] → FX9_span_J85L44 p4 x11 x12 x13 = some wo → W p l e rm_X9_span s m args below meth c s.heap [] 0 0 Q (F0 m 85 ls [.int x13]) := by
              intro x11 x12 x13 ls hl hF
              unfold FX9_span_J85L44 at hF
              refine lv_istore (lv' := [(7, .int x13), (6, .int x11), (5, .int x12), (1, .int p1), (2, .int p2), (3, .int p3), (4, .int p4)]) hx hb dX9_span_85 hl (by decide) rfl (fun ls hl => ?_)
              refine lv_iload hx hb dX9_span_87 (lv_at hl 0 rfl) ?_
              refine lv_if_eq (tgt := 109) hx hb dX9_span_89 (by decide) (fun c14 => ?_) (fun c14 => ?_)
              · replace hF := (if_pos c14).symm.trans hF
                exact hJ109 x11 x12 ls (lv_sub hl [1, 2, 3, 4, 5, 6] rfl) hF
              · replace hF := (if_neg c14).symm.trans hF
                refine lv_iload hx hb dX9_span_92 (lv_at hl 6 rfl) ?_
                refine lv_if_ne (tgt := 104) hx hb dX9_span_94 (by decide) (fun c17 => ?_) (fun c17 => ?_)
                · replace hF := (if_neg c17).symm.trans hF
                  exact hJ104 x11 ls (lv_sub hl [1, 3, 4, 5, 6] rfl) hF
                · replace hF := (if_pos c17).symm.trans hF
                  refine lv_iload hx hb dX9_span_97 (lv_at hl 2 rfl) ?_
                  refine lv_bipush (v := (-9 : Int32)) hx hb dX9_span_99 (by decide) ?_
                  refine lv_icmp_ne (tgt := 109) hx hb dX9_span_101 (by decide) (fun c19 => ?_) (fun c19 => ?_)
                  · replace hF := (if_neg c19).symm.trans hF
                    exact hJ109 x11 x12 ls (lv_sub hl [1, 2, 3, 4, 5, 6] rfl) hF
                  · replace hF := (if_pos c19).symm.trans hF
                    exact hJ104 x11 ls (lv_sub hl [1, 3, 4, 5, 6] rfl) hF
            unfold FX9_span_S44 at hF
            refine lv_iload hx hb dX9_span_44 (lv_at hl 0 rfl) ?_
            refine lv_iload_n hx hb dX9_span_46 rfl (lv_at hl 2 rfl) ?_
            refine lv_icmp_gt (tgt := 119) hx hb dX9_span_47 (by decide) (fun c6 => ?_) (fun c6 => ?_)
            · replace hF := (if_pos c6).symm.trans hF
              obtain rfl := Option.some.inj hF
              obtain rfl := hw
              exact hE _ rfl ls (lv_sub hl [1] rfl)
            · replace hF := (if_neg c6).symm.trans hF
              refine lv_ldc2 (v := (20 : Int64)) hx hb hown (hts _ kl_X9_213) dX9_span_50 ?_
              refine lv_iload hx hb dX9_span_53 (lv_at hl 0 rfl) ?_
              refine lv_iload_n hx hb dX9_span_55 rfl (lv_at hl 4 rfl) ?_
              obtain ⟨x7, hx7, hF⟩ := bd_some hF
              refine rd_l (runS (As := [.int x5, .int p3]) (rest := [.long (20 : Int64)]) X cq_X9_choose lk_X9_209 (c_X9_choose l D cI cJ cZ a ws0 x5 p3 x7 hx7 ) rfl rfl ⟨Nat.le_of_ble_eq_true rfl, Nat.le_of_ble_eq_true rfl⟩ hP rfl hl.1 rfl (Nat.le_of_ble_eq_true rfl) dX9_span_56 ⟨Nat.le_of_ble_eq_true rfl, Nat.le_of_ble_eq_true rfl⟩) ?_
              refine lv_lmul hx hb dX9_span_59 ?_
              refine lv_iload_n hx hb dX9_span_60 rfl (lv_at hl 2 rfl) ?_
              refine lv_iload hx hb dX9_span_61 (lv_at hl 0 rfl) ?_
              refine lv_isub hx hb dX9_span_63 ?_
              refine lv_iload_n hx hb dX9_span_64 rfl (lv_at hl 3 rfl) ?_
              refine lv_iload_n hx hb dX9_span_65 rfl (lv_at hl 4 rfl) ?_
              refine lv_isub hx hb dX9_span_66 ?_
              obtain ⟨x8, hx8, hF⟩ := bd_some hF
              refine rd_l (runS (As := [.int (p1 - x5), .int (p2 - p3)]) (rest := [.long ((20 : Int64) * x7)]) X cq_X9_choose lk_X9_209 (c_X9_choose l D cI cJ cZ a ws0 (p1 - x5) (p2 - p3) x8 hx8 ) rfl rfl ⟨Nat.le_of_ble_eq_true rfl, Nat.le_of_ble_eq_true rfl⟩ hP rfl hl.1 rfl (Nat.le_of_ble_eq_true rfl) dX9_span_67 ⟨Nat.le_of_ble_eq_true rfl, Nat.le_of_ble_eq_true rfl⟩) ?_
              refine lv_lmul hx hb dX9_span_70 ?_
              refine lv_iload_n hx hb dX9_span_71 rfl (lv_at hl 2 rfl) ?_
              refine lv_iload_n hx hb dX9_span_72 rfl (lv_at hl 3 rfl) ?_
              obtain ⟨x9, hx9, hF⟩ := bd_some hF
              refine rd_l (runS (As := [.int p1, .int p2]) (rest := [.long (((20 : Int64) * x7) * x8)]) X cq_X9_choose lk_X9_209 (c_X9_choose l D cI cJ cZ a ws0 p1 p2 x9 hx9 ) rfl rfl ⟨Nat.le_of_ble_eq_true rfl, Nat.le_of_ble_eq_true rfl⟩ hP rfl hl.1 rfl (Nat.le_of_ble_eq_true rfl) dX9_span_73 ⟨Nat.le_of_ble_eq_true rfl, Nat.le_of_ble_eq_true rfl⟩) ?_
              refine W.lcmp hx hb dX9_span_76 ?_
              refine lv_if_lt (tgt := 84) hx hb dX9_span_77 (by decide) (fun c10 => ?_) (fun c10 => ?_)
              · replace c10 := (lc_lt (((20 : Int64) * x7) * x8) x9).mp c10
                replace hF := (if_pos c10).symm.trans hF
                refine lv_iconst (v := (0 : Int32)) hx hb dX9_span_84 (by decide) ?_
                exact hJ85 x5 x4 (0 : Int32) ls (lv_sub hl [0, 1, 2, 3, 4, 5] rfl) hF
              · replace c10 := fun q => c10 ((lc_lt (((20 : Int64) * x7) * x8) x9).mpr q)
                replace hF := (if_neg c10).symm.trans hF
                refine lv_iconst (v := (1 : Int32)) hx hb dX9_span_80 (by decide) ?_
                refine lv_goto (tgt := 85) hx hb dX9_span_81 (by decide) ?_
                exact hJ85 x5 x4 (1 : Int32) ls (lv_sub hl [0, 1, 2, 3, 4, 5] rfl) hF
        obtain ⟨o20, ho20, hF⟩ := bd_some hF
        refine hL44 fu (-9 : Int32) (0 : Int32) o20 ho20 ls (lv_sub hl [0, 1, 3, 4, 5, 6] rfl) ?_
        intro _ q_o20 ls hl
        subst q_o20
        refine lv_iload hx hb dX9_span_119 (lv_at hl 0 rfl) ?_
        obtain rfl := Option.some.inj hF
        rw [hQ]
        exact rt_i X dX9_span_121
      · replace hF := (if_neg c3).symm.trans hF
        refine lv_bipush (v := (-2 : Int32)) hx hb dX9_span_34 (by decide) ?_
        obtain rfl := Option.some.inj hF
        rw [hQ]
        exact rt_i X dX9_span_36
def FX9_trial (m_trials : Int32) (m_trialHands : Nat → Int32) (m_trialWaited : Nat → Int32) (p1 : Int32) (p2 : Int32) : Option (Int32 × (Nat → Int32) × (Nat → Int32) × Int32) :=
  if (FX9_in p1.toInt64 (0 : Int64) (99 : Int64)) = true then (if m_trials = (10 : Int32) then (some ((-4 : Int32), m_trialHands, m_trialWaited, m_trials)) else (if m_trials < 0 ∨ 10 ≤ m_trials.toNatClampNeg then none else if m_trials < 0 ∨ 10 ≤ m_trials.toNatClampNeg then none else some (m_trials + (1 : Int32), upd m_trialHands m_trials.toNatClampNeg p1, upd m_trialWaited m_trials.toNatClampNeg (vp_nar .boolean p2), m_trials + (1 : Int32)))) else (some ((-2 : Int32), m_trialHands, m_trialWaited, m_trials))
def rm_X9_trial : Room := { frames := 1, cells := 0, slots := 0, locals := 25 }
set_option maxHeartbeats 4000000 in
set_option maxRecDepth 100000 in
theorem c_X9_trial (l : Launch) (D : va_G) (cI cJ cZ : ClassId) (a : Nat → Nat) (ws0 : va_W) (A : Nat → Prop)  (m_readMany : Int32) (m_pupils : Int32) (m_mood : Int32) (m_length : Int32) (m_at : Int32) (m_faultAt : Int32) (m_drawn : Int64) (m_questions : Int32) (m_rights : Int32) (m_wrongs : Int32) (m_tapes : Int32) (m_trials : Int32) (m_trialHands : Nat → Int32) (m_trialWaited : Nat → Int32) (p1 : Int32) (p2 : Int32) (u : Int32 × (Nat → Int32) × (Nat → Int32) × Int32) (hF : FX9_trial m_trials m_trialHands m_trialWaited p1 p2 = some u) (z35 : ws0[35]? = some (a 35, .inr (9, [.ref (a 36), .int m_readMany, .ref (a 37), .int m_pupils, .ref (a 38), .ref (a 39), .int m_mood, .ref (a 40), .int m_length, .int m_at, .int m_faultAt, .ref (a 41), .ref (a 42), .long m_drawn, .int m_questions, .int m_rights, .int m_wrongs, .int m_tapes, .ref (a 43), .ref (a 44), .int m_trials, .ref (a 45), .ref (a 46), .ref (a 47), .ref (a 48), .ref (a 49), .ref (a 50), .ref (a 51)]))) (z45 : ws0[45]? = some (a 45, .inl (cI, 10, .inl m_trialHands))) (z46 : ws0[46]? = some (a 46, .inl (cZ, 10, .inl m_trialWaited))) (hD : va_D A ws0) : Met l yX9_trial (wq yX9_trial cX9_trial 3 (some .int)) rm_X9_trial (Pq [.ref (a 35), .int p1, .int p2] D cI cJ cZ ws0) (Qw D A ws0 [45, 46, 35] (some (.int u.1)) (fun w => w[45]? = some (a 45, .inl (cI, 10, .inl u.2.1)) ∧ w[46]? = some (a 46, .inl (cZ, 10, .inl u.2.2.1)) ∧ w[35]? = some (a 35, .inr (9, [.ref (a 36), .int m_readMany, .ref (a 37), .int m_pupils, .ref (a 38), .ref (a 39), .int m_mood, .ref (a 40), .int m_length, .int m_at, .int m_faultAt, .ref (a 41), .ref (a 42), .long m_drawn, .int m_questions, .int m_rights, .int m_wrongs, .int m_tapes, .ref (a 43), .ref (a 44), .int u.2.2.2, .ref (a 45), .ref (a 46), .ref (a 47), .ref (a 48), .ref (a 49), .ref (a 50), .ref (a 51)])))) 0 0 A := by
  refine mq_of (by decide) (Nat.le_of_ble_eq_true rfl) (fun p e s m args below meth c ls Q hQ X _ hP hl => ?_)
  obtain ⟨hx, hb, hr, hml, hown, hts, hlk, hK, hN⟩ := id X
  have hown : s.vm.findClass RX9 = some m.cls := hown
  have hl : lv_has ls 3 [(0, .ref (a 35)), (1, .int p1), (2, .int p2)] := hl
  have hS : va_S A s.heap s.heap [] := va_S.rf
  have hs : ∀ j : Nat, j ∉ [45, 46, 35] → ws0[j]? = ws0[j]? := fun _ _ => rfl
  have h35 := z35
  have h45 := z45
  have h46 := z46
  unfold FX9_trial at hF
  refine lv_iload_n hx hb dX9_trial_0 rfl (lv_at hl 1 rfl) ?_
  refine lv_i2l hx hb dX9_trial_1 rfl ?_
  refine lv_lconst (v := (0 : Int64)) hx hb dX9_trial_2 (by decide) ?_
  refine lv_ldc2 (v := (99 : Int64)) hx hb hown (hts _ kl_X9_173) dX9_trial_3 ?_
  refine rd_i (runS (As := [.long p1.toInt64, .long (0 : Int64), .long (99 : Int64)]) (rest := []) X cq_X9_in lk_X9_66 (c_X9_in l D cI cJ cZ a ws0 p1.toInt64 (0 : Int64) (99 : Int64) _ rfl ) rfl rfl ⟨Nat.le_of_ble_eq_true rfl, Nat.le_of_ble_eq_true rfl⟩ hP rfl hl.1 rfl (Nat.le_of_ble_eq_true rfl) dX9_trial_6 ⟨Nat.le_of_ble_eq_true rfl, Nat.le_of_ble_eq_true rfl⟩) ?_
  refine zf_ne (tgt := 15) hx hb dX9_trial_9 (by decide) (fun c1 => ?_) (fun c1 => ?_)
  · replace hF := (if_pos c1).symm.trans hF
    refine lv_aload_n hx hb dX9_trial_15 rfl (lv_at hl 0 rfl) ?_
    refine gf_X9_215 hx hb hts hown hK hP h35 dX9_trial_16 ?_
    refine lv_bipush (v := (10 : Int32)) hx hb dX9_trial_19 (by decide) ?_
    refine lv_icmp_ne (tgt := 27) hx hb dX9_trial_21 (by decide) (fun c2 => ?_) (fun c2 => ?_)
    · replace hF := (if_neg c2).symm.trans hF
      refine lv_aload_n hx hb dX9_trial_27 rfl (lv_at hl 0 rfl) ?_
      refine gf_X9_38 hx hb hts hown hK hP h35 dX9_trial_28 ?_
      refine lv_aload_n hx hb dX9_trial_31 rfl (lv_at hl 0 rfl) ?_
      refine gf_X9_215 hx hb hts hown hK hP h35 dX9_trial_32 ?_
      refine lv_iload_n hx hb dX9_trial_35 rfl (lv_at hl 1 rfl) ?_
      obtain ⟨hg3, hF⟩ := gd_some hF
      refine ast_i hx hb hK hP hD hS h45 hg3 dX9_trial_36 (fun w4 H locs hP hD hk hc hS => ?_)
      have h45 : w4[45]? = some (a 45, .inl (cI, 10, .inl (upd m_trialHands m_trials.toNatClampNeg p1))) := hc
      have h35 := (hk 35 (by omega)).trans h35
      have h46 := (hk 46 (by omega)).trans h46
      replace hs := sm_k hk (by simp) hs
      refine lv_aload_n hx hb dX9_trial_37 rfl (lv_at hl 0 rfl) ?_
      refine gf_X9_41 hx hb hts hown hK hP h35 dX9_trial_38 ?_
      refine lv_aload_n hx hb dX9_trial_41 rfl (lv_at hl 0 rfl) ?_
      refine gf_X9_215 hx hb hts hown hK hP h35 dX9_trial_42 ?_
      refine lv_iload_n hx hb dX9_trial_45 rfl (lv_at hl 2 rfl) ?_
      obtain ⟨hg5, hF⟩ := gd_some hF
      refine ast_z hx hb hK hP hD hS h46 hg5 dX9_trial_46 (fun w6 H locs hP hD hk hc hS => ?_)
      have h46 : w6[46]? = some (a 46, .inl (cZ, 10, .inl (upd m_trialWaited m_trials.toNatClampNeg (vp_nar .boolean p2)))) := hc
      have h35 := (hk 35 (by omega)).trans h35
      have h45 := (hk 45 (by omega)).trans h45
      replace hs := sm_k hk (by simp) hs
      refine lv_aload_n hx hb dX9_trial_47 rfl (lv_at hl 0 rfl) ?_
      refine lv_dup hx hb dX9_trial_48 rfl ?_
      refine gf_X9_215 hx hb hts hown hK hP h35 dX9_trial_49 ?_
      refine lv_iconst (v := (1 : Int32)) hx hb dX9_trial_52 (by decide) ?_
      refine lv_iadd hx hb dX9_trial_53 ?_
      refine pf_X9_215 hx hb hts hown hK hP hD hS h35 rfl rfl dX9_trial_54 (fun w7 H locs hP hD hk hc hS => ?_)
      have h35 : w7[35]? = some (a 35, .inr (9, [.ref (a 36), .int m_readMany, .ref (a 37), .int m_pupils, .ref (a 38), .ref (a 39), .int m_mood, .ref (a 40), .int m_length, .int m_at, .int m_faultAt, .ref (a 41), .ref (a 42), .long m_drawn, .int m_questions, .int m_rights, .int m_wrongs, .int m_tapes, .ref (a 43), .ref (a 44), .int (m_trials + (1 : Int32)), .ref (a 45), .ref (a 46), .ref (a 47), .ref (a 48), .ref (a 49), .ref (a 50), .ref (a 51)])) := hc
      have h45 := (hk 45 (by omega)).trans h45
      have h46 := (hk 46 (by omega)).trans h46
      replace hs := sm_k hk (by simp) hs
      refine lv_aload_n hx hb dX9_trial_57 rfl (lv_at hl 0 rfl) ?_
      refine gf_X9_215 hx hb hts hown hK hP h35 dX9_trial_58 ?_
      obtain rfl := Option.some.inj hF
      rw [hQ]
      exact rw_i X hS hP hD hs ⟨h45, h46, h35⟩ dX9_trial_61
    · replace hF := (if_pos c2).symm.trans hF
      refine lv_bipush (v := (-4 : Int32)) hx hb dX9_trial_24 (by decide) ?_
      obtain rfl := Option.some.inj hF
      rw [hQ]
      exact rw_i X hS hP hD hs ⟨h45, h46, h35⟩ dX9_trial_26
  · replace hF := (if_neg c1).symm.trans hF
    refine lv_bipush (v := (-2 : Int32)) hx hb dX9_trial_12 (by decide) ?_
    obtain rfl := Option.some.inj hF
    rw [hQ]
    exact rw_i X hS hP hD hs ⟨h45, h46, h35⟩ dX9_trial_14
def FX9_untrial (m_trials : Int32) : Int32 × Int32 :=
  (m_trials, (0 : Int32))
def rm_X9_untrial : Room := { frames := 0, cells := 0, slots := 0, locals := 0 }
set_option maxHeartbeats 4000000 in
set_option maxRecDepth 100000 in
theorem c_X9_untrial (l : Launch) (D : va_G) (cI cJ cZ : ClassId) (a : Nat → Nat) (ws0 : va_W) (A : Nat → Prop)  (m_readMany : Int32) (m_pupils : Int32) (m_mood : Int32) (m_length : Int32) (m_at : Int32) (m_faultAt : Int32) (m_drawn : Int64) (m_questions : Int32) (m_rights : Int32) (m_wrongs : Int32) (m_tapes : Int32) (m_trials : Int32)  (u : Int32 × Int32) (hF : FX9_untrial m_trials = u) (z35 : ws0[35]? = some (a 35, .inr (9, [.ref (a 36), .int m_readMany, .ref (a 37), .int m_pupils, .ref (a 38), .ref (a 39), .int m_mood, .ref (a 40), .int m_length, .int m_at, .int m_faultAt, .ref (a 41), .ref (a 42), .long m_drawn, .int m_questions, .int m_rights, .int m_wrongs, .int m_tapes, .ref (a 43), .ref (a 44), .int m_trials, .ref (a 45), .ref (a 46), .ref (a 47), .ref (a 48), .ref (a 49), .ref (a 50), .ref (a 51)]))) (hD : va_D A ws0) : Met l yX9_untrial (wq yX9_untrial cX9_untrial 2 (some .int)) rm_X9_untrial (Pq [.ref (a 35)] D cI cJ cZ ws0) (Qw D A ws0 [35] (some (.int u.1)) (fun w => w[35]? = some (a 35, .inr (9, [.ref (a 36), .int m_readMany, .ref (a 37), .int m_pupils, .ref (a 38), .ref (a 39), .int m_mood, .ref (a 40), .int m_length, .int m_at, .int m_faultAt, .ref (a 41), .ref (a 42), .long m_drawn, .int m_questions, .int m_rights, .int m_wrongs, .int m_tapes, .ref (a 43), .ref (a 44), .int u.2, .ref (a 45), .ref (a 46), .ref (a 47), .ref (a 48), .ref (a 49), .ref (a 50), .ref (a 51)])))) 0 0 A := by
  refine mq_of (by decide) (Nat.le_of_ble_eq_true rfl) (fun p e s m args below meth c ls Q hQ X _ hP hl => ?_)
  obtain ⟨hx, hb, hr, hml, hown, hts, hlk, hK, hN⟩ := id X
  have hown : s.vm.findClass RX9 = some m.cls := hown
  have hl : lv_has ls 2 [(0, .ref (a 35))] := hl
  have hS : va_S A s.heap s.heap [] := va_S.rf
  have hs : ∀ j : Nat, j ∉ [35] → ws0[j]? = ws0[j]? := fun _ _ => rfl
  have h35 := z35
  unfold FX9_untrial at hF
  refine lv_aload_n hx hb dX9_untrial_0 rfl (lv_at hl 0 rfl) ?_
  refine gf_X9_215 hx hb hts hown hK hP h35 dX9_untrial_1 ?_
  refine lv_istore_n (lv' := [(1, .int m_trials), (0, .ref (a 35))]) hx hb dX9_untrial_4 rfl hl (by decide) rfl (fun ls hl => ?_)
  refine lv_aload_n hx hb dX9_untrial_5 rfl (lv_at hl 1 rfl) ?_
  refine lv_iconst (v := (0 : Int32)) hx hb dX9_untrial_6 (by decide) ?_
  refine pf_X9_215 hx hb hts hown hK hP hD hS h35 rfl rfl dX9_untrial_7 (fun w1 H locs hP hD hk hc hS => ?_)
  have h35 : w1[35]? = some (a 35, .inr (9, [.ref (a 36), .int m_readMany, .ref (a 37), .int m_pupils, .ref (a 38), .ref (a 39), .int m_mood, .ref (a 40), .int m_length, .int m_at, .int m_faultAt, .ref (a 41), .ref (a 42), .long m_drawn, .int m_questions, .int m_rights, .int m_wrongs, .int m_tapes, .ref (a 43), .ref (a 44), .int (0 : Int32), .ref (a 45), .ref (a 46), .ref (a 47), .ref (a 48), .ref (a 49), .ref (a 50), .ref (a 51)])) := hc
  replace hs := sm_k hk (by simp) hs
  refine lv_iload_n hx hb dX9_untrial_10 rfl (lv_at hl 0 rfl) ?_
  subst hF
  rw [hQ]
  exact rw_i X hS hP hD hs h35 dX9_untrial_11
def FX9_waits_J27L4 (x6 : Int32) (x7 : Int32) (x8 : Int32) : Option ((Int32 × Int32) ⊕ (Int32)) :=
  some (.inl (x7 + x8, x6 + (1 : Int32)))
def FX9_waits_S4 (m_trials : Int32) (m_trialWaited : Nat → Int32) (x1 : Int32) (x2 : Int32) : Option ((Int32 × Int32) ⊕ (Int32)) :=
  if m_trials ≤ x2 then (some (.inr x1)) else (if x2 < 0 ∨ 10 ≤ x2.toNatClampNeg then none else if (m_trialWaited x2.toNatClampNeg) = 0 then (FX9_waits_J27L4 x2 x1 (0 : Int32)) else (FX9_waits_J27L4 x2 x1 (1 : Int32)))
def FX9_waits (m_trials : Int32) (m_trialWaited : Nat → Int32) : Option (Int32) :=
  (itr (fun v => FX9_waits_S4 m_trials m_trialWaited v.1 v.2) fu ((0 : Int32), (0 : Int32))).bind fun o9 => some o9
def rm_X9_waits : Room := { frames := 0, cells := 0, slots := 0, locals := 0 }
set_option maxHeartbeats 4000000 in
set_option maxRecDepth 100000 in
theorem c_X9_waits (l : Launch) (D : va_G) (cI cJ cZ : ClassId) (a : Nat → Nat) (ws0 : va_W)  (m_readMany : Int32) (m_pupils : Int32) (m_mood : Int32) (m_length : Int32) (m_at : Int32) (m_faultAt : Int32) (m_drawn : Int64) (m_questions : Int32) (m_rights : Int32) (m_wrongs : Int32) (m_tapes : Int32) (m_trials : Int32) (m_trialWaited : Nat → Int32)  (u : Int32) (hF : FX9_waits m_trials m_trialWaited = some u) (h35 : ws0[35]? = some (a 35, .inr (9, [.ref (a 36), .int m_readMany, .ref (a 37), .int m_pupils, .ref (a 38), .ref (a 39), .int m_mood, .ref (a 40), .int m_length, .int m_at, .int m_faultAt, .ref (a 41), .ref (a 42), .long m_drawn, .int m_questions, .int m_rights, .int m_wrongs, .int m_tapes, .ref (a 43), .ref (a 44), .int m_trials, .ref (a 45), .ref (a 46), .ref (a 47), .ref (a 48), .ref (a 49), .ref (a 50), .ref (a 51)]))) (h46 : ws0[46]? = some (a 46, .inl (cZ, 10, .inl m_trialWaited))) : Met l yX9_waits (wq yX9_waits cX9_waits 3 (some .int)) rm_X9_waits (Pq [.ref (a 35)] D cI cJ cZ ws0) (Qq (some (.int u))) 0 0 (fun _ => False) := by
  refine mq_of (by decide) (Nat.le_of_ble_eq_true rfl) (fun p e s m args below meth c ls Q hQ X _ hP hl => ?_)
  obtain ⟨hx, hb, hr, hml, hown, hts, hlk, hK, hN⟩ := id X
  have hown : s.vm.findClass RX9 = some m.cls := hown
  have hl : lv_has ls 3 [(0, .ref (a 35))] := hl
  unfold FX9_waits at hF
  refine lv_iconst (v := (0 : Int32)) hx hb dX9_waits_0 (by decide) ?_
  refine lv_istore_n (lv' := [(1, .int (0 : Int32)), (0, .ref (a 35))]) hx hb dX9_waits_1 rfl hl (by decide) rfl (fun ls hl => ?_)
  refine lv_iconst (v := (0 : Int32)) hx hb dX9_waits_2 (by decide) ?_
  refine lv_istore_n (lv' := [(2, .int (0 : Int32)), (1, .int (0 : Int32)), (0, .ref (a 35))]) hx hb dX9_waits_3 rfl hl (by decide) rfl (fun ls hl => ?_)
  have hL4 : ∀ (nf : Nat) (x1 : Int32) (x2 : Int32) (r : Int32), itr (fun v => FX9_waits_S4 m_trials m_trialWaited v.1 v.2) nf (x1, x2) = some r → ∀ ls, lv_has ls 3 [(2, .int x2), (1, .int x1), (0, .ref (a 35))] → (∀ o : Int32, r = o → ∀ ls, lv_has ls 3 [(1, .int o)] → W p l e rm_X9_waits s m args below meth c s.heap [] 0 0 Q (F0 m 35 ls [])) → W p l e rm_X9_waits s m args below meth c s.heap [] 0 0 Q (F0 m 4 ls []) := by
    intro nf
    induction nf with
    | zero => intro _ _ r hF; exact (itr_0 hF).elim
    | succ nf ih =>
      intro x1 x2 r hF ls hl hE
      obtain ⟨wo, hF, hw⟩ := itr_s hF
      replace hF : FX9_waits_S4 m_trials m_trialWaited x1 x2 = some wo := hF
      have hJ27 : ∀ (x6 : Int32) (x7 : Int32) (x8 : Int32), ∀ ls, lv_has ls 3 [(2, .int x6), (0, .ref (a 35))] → FX9_waits_J27L4 x6 x7 x8 = some wo → W p l e rm_X9_waits s m args below meth c s.heap [] 0 0 Q (F0 m 27 ls [.int x8, .int x7]) := by
        intro x6 x7 x8 ls hl hF
        unfold FX9_waits_J27L4 at hF
        refine lv_iadd hx hb dX9_waits_27 ?_
        refine lv_istore_n (lv' := [(1, .int (x7 + x8)), (2, .int x6), (0, .ref (a 35))]) hx hb dX9_waits_28 rfl hl (by decide) rfl (fun ls hl => ?_)
        refine lv_iinc (v := x6 + (1 : Int32)) (lv' := [(2, .int (x6 + (1 : Int32))), (1, .int (x7 + x8)), (0, .ref (a 35))]) hx hb dX9_waits_29 hl (k := 1) rfl rfl (by decide) rfl (fun ls hl => ?_)
        refine lv_goto (tgt := 4) hx hb dX9_waits_32 (by decide) ?_
        obtain rfl := Option.some.inj hF
        exact ih _ _ _ hw ls (lv_sub hl [0, 1, 2] rfl) hE
      unfold FX9_waits_S4 at hF
      refine lv_iload_n hx hb dX9_waits_4 rfl (lv_at hl 0 rfl) ?_
      refine lv_aload_n hx hb dX9_waits_5 rfl (lv_at hl 2 rfl) ?_
      refine gf_X9_215 hx hb hts hown hK hP h35 dX9_waits_6 ?_
      refine lv_icmp_ge (tgt := 35) hx hb dX9_waits_9 (by decide) (fun c3 => ?_) (fun c3 => ?_)
      · replace hF := (if_pos c3).symm.trans hF
        obtain rfl := Option.some.inj hF
        obtain rfl := hw
        exact hE _ rfl ls (lv_sub hl [1] rfl)
      · replace hF := (if_neg c3).symm.trans hF
        refine lv_iload_n hx hb dX9_waits_12 rfl (lv_at hl 1 rfl) ?_
        refine lv_aload_n hx hb dX9_waits_13 rfl (lv_at hl 2 rfl) ?_
        refine gf_X9_41 hx hb hts hown hK hP h35 dX9_waits_14 ?_
        refine lv_iload_n hx hb dX9_waits_17 rfl (lv_at hl 0 rfl) ?_
        obtain ⟨hg4, hF⟩ := gd_some hF
        refine va_zald hx hb hK hP 46 2 h46 rfl hg4 dX9_waits_18 ?_
        refine lv_if_eq (tgt := 26) hx hb dX9_waits_19 (by decide) (fun c5 => ?_) (fun c5 => ?_)
        · replace hF := (if_pos c5).symm.trans hF
          refine lv_iconst (v := (0 : Int32)) hx hb dX9_waits_26 (by decide) ?_
          exact hJ27 x2 x1 (0 : Int32) ls (lv_sub hl [0, 2] rfl) hF
        · replace hF := (if_neg c5).symm.trans hF
          refine lv_iconst (v := (1 : Int32)) hx hb dX9_waits_22 (by decide) ?_
          refine lv_goto (tgt := 27) hx hb dX9_waits_23 (by decide) ?_
          exact hJ27 x2 x1 (1 : Int32) ls (lv_sub hl [0, 2] rfl) hF
  obtain ⟨o9, ho9, hF⟩ := bd_some hF
  refine hL4 fu (0 : Int32) (0 : Int32) o9 ho9 ls (lv_sub hl [0, 1, 2] rfl) ?_
  intro _ q_o9 ls hl
  subst q_o9
  refine lv_iload_n hx hb dX9_waits_35 rfl (lv_at hl 0 rfl) ?_
  obtain rfl := Option.some.inj hF
  rw [hQ]
  exact rt_i X dX9_waits_36
def FX9_chance_J32L4 (x6 : Int32) (x7 : Int32) (x8 : Int32) : Option ((Int32 × Int32) ⊕ (Int32)) :=
  some (.inl (x7 + x8, x6 + (1 : Int32)))
def FX9_chance_S4 (m_trials : Int32) (m_trialWaited : Nat → Int32) (m_trialHands : Nat → Int32) (x1 : Int32) (x2 : Int32) : Option ((Int32 × Int32) ⊕ (Int32)) :=
  if m_trials ≤ x2 then (some (.inr x1)) else (if x2 < 0 ∨ 10 ≤ x2.toNatClampNeg then none else if (m_trialWaited x2.toNatClampNeg) = 0 then (FX9_chance_J32L4 x2 x1 (0 : Int32)) else (if x2 < 0 ∨ 10 ≤ x2.toNatClampNeg then none else FX9_chance_J32L4 x2 x1 (m_trialHands x2.toNatClampNeg)))
def FX9_chance_S65 (m_trials : Int32) (m_trialHands : Nat → Int32) (x13 : Int32) (x15 : Int32) (x16 : Int32) : Option ((Int32 × Int32) ⊕ (Int32)) :=
  if m_trials ≤ x16 then (some (.inr x15)) else (if x16 < 0 ∨ 10 ≤ x16.toNatClampNeg then none else nmb (x15 + (((x13 >>> (x16 &&& 31)) &&& (1 : Int32)) * (m_trialHands x16.toNatClampNeg))) fun y19 => some (.inl (y19, x16 + (1 : Int32))))
def FX9_chance_J150L48 (x40 : Int64) (x41 : Int32) (x42 : Int64) (x43 : Int64) : Option ((Int64 × Int64 × Int32) ⊕ (Int64 × Int64)) :=
  some (.inl (x40, x42 + x43, x41 + (1 : Int32)))
def FX9_chance_J149L48 (x37 : Int64) (x38 : Int32) (x39 : Int64) : Option ((Int64 × Int64 × Int32) ⊕ (Int64 × Int64)) :=
  FX9_chance_J150L48 x37 x38 x39 (0 : Int64)
def FX9_chance_J130L48 (o10 : Int32) (x30 : Int32) (x31 : Int32) (x32 : Int32) (x33 : Int64) (x34 : Int64) (x35 : Int64) : Option ((Int64 × Int64 × Int32) ⊕ (Int64 × Int64)) :=
  if x30 = 0 then (FX9_chance_J149L48 (x34 + x35) x32 x33) else (if x31 < o10 then (FX9_chance_J149L48 (x34 + x35) x32 x33) else (FX9_chance_J150L48 (x34 + x35) x32 x33 (1 : Int64)))
def FX9_chance_J117L48 (o10 : Int32) (x24 : Int32) (x25 : Int32) (x26 : Int64) (x27 : Int64) (x28 : Int32) : Option ((Int64 × Int64 × Int32) ⊕ (Int64 × Int64)) :=
  if x28 = 0 then (FX9_chance_J130L48 o10 x28 x24 x25 x26 x27 (0 : Int64)) else (FX9_chance_J130L48 o10 x28 x24 x25 x26 x27 (1 : Int64))
def FX9_chance_S48 (m_trials : Int32) (m_trialWaited : Nat → Int32) (m_trialHands : Nat → Int32) (o10 : Int32) (x11 : Int64) (x12 : Int64) (x13 : Int32) : Option ((Int64 × Int64 × Int32) ⊕ (Int64 × Int64)) :=
  if ((1 : Int32) <<< (m_trials &&& 31)) ≤ x13 then (some (.inr (x11, x12))) else ((itr (fun v => FX9_chance_S65 m_trials m_trialHands x13 v.1 v.2) fu ((0 : Int32), (0 : Int32))).bind fun o20 => (FX9_ones x13).bind fun x21 => (FX9_waits m_trials m_trialWaited).bind fun x22 => if x21 = x22 then (FX9_chance_J117L48 o10 o20 x13 x12 x11 (1 : Int32)) else (FX9_chance_J117L48 o10 o20 x13 x12 x11 (0 : Int32)))
def FX9_chance (m_trials : Int32) (m_trialWaited : Nat → Int32) (m_trialHands : Nat → Int32) (p1 : Int32) : Option (Int64) :=
  (itr (fun v => FX9_chance_S4 m_trials m_trialWaited m_trialHands v.1 v.2) fu ((0 : Int32), (0 : Int32))).bind fun o10 => (itr (fun v => FX9_chance_S48 m_trials m_trialWaited m_trialHands o10 v.1 v.2.1 v.2.2) fu ((0 : Int64), (0 : Int64), (0 : Int32))).bind fun o45 => (FX9_part o45.2 o45.1 p1).bind fun x46 => some x46
def rm_X9_chance : Room := { frames := 1, cells := 0, slots := 0, locals := 30 }
set_option maxHeartbeats 4000000 in
set_option maxRecDepth 100000 in
theorem c_X9_chance (l : Launch) (D : va_G) (cI cJ cZ : ClassId) (a : Nat → Nat) (ws0 : va_W)  (m_readMany : Int32) (m_pupils : Int32) (m_mood : Int32) (m_length : Int32) (m_at : Int32) (m_faultAt : Int32) (m_drawn : Int64) (m_questions : Int32) (m_rights : Int32) (m_wrongs : Int32) (m_tapes : Int32) (m_trials : Int32) (m_trialWaited : Nat → Int32) (m_trialHands : Nat → Int32) (p1 : Int32) (u : Int64) (hF : FX9_chance m_trials m_trialWaited m_trialHands p1 = some u) (h35 : ws0[35]? = some (a 35, .inr (9, [.ref (a 36), .int m_readMany, .ref (a 37), .int m_pupils, .ref (a 38), .ref (a 39), .int m_mood, .ref (a 40), .int m_length, .int m_at, .int m_faultAt, .ref (a 41), .ref (a 42), .long m_drawn, .int m_questions, .int m_rights, .int m_wrongs, .int m_tapes, .ref (a 43), .ref (a 44), .int m_trials, .ref (a 45), .ref (a 46), .ref (a 47), .ref (a 48), .ref (a 49), .ref (a 50), .ref (a 51)]))) (h45 : ws0[45]? = some (a 45, .inl (cI, 10, .inl m_trialHands))) (h46 : ws0[46]? = some (a 46, .inl (cZ, 10, .inl m_trialWaited))) : Met l yX9_chance (wq yX9_chance cX9_chance 10 (some .long)) rm_X9_chance (Pq [.ref (a 35), .int p1] D cI cJ cZ ws0) (Qq (some (.long u))) 0 0 (fun _ => False) := by
  refine mq_of (by decide) (Nat.le_of_ble_eq_true rfl) (fun p e s m args below meth c ls Q hQ X _ hP hl => ?_)
  obtain ⟨hx, hb, hr, hml, hown, hts, hlk, hK, hN⟩ := id X
  have hown : s.vm.findClass RX9 = some m.cls := hown
  have hl : lv_has ls 10 [(0, .ref (a 35)), (1, .int p1)] := hl
  unfold FX9_chance at hF
  refine lv_iconst (v := (0 : Int32)) hx hb dX9_chance_0 (by decide) ?_
  refine lv_istore_n (lv' := [(2, .int (0 : Int32)), (0, .ref (a 35)), (1, .int p1)]) hx hb dX9_chance_1 rfl hl (by decide) rfl (fun ls hl => ?_)
  refine lv_iconst (v := (0 : Int32)) hx hb dX9_chance_2 (by decide) ?_
  refine lv_istore_n (lv' := [(3, .int (0 : Int32)), (2, .int (0 : Int32)), (0, .ref (a 35)), (1, .int p1)]) hx hb dX9_chance_3 rfl hl (by decide) rfl (fun ls hl => ?_)
  have hL4 : ∀ (nf : Nat) (x1 : Int32) (x2 : Int32) (r : Int32), itr (fun v => FX9_chance_S4 m_trials m_trialWaited m_trialHands v.1 v.2) nf (x1, x2) = some r → ∀ ls, lv_has ls 10 [(3, .int x2), (2, .int x1), (0, .ref (a 35)), (1, .int p1)] → (∀ o : Int32, r = o → ∀ ls, lv_has ls 10 [(2, .int o), (0, .ref (a 35)), (1, .int p1)] → W p l e rm_X9_chance s m args below meth c s.heap [] 0 0 Q (F0 m 40 ls [])) → W p l e rm_X9_chance s m args below meth c s.heap [] 0 0 Q (F0 m 4 ls []) := by
    intro nf
    induction nf with
    | zero => intro _ _ r hF; exact (itr_0 hF).elim
    | succ nf ih =>
      intro x1 x2 r hF ls hl hE
      obtain ⟨wo, hF, hw⟩ := itr_s hF
      replace hF : FX9_chance_S4 m_trials m_trialWaited m_trialHands x1 x2 = some wo := hF
      have hJ32 : ∀ (x6 : Int32) (x7 : Int32) (x8 : Int32), ∀ ls, lv_has ls 10 [(3, .int x6), (0, .ref (a 35)), (1, .int p1)] → FX9_chance_J32L4 x6 x7 x8 = some wo → W p l e rm_X9_chance s m args below meth c s.heap [] 0 0 Q (F0 m 32 ls [.int x8, .int x7]) := by
        intro x6 x7 x8 ls hl hF
        unfold FX9_chance_J32L4 at hF
        refine lv_iadd hx hb dX9_chance_32 ?_
        refine lv_istore_n (lv' := [(2, .int (x7 + x8)), (3, .int x6), (0, .ref (a 35)), (1, .int p1)]) hx hb dX9_chance_33 rfl hl (by decide) rfl (fun ls hl => ?_)
        refine lv_iinc (v := x6 + (1 : Int32)) (lv' := [(3, .int (x6 + (1 : Int32))), (2, .int (x7 + x8)), (0, .ref (a 35)), (1, .int p1)]) hx hb dX9_chance_34 hl (k := 1) rfl rfl (by decide) rfl (fun ls hl => ?_)
        refine lv_goto (tgt := 4) hx hb dX9_chance_37 (by decide) ?_
        obtain rfl := Option.some.inj hF
        exact ih _ _ _ hw ls (lv_sub hl [0, 1, 2, 3] rfl) hE
      unfold FX9_chance_S4 at hF
      refine lv_iload_n hx hb dX9_chance_4 rfl (lv_at hl 0 rfl) ?_
      refine lv_aload_n hx hb dX9_chance_5 rfl (lv_at hl 2 rfl) ?_
      refine gf_X9_215 hx hb hts hown hK hP h35 dX9_chance_6 ?_
      refine lv_icmp_ge (tgt := 40) hx hb dX9_chance_9 (by decide) (fun c3 => ?_) (fun c3 => ?_)
      · replace hF := (if_pos c3).symm.trans hF
        obtain rfl := Option.some.inj hF
        obtain rfl := hw
        exact hE _ rfl ls (lv_sub hl [1, 2, 3] rfl)
      · replace hF := (if_neg c3).symm.trans hF
        refine lv_iload_n hx hb dX9_chance_12 rfl (lv_at hl 1 rfl) ?_
        refine lv_aload_n hx hb dX9_chance_13 rfl (lv_at hl 2 rfl) ?_
        refine gf_X9_41 hx hb hts hown hK hP h35 dX9_chance_14 ?_
        refine lv_iload_n hx hb dX9_chance_17 rfl (lv_at hl 0 rfl) ?_
        obtain ⟨hg4, hF⟩ := gd_some hF
        refine va_zald hx hb hK hP 46 2 h46 rfl hg4 dX9_chance_18 ?_
        refine lv_if_eq (tgt := 31) hx hb dX9_chance_19 (by decide) (fun c5 => ?_) (fun c5 => ?_)
        · replace hF := (if_pos c5).symm.trans hF
          refine lv_iconst (v := (0 : Int32)) hx hb dX9_chance_31 (by decide) ?_
          exact hJ32 x2 x1 (0 : Int32) ls (lv_sub hl [0, 2, 3] rfl) hF
        · replace hF := (if_neg c5).symm.trans hF
          refine lv_aload_n hx hb dX9_chance_22 rfl (lv_at hl 2 rfl) ?_
          refine gf_X9_38 hx hb hts hown hK hP h35 dX9_chance_23 ?_
          refine lv_iload_n hx hb dX9_chance_26 rfl (lv_at hl 0 rfl) ?_
          obtain ⟨hg9, hF⟩ := gd_some hF
          refine va_iald hx hb hK hP 45 0 h45 rfl hg9 dX9_chance_27 ?_
          refine lv_goto (tgt := 32) hx hb dX9_chance_28 (by decide) ?_
          exact hJ32 x2 x1 (m_trialHands x2.toNatClampNeg) ls (lv_sub hl [0, 2, 3] rfl) hF
  obtain ⟨o10, ho10, hF⟩ := bd_some hF
  refine hL4 fu (0 : Int32) (0 : Int32) o10 ho10 ls (lv_sub hl [0, 1, 2, 3] rfl) ?_
  intro _ q_o10 ls hl
  subst q_o10
  refine lv_lconst (v := (0 : Int64)) hx hb dX9_chance_40 (by decide) ?_
  refine lv_lstore_n (lv' := [(3, .long (0 : Int64)), (2, .int o10), (0, .ref (a 35)), (1, .int p1)]) hx hb dX9_chance_41 rfl hl (by decide) rfl (fun ls hl => ?_)
  refine lv_lconst (v := (0 : Int64)) hx hb dX9_chance_42 (by decide) ?_
  refine lv_lstore (lv' := [(5, .long (0 : Int64)), (3, .long (0 : Int64)), (2, .int o10), (0, .ref (a 35)), (1, .int p1)]) hx hb dX9_chance_43 hl (by decide) rfl (fun ls hl => ?_)
  refine lv_iconst (v := (0 : Int32)) hx hb dX9_chance_45 (by decide) ?_
  refine lv_istore (lv' := [(7, .int (0 : Int32)), (5, .long (0 : Int64)), (3, .long (0 : Int64)), (2, .int o10), (0, .ref (a 35)), (1, .int p1)]) hx hb dX9_chance_46 hl (by decide) rfl (fun ls hl => ?_)
  have hL48 : ∀ (nf : Nat) (x11 : Int64) (x12 : Int64) (x13 : Int32) (r : Int64 × Int64), itr (fun v => FX9_chance_S48 m_trials m_trialWaited m_trialHands o10 v.1 v.2.1 v.2.2) nf (x11, x12, x13) = some r → ∀ ls, lv_has ls 10 [(7, .int x13), (5, .long x12), (3, .long x11), (2, .int o10), (0, .ref (a 35)), (1, .int p1)] → (∀ o : Int64 × Int64, r = o → ∀ ls, lv_has ls 10 [(5, .long o.2), (3, .long o.1), (1, .int p1)] → W p l e rm_X9_chance s m args below meth c s.heap [] 0 0 Q (F0 m 159 ls [])) → W p l e rm_X9_chance s m args below meth c s.heap [] 0 0 Q (F0 m 48 ls []) := by
    intro nf
    induction nf with
    | zero => intro _ _ _ r hF; exact (itr_0 hF).elim
    | succ nf ih =>
      intro x11 x12 x13 r hF ls hl hE
      obtain ⟨wo, hF, hw⟩ := itr_s hF
      replace hF : FX9_chance_S48 m_trials m_trialWaited m_trialHands o10 x11 x12 x13 = some wo := hF
      have hJ150 : ∀ (x40 : Int64) (x41 : Int32) (x42 : Int64) (x43 : Int64), ∀ ls, lv_has ls 10 [(3, .long x40), (7, .int x41), (2, .int o10), (0, .ref (a 35)), (1, .int p1)] → FX9_chance_J150L48 x40 x41 x42 x43 = some wo → W p l e rm_X9_chance s m args below meth c s.heap [] 0 0 Q (F0 m 150 ls [.long x43, .long x42]) := by
        intro x40 x41 x42 x43 ls hl hF
        unfold FX9_chance_J150L48 at hF
        refine lv_ladd hx hb dX9_chance_150 ?_
        refine lv_lstore (lv' := [(5, .long (x42 + x43)), (3, .long x40), (7, .int x41), (2, .int o10), (0, .ref (a 35)), (1, .int p1)]) hx hb dX9_chance_151 hl (by decide) rfl (fun ls hl => ?_)
        refine lv_iinc (v := x41 + (1 : Int32)) (lv' := [(7, .int (x41 + (1 : Int32))), (5, .long (x42 + x43)), (3, .long x40), (2, .int o10), (0, .ref (a 35)), (1, .int p1)]) hx hb dX9_chance_153 hl (k := 2) rfl rfl (by decide) rfl (fun ls hl => ?_)
        refine lv_goto (tgt := 48) hx hb dX9_chance_156 (by decide) ?_
        obtain rfl := Option.some.inj hF
        exact ih _ _ _ _ hw ls (lv_sub hl [0, 1, 2, 3, 4, 5] rfl) hE
      have hJ149 : ∀ (x37 : Int64) (x38 : Int32) (x39 : Int64), ∀ ls, lv_has ls 10 [(3, .long x37), (7, .int x38), (2, .int o10), (0, .ref (a 35)), (1, .int p1)] → FX9_chance_J149L48 x37 x38 x39 = some wo → W p l e rm_X9_chance s m args below meth c s.heap [] 0 0 Q (F0 m 149 ls [.long x39]) := by
        intro x37 x38 x39 ls hl hF
        unfold FX9_chance_J149L48 at hF
        refine lv_lconst (v := (0 : Int64)) hx hb dX9_chance_149 (by decide) ?_
        exact hJ150 x37 x38 x39 (0 : Int64) ls (lv_sub hl [0, 1, 2, 3, 4] rfl) hF
      have hJ130 : ∀ (x30 : Int32) (x31 : Int32) (x32 : Int32) (x33 : Int64) (x34 : Int64) (x35 : Int64), ∀ ls, lv_has ls 10 [(9, .int x30), (8, .int x31), (7, .int x32), (5, .long x33), (2, .int o10), (0, .ref (a 35)), (1, .int p1)] → FX9_chance_J130L48 o10 x30 x31 x32 x33 x34 x35 = some wo → W p l e rm_X9_chance s m args below meth c s.heap [] 0 0 Q (F0 m 130 ls [.long x35, .long x34]) := by
        intro x30 x31 x32 x33 x34 x35 ls hl hF
        unfold FX9_chance_J130L48 at hF
        refine lv_ladd hx hb dX9_chance_130 ?_
        refine lv_lstore_n (lv' := [(3, .long (x34 + x35)), (9, .int x30), (8, .int x31), (7, .int x32), (5, .long x33), (2, .int o10), (0, .ref (a 35)), (1, .int p1)]) hx hb dX9_chance_131 rfl hl (by decide) rfl (fun ls hl => ?_)
        refine lv_lload hx hb dX9_chance_132 (lv_at hl 4 rfl) ?_
        refine lv_iload hx hb dX9_chance_134 (lv_at hl 1 rfl) ?_
        refine lv_if_eq (tgt := 149) hx hb dX9_chance_136 (by decide) (fun c36 => ?_) (fun c36 => ?_)
        · replace hF := (if_pos c36).symm.trans hF
          exact hJ149 (x34 + x35) x32 x33 ls (lv_sub hl [0, 3, 5, 6, 7] rfl) hF
        · replace hF := (if_neg c36).symm.trans hF
          refine lv_iload hx hb dX9_chance_139 (lv_at hl 2 rfl) ?_
          refine lv_iload_n hx hb dX9_chance_141 rfl (lv_at hl 5 rfl) ?_
          refine lv_icmp_lt (tgt := 149) hx hb dX9_chance_142 (by decide) (fun c44 => ?_) (fun c44 => ?_)
          · replace hF := (if_pos c44).symm.trans hF
            exact hJ149 (x34 + x35) x32 x33 ls (lv_sub hl [0, 3, 5, 6, 7] rfl) hF
          · replace hF := (if_neg c44).symm.trans hF
            refine lv_lconst (v := (1 : Int64)) hx hb dX9_chance_145 (by decide) ?_
            refine lv_goto (tgt := 150) hx hb dX9_chance_146 (by decide) ?_
            exact hJ150 (x34 + x35) x32 x33 (1 : Int64) ls (lv_sub hl [0, 3, 5, 6, 7] rfl) hF
      have hJ117 : ∀ (x24 : Int32) (x25 : Int32) (x26 : Int64) (x27 : Int64) (x28 : Int32), ∀ ls, lv_has ls 10 [(8, .int x24), (7, .int x25), (5, .long x26), (3, .long x27), (2, .int o10), (0, .ref (a 35)), (1, .int p1)] → FX9_chance_J117L48 o10 x24 x25 x26 x27 x28 = some wo → W p l e rm_X9_chance s m args below meth c s.heap [] 0 0 Q (F0 m 117 ls [.int x28]) := by
        intro x24 x25 x26 x27 x28 ls hl hF
        unfold FX9_chance_J117L48 at hF
        refine lv_istore (lv' := [(9, .int x28), (8, .int x24), (7, .int x25), (5, .long x26), (3, .long x27), (2, .int o10), (0, .ref (a 35)), (1, .int p1)]) hx hb dX9_chance_117 hl (by decide) rfl (fun ls hl => ?_)
        refine lv_lload_n hx hb dX9_chance_119 rfl (lv_at hl 4 rfl) ?_
        refine lv_iload hx hb dX9_chance_120 (lv_at hl 0 rfl) ?_
        refine lv_if_eq (tgt := 129) hx hb dX9_chance_122 (by decide) (fun c29 => ?_) (fun c29 => ?_)
        · replace hF := (if_pos c29).symm.trans hF
          refine lv_lconst (v := (0 : Int64)) hx hb dX9_chance_129 (by decide) ?_
          exact hJ130 x28 x24 x25 x26 x27 (0 : Int64) ls (lv_sub hl [0, 1, 2, 3, 5, 6, 7] rfl) hF
        · replace hF := (if_neg c29).symm.trans hF
          refine lv_lconst (v := (1 : Int64)) hx hb dX9_chance_125 (by decide) ?_
          refine lv_goto (tgt := 130) hx hb dX9_chance_126 (by decide) ?_
          exact hJ130 x28 x24 x25 x26 x27 (1 : Int64) ls (lv_sub hl [0, 1, 2, 3, 5, 6, 7] rfl) hF
      unfold FX9_chance_S48 at hF
      refine lv_iload hx hb dX9_chance_48 (lv_at hl 0 rfl) ?_
      refine lv_iconst (v := (1 : Int32)) hx hb dX9_chance_50 (by decide) ?_
      refine lv_aload_n hx hb dX9_chance_51 rfl (lv_at hl 4 rfl) ?_
      refine gf_X9_215 hx hb hts hown hK hP h35 dX9_chance_52 ?_
      refine lv_ishl hx hb dX9_chance_55 ?_
      refine lv_icmp_ge (tgt := 159) hx hb dX9_chance_56 (by decide) (fun c14 => ?_) (fun c14 => ?_)
      · replace hF := (if_pos c14).symm.trans hF
        obtain rfl := Option.some.inj hF
        obtain rfl := hw
        exact hE _ rfl ls (lv_sub hl [1, 2, 5] rfl)
      · replace hF := (if_neg c14).symm.trans hF
        refine lv_iconst (v := (0 : Int32)) hx hb dX9_chance_59 (by decide) ?_
        refine lv_istore (lv' := [(8, .int (0 : Int32)), (7, .int x13), (5, .long x12), (3, .long x11), (2, .int o10), (0, .ref (a 35)), (1, .int p1)]) hx hb dX9_chance_60 hl (by decide) rfl (fun ls hl => ?_)
        refine lv_iconst (v := (0 : Int32)) hx hb dX9_chance_62 (by decide) ?_
        refine lv_istore (lv' := [(9, .int (0 : Int32)), (8, .int (0 : Int32)), (7, .int x13), (5, .long x12), (3, .long x11), (2, .int o10), (0, .ref (a 35)), (1, .int p1)]) hx hb dX9_chance_63 hl (by decide) rfl (fun ls hl => ?_)
        have hL65 : ∀ (nf : Nat) (x15 : Int32) (x16 : Int32) (r : Int32), itr (fun v => FX9_chance_S65 m_trials m_trialHands x13 v.1 v.2) nf (x15, x16) = some r → ∀ ls, lv_has ls 10 [(9, .int x16), (8, .int x15), (7, .int x13), (5, .long x12), (3, .long x11), (2, .int o10), (0, .ref (a 35)), (1, .int p1)] → (∀ o : Int32, r = o → ∀ ls, lv_has ls 10 [(8, .int o), (7, .int x13), (5, .long x12), (3, .long x11), (2, .int o10), (0, .ref (a 35)), (1, .int p1)] → W p l e rm_X9_chance s m args below meth c s.heap [] 0 0 Q (F0 m 100 ls [])) → W p l e rm_X9_chance s m args below meth c s.heap [] 0 0 Q (F0 m 65 ls []) := by
          intro nf
          induction nf with
          | zero => intro _ _ r hF; exact (itr_0 hF).elim
          | succ nf ih =>
            intro x15 x16 r hF ls hl hE
            obtain ⟨wo, hF, hw⟩ := itr_s hF
            replace hF : FX9_chance_S65 m_trials m_trialHands x13 x15 x16 = some wo := hF
            unfold FX9_chance_S65 at hF
            refine lv_iload hx hb dX9_chance_65 (lv_at hl 0 rfl) ?_
            refine lv_aload_n hx hb dX9_chance_67 rfl (lv_at hl 6 rfl) ?_
            refine gf_X9_215 hx hb hts hown hK hP h35 dX9_chance_68 ?_
            refine lv_icmp_ge (tgt := 100) hx hb dX9_chance_71 (by decide) (fun c17 => ?_) (fun c17 => ?_)
            · replace hF := (if_pos c17).symm.trans hF
              obtain rfl := Option.some.inj hF
              obtain rfl := hw
              exact hE _ rfl ls (lv_sub hl [1, 2, 3, 4, 5, 6, 7] rfl)
            · replace hF := (if_neg c17).symm.trans hF
              refine lv_iload hx hb dX9_chance_74 (lv_at hl 1 rfl) ?_
              refine lv_iload hx hb dX9_chance_76 (lv_at hl 2 rfl) ?_
              refine lv_iload hx hb dX9_chance_78 (lv_at hl 0 rfl) ?_
              refine lv_ishr hx hb dX9_chance_80 ?_
              refine lv_iconst (v := (1 : Int32)) hx hb dX9_chance_81 (by decide) ?_
              refine lv_iand hx hb dX9_chance_82 ?_
              refine lv_aload_n hx hb dX9_chance_83 rfl (lv_at hl 6 rfl) ?_
              refine gf_X9_38 hx hb hts hown hK hP h35 dX9_chance_84 ?_
              refine lv_iload hx hb dX9_chance_87 (lv_at hl 0 rfl) ?_
              obtain ⟨hg18, hF⟩ := gd_some hF
              refine va_iald hx hb hK hP 45 0 h45 rfl hg18 dX9_chance_89 ?_
              refine lv_imul hx hb dX9_chance_90 ?_
              refine lv_iadd hx hb dX9_chance_91 ?_
              refine lv_topi (fun y19 e_y19 => ?_)
              replace hF := nm_at hF e_y19
              refine lv_istore (lv' := [(8, .int y19), (9, .int x16), (7, .int x13), (5, .long x12), (3, .long x11), (2, .int o10), (0, .ref (a 35)), (1, .int p1)]) hx hb dX9_chance_92 hl (by decide) rfl (fun ls hl => ?_)
              refine lv_iinc (v := x16 + (1 : Int32)) (lv' := [(9, .int (x16 + (1 : Int32))), (8, .int y19), (7, .int x13), (5, .long x12), (3, .long x11), (2, .int o10), (0, .ref (a 35)), (1, .int p1)]) hx hb dX9_chance_94 hl (k := 1) rfl rfl (by decide) rfl (fun ls hl => ?_)
              refine lv_goto (tgt := 65) hx hb dX9_chance_97 (by decide) ?_
              obtain rfl := Option.some.inj hF
              exact ih _ _ _ hw ls (lv_sub hl [0, 1, 2, 3, 4, 5, 6, 7] rfl) hE
        obtain ⟨o20, ho20, hF⟩ := bd_some hF
        refine hL65 fu (0 : Int32) (0 : Int32) o20 ho20 ls (lv_sub hl [0, 1, 2, 3, 4, 5, 6, 7] rfl) ?_
        intro _ q_o20 ls hl
        subst q_o20
        refine lv_iload hx hb dX9_chance_100 (lv_at hl 1 rfl) ?_
        obtain ⟨x21, hx21, hF⟩ := bd_some hF
        refine rd_i (runS (As := [.int x13]) (rest := []) X cq_X9_ones lk_X9_185 (c_X9_ones l D cI cJ cZ a ws0 x13 x21 hx21 ) rfl rfl ⟨Nat.le_of_ble_eq_true rfl, Nat.le_of_ble_eq_true rfl⟩ hP rfl hl.1 rfl (Nat.le_of_ble_eq_true rfl) dX9_chance_102 ⟨Nat.le_of_ble_eq_true rfl, Nat.le_of_ble_eq_true rfl⟩) ?_
        refine lv_aload_n hx hb dX9_chance_105 rfl (lv_at hl 5 rfl) ?_
        obtain ⟨x22, hx22, hF⟩ := bd_some hF
        refine rd_i (runV (As := []) (rest := [.int x21]) X cq_X9_waits lk_X9_218 (c_X9_waits l D cI cJ cZ a ws0 m_readMany m_pupils m_mood m_length m_at m_faultAt m_drawn m_questions m_rights m_wrongs m_tapes m_trials m_trialWaited x22 hx22 h35 h46) rfl rfl ⟨Nat.le_of_ble_eq_true rfl, Nat.le_of_ble_eq_true rfl⟩ hP h35 rfl rfl hl.1 rfl (Nat.le_of_ble_eq_true rfl) dX9_chance_106 ⟨Nat.le_of_ble_eq_true rfl, Nat.le_of_ble_eq_true rfl⟩) ?_
        refine lv_icmp_ne (tgt := 116) hx hb dX9_chance_109 (by decide) (fun c23 => ?_) (fun c23 => ?_)
        · replace hF := (if_neg c23).symm.trans hF
          refine lv_iconst (v := (0 : Int32)) hx hb dX9_chance_116 (by decide) ?_
          exact hJ117 o20 x13 x12 x11 (0 : Int32) ls (lv_sub hl [0, 1, 2, 3, 4, 5, 6] rfl) hF
        · replace hF := (if_pos c23).symm.trans hF
          refine lv_iconst (v := (1 : Int32)) hx hb dX9_chance_112 (by decide) ?_
          refine lv_goto (tgt := 117) hx hb dX9_chance_113 (by decide) ?_
          exact hJ117 o20 x13 x12 x11 (1 : Int32) ls (lv_sub hl [0, 1, 2, 3, 4, 5, 6] rfl) hF
  obtain ⟨o45, ho45, hF⟩ := bd_some hF
  refine hL48 fu (0 : Int64) (0 : Int64) (0 : Int32) o45 ho45 ls (lv_sub hl [0, 1, 2, 3, 4, 5] rfl) ?_
  intro _ q_o45 ls hl
  subst q_o45
  refine lv_lload hx hb dX9_chance_159 (lv_at hl 0 rfl) ?_
  refine lv_lload_n hx hb dX9_chance_161 rfl (lv_at hl 1 rfl) ?_
  refine lv_iload_n hx hb dX9_chance_162 rfl (lv_at hl 2 rfl) ?_
  obtain ⟨x46, hx46, hF⟩ := bd_some hF
  refine rd_l (runS (As := [.long o45.2, .long o45.1, .int p1]) (rest := []) X cq_X9_part lk_X9_149 (c_X9_part l D cI cJ cZ a ws0 o45.2 o45.1 p1 x46 hx46 ) rfl rfl ⟨Nat.le_of_ble_eq_true rfl, Nat.le_of_ble_eq_true rfl⟩ hP rfl hl.1 rfl (Nat.le_of_ble_eq_true rfl) dX9_chance_163 ⟨Nat.le_of_ble_eq_true rfl, Nat.le_of_ble_eq_true rfl⟩) ?_
  obtain rfl := Option.some.inj hF
  rw [hQ]
  exact rt_l X dX9_chance_166
def FX9_until_S21 (p1 : Int32) (x2 : Int64) (x3 : Int32) : Option ((Int64 × Int32) ⊕ (Int64)) :=
  if p1 < x3 then (some (.inr x2)) else (if x3.toInt64 = 0 then none else some (.inl (x2 + (p1.toInt64 * ((27720 : Int64) / x3.toInt64)), x3 + (1 : Int32))))
def FX9_until (p1 : Int32) (p2 : Int32) : Option (Int64) :=
  if (FX9_in p1.toInt64 (1 : Int64) (12 : Int64)) = true then ((itr (fun v => FX9_until_S21 p1 v.1 v.2) fu ((0 : Int64), (1 : Int32))).bind fun o6 => (FX9_part o6 (27720 : Int64) p2).bind fun x7 => some x7) else (some (-2 : Int64))
def rm_X9_until : Room := { frames := 1, cells := 0, slots := 0, locals := 30 }
set_option maxHeartbeats 4000000 in
set_option maxRecDepth 100000 in
theorem c_X9_until (l : Launch) (D : va_G) (cI cJ cZ : ClassId) (a : Nat → Nat) (ws0 : va_W)   (p1 : Int32) (p2 : Int32) (u : Int64) (hF : FX9_until p1 p2 = some u) : Met l yX9_until (wq yX9_until cX9_until 6 (some .long)) rm_X9_until (Pq [.ref (a 35), .int p1, .int p2] D cI cJ cZ ws0) (Qq (some (.long u))) 0 0 (fun _ => False) := by
  refine mq_of (by decide) (Nat.le_of_ble_eq_true rfl) (fun p e s m args below meth c ls Q hQ X _ hP hl => ?_)
  obtain ⟨hx, hb, hr, hml, hown, hts, hlk, hK, hN⟩ := id X
  have hown : s.vm.findClass RX9 = some m.cls := hown
  have hl : lv_has ls 6 [(0, .ref (a 35)), (1, .int p1), (2, .int p2)] := hl
  unfold FX9_until at hF
  refine lv_iload_n hx hb dX9_until_0 rfl (lv_at hl 1 rfl) ?_
  refine lv_i2l hx hb dX9_until_1 rfl ?_
  refine lv_lconst (v := (1 : Int64)) hx hb dX9_until_2 (by decide) ?_
  refine lv_ldc2 (v := (12 : Int64)) hx hb hown (hts _ kl_X9_133) dX9_until_3 ?_
  refine rd_i (runS (As := [.long p1.toInt64, .long (1 : Int64), .long (12 : Int64)]) (rest := []) X cq_X9_in lk_X9_66 (c_X9_in l D cI cJ cZ a ws0 p1.toInt64 (1 : Int64) (12 : Int64) _ rfl ) rfl rfl ⟨Nat.le_of_ble_eq_true rfl, Nat.le_of_ble_eq_true rfl⟩ hP rfl hl.1 rfl (Nat.le_of_ble_eq_true rfl) dX9_until_6 ⟨Nat.le_of_ble_eq_true rfl, Nat.le_of_ble_eq_true rfl⟩) ?_
  refine zf_ne (tgt := 16) hx hb dX9_until_9 (by decide) (fun c1 => ?_) (fun c1 => ?_)
  · replace hF := (if_pos c1).symm.trans hF
    refine lv_lconst (v := (0 : Int64)) hx hb dX9_until_16 (by decide) ?_
    refine lv_lstore_n (lv' := [(3, .long (0 : Int64)), (0, .ref (a 35)), (1, .int p1), (2, .int p2)]) hx hb dX9_until_17 rfl hl (by decide) rfl (fun ls hl => ?_)
    refine lv_iconst (v := (1 : Int32)) hx hb dX9_until_18 (by decide) ?_
    refine lv_istore (lv' := [(5, .int (1 : Int32)), (3, .long (0 : Int64)), (0, .ref (a 35)), (1, .int p1), (2, .int p2)]) hx hb dX9_until_19 hl (by decide) rfl (fun ls hl => ?_)
    have hL21 : ∀ (nf : Nat) (x2 : Int64) (x3 : Int32) (r : Int64), itr (fun v => FX9_until_S21 p1 v.1 v.2) nf (x2, x3) = some r → ∀ ls, lv_has ls 6 [(5, .int x3), (3, .long x2), (1, .int p1), (2, .int p2)] → (∀ o : Int64, r = o → ∀ ls, lv_has ls 6 [(3, .long o), (2, .int p2)] → W p l e rm_X9_until s m args below meth c s.heap [] 0 0 Q (F0 m 46 ls [])) → W p l e rm_X9_until s m args below meth c s.heap [] 0 0 Q (F0 m 21 ls []) := by
      intro nf
      induction nf with
      | zero => intro _ _ r hF; exact (itr_0 hF).elim
      | succ nf ih =>
        intro x2 x3 r hF ls hl hE
        obtain ⟨wo, hF, hw⟩ := itr_s hF
        replace hF : FX9_until_S21 p1 x2 x3 = some wo := hF
        unfold FX9_until_S21 at hF
        refine lv_iload hx hb dX9_until_21 (lv_at hl 0 rfl) ?_
        refine lv_iload_n hx hb dX9_until_23 rfl (lv_at hl 2 rfl) ?_
        refine lv_icmp_gt (tgt := 46) hx hb dX9_until_24 (by decide) (fun c4 => ?_) (fun c4 => ?_)
        · replace hF := (if_pos c4).symm.trans hF
          obtain rfl := Option.some.inj hF
          obtain rfl := hw
          exact hE _ rfl ls (lv_sub hl [1, 3] rfl)
        · replace hF := (if_neg c4).symm.trans hF
          refine lv_lload_n hx hb dX9_until_27 rfl (lv_at hl 1 rfl) ?_
          refine lv_iload_n hx hb dX9_until_28 rfl (lv_at hl 2 rfl) ?_
          refine lv_i2l hx hb dX9_until_29 rfl ?_
          refine lv_ldc2 (v := (27720 : Int64)) hx hb hown (hts _ kl_X9_158) dX9_until_30 ?_
          refine lv_iload hx hb dX9_until_33 (lv_at hl 0 rfl) ?_
          refine lv_i2l hx hb dX9_until_35 rfl ?_
          obtain ⟨hg5, hF⟩ := gd_some hF
          refine lv_ldiv hx hb dX9_until_36 hg5 ?_
          refine lv_lmul hx hb dX9_until_37 ?_
          refine lv_ladd hx hb dX9_until_38 ?_
          refine lv_lstore_n (lv' := [(3, .long (x2 + (p1.toInt64 * ((27720 : Int64) / x3.toInt64)))), (5, .int x3), (1, .int p1), (2, .int p2)]) hx hb dX9_until_39 rfl hl (by decide) rfl (fun ls hl => ?_)
          refine lv_iinc (v := x3 + (1 : Int32)) (lv' := [(5, .int (x3 + (1 : Int32))), (3, .long (x2 + (p1.toInt64 * ((27720 : Int64) / x3.toInt64)))), (1, .int p1), (2, .int p2)]) hx hb dX9_until_40 hl (k := 1) rfl rfl (by decide) rfl (fun ls hl => ?_)
          refine lv_goto (tgt := 21) hx hb dX9_until_43 (by decide) ?_
          obtain rfl := Option.some.inj hF
          exact ih _ _ _ hw ls (lv_sub hl [0, 1, 2, 3] rfl) hE
    obtain ⟨o6, ho6, hF⟩ := bd_some hF
    refine hL21 fu (0 : Int64) (1 : Int32) o6 ho6 ls (lv_sub hl [0, 1, 3, 4] rfl) ?_
    intro _ q_o6 ls hl
    subst q_o6
    refine lv_lload_n hx hb dX9_until_46 rfl (lv_at hl 0 rfl) ?_
    refine lv_ldc2 (v := (27720 : Int64)) hx hb hown (hts _ kl_X9_158) dX9_until_47 ?_
    refine lv_iload_n hx hb dX9_until_50 rfl (lv_at hl 1 rfl) ?_
    obtain ⟨x7, hx7, hF⟩ := bd_some hF
    refine rd_l (runS (As := [.long o6, .long (27720 : Int64), .int p2]) (rest := []) X cq_X9_part lk_X9_149 (c_X9_part l D cI cJ cZ a ws0 o6 (27720 : Int64) p2 x7 hx7 ) rfl rfl ⟨Nat.le_of_ble_eq_true rfl, Nat.le_of_ble_eq_true rfl⟩ hP rfl hl.1 rfl (Nat.le_of_ble_eq_true rfl) dX9_until_51 ⟨Nat.le_of_ble_eq_true rfl, Nat.le_of_ble_eq_true rfl⟩) ?_
    obtain rfl := Option.some.inj hF
    rw [hQ]
    exact rt_l X dX9_until_54
  · replace hF := (if_neg c1).symm.trans hF
    refine lv_ldc2 (v := (-2 : Int64)) hx hb hown (hts _ kl_X9_135) dX9_until_12 ?_
    obtain rfl := Option.some.inj hF
    rw [hQ]
    exact rt_l X dX9_until_15
def FX9_keep_S21 (m_dares : Nat → Int32) (m_times : Nat → Int32) (p1 : Int32) (x4 : Int32) (x5 : Nat → Int32) (x6 : Nat → Int32) : Option ((Int32 × (Nat → Int32) × (Nat → Int32)) ⊕ ((Nat → Int32) × (Nat → Int32))) :=
  if (12 : Int32) ≤ x4 then (some (.inr (x5, x6))) else (if x4 < 0 ∨ 12 ≤ x4.toNatClampNeg then none else if (((12 : Int32) * p1) + x4) < 0 ∨ 24 ≤ (((12 : Int32) * p1) + x4).toNatClampNeg then none else if x4 < 0 ∨ 12 ≤ x4.toNatClampNeg then none else if (((12 : Int32) * p1) + x4) < 0 ∨ 24 ≤ (((12 : Int32) * p1) + x4).toNatClampNeg then none else some (.inl (x4 + (1 : Int32), upd x5 (((12 : Int32) * p1) + x4).toNatClampNeg (m_dares x4.toNatClampNeg), upd x6 (((12 : Int32) * p1) + x4).toNatClampNeg (m_times x4.toNatClampNeg))))
def FX9_keep (m_drawn : Int64) (m_questions : Int32) (m_rights : Int32) (m_wrongs : Int32) (m_isKept : Nat → Int32) (m_dares : Nat → Int32) (m_keptDares : Nat → Int32) (m_times : Nat → Int32) (m_keptTimes : Nat → Int32) (m_keptDrawn : Nat → Int64) (m_keptLesson : Nat → Int32) (p1 : Int32) : Option (Int32 × (Nat → Int32) × (Nat → Int32) × (Nat → Int32) × (Nat → Int64) × (Nat → Int32)) :=
  if (FX9_in p1.toInt64 (0 : Int64) (1 : Int64)) = true then (if p1 < 0 ∨ 2 ≤ p1.toNatClampNeg then none else (itr (fun v => FX9_keep_S21 m_dares m_times p1 v.1 v.2.1 v.2.2) fu ((0 : Int32), m_keptDares, m_keptTimes)).bind fun o14 => if p1 < 0 ∨ 2 ≤ p1.toNatClampNeg then none else if ((3 : Int32) * p1) < 0 ∨ 6 ≤ ((3 : Int32) * p1).toNatClampNeg then none else if (((3 : Int32) * p1) + (1 : Int32)) < 0 ∨ 6 ≤ (((3 : Int32) * p1) + (1 : Int32)).toNatClampNeg then none else if (((3 : Int32) * p1) + (2 : Int32)) < 0 ∨ 6 ≤ (((3 : Int32) * p1) + (2 : Int32)).toNatClampNeg then none else some (m_questions, upd m_isKept p1.toNatClampNeg (vp_nar .boolean (1 : Int32)), o14.1, o14.2, vp_updL m_keptDrawn p1.toNatClampNeg m_drawn, upd (upd (upd m_keptLesson ((3 : Int32) * p1).toNatClampNeg m_questions) (((3 : Int32) * p1) + (1 : Int32)).toNatClampNeg m_rights) (((3 : Int32) * p1) + (2 : Int32)).toNatClampNeg m_wrongs)) else (some ((-1 : Int32), m_isKept, m_keptDares, m_keptTimes, m_keptDrawn, m_keptLesson))
def rm_X9_keep : Room := { frames := 1, cells := 0, slots := 0, locals := 25 }
set_option maxHeartbeats 4000000 in
set_option maxRecDepth 100000 in
theorem c_X9_keep (l : Launch) (D : va_G) (cI cJ cZ : ClassId) (a : Nat → Nat) (ws0 : va_W) (A : Nat → Prop)  (m_readMany : Int32) (m_pupils : Int32) (m_mood : Int32) (m_length : Int32) (m_at : Int32) (m_faultAt : Int32) (m_drawn : Int64) (m_questions : Int32) (m_rights : Int32) (m_wrongs : Int32) (m_tapes : Int32) (m_trials : Int32) (m_isKept : Nat → Int32) (m_dares : Nat → Int32) (m_keptDares : Nat → Int32) (m_times : Nat → Int32) (m_keptTimes : Nat → Int32) (m_keptDrawn : Nat → Int64) (m_keptLesson : Nat → Int32) (p1 : Int32) (u : Int32 × (Nat → Int32) × (Nat → Int32) × (Nat → Int32) × (Nat → Int64) × (Nat → Int32)) (hF : FX9_keep m_drawn m_questions m_rights m_wrongs m_isKept m_dares m_keptDares m_times m_keptTimes m_keptDrawn m_keptLesson p1 = some u) (z35 : ws0[35]? = some (a 35, .inr (9, [.ref (a 36), .int m_readMany, .ref (a 37), .int m_pupils, .ref (a 38), .ref (a 39), .int m_mood, .ref (a 40), .int m_length, .int m_at, .int m_faultAt, .ref (a 41), .ref (a 42), .long m_drawn, .int m_questions, .int m_rights, .int m_wrongs, .int m_tapes, .ref (a 43), .ref (a 44), .int m_trials, .ref (a 45), .ref (a 46), .ref (a 47), .ref (a 48), .ref (a 49), .ref (a 50), .ref (a 51)]))) (z38 : ws0[38]? = some (a 38, .inl (cI, 12, .inl m_dares))) (z39 : ws0[39]? = some (a 39, .inl (cI, 12, .inl m_times))) (z47 : ws0[47]? = some (a 47, .inl (cZ, 2, .inl m_isKept))) (z48 : ws0[48]? = some (a 48, .inl (cI, 24, .inl m_keptDares))) (z49 : ws0[49]? = some (a 49, .inl (cI, 24, .inl m_keptTimes))) (z50 : ws0[50]? = some (a 50, .inl (cJ, 2, .inr (.inl m_keptDrawn)))) (z51 : ws0[51]? = some (a 51, .inl (cI, 6, .inl m_keptLesson))) (hD : va_D A ws0) : Met l yX9_keep (wq yX9_keep cX9_keep 3 (some .int)) rm_X9_keep (Pq [.ref (a 35), .int p1] D cI cJ cZ ws0) (Qw D A ws0 [47, 48, 49, 50, 51] (some (.int u.1)) (fun w => w[47]? = some (a 47, .inl (cZ, 2, .inl u.2.1)) ∧ w[48]? = some (a 48, .inl (cI, 24, .inl u.2.2.1)) ∧ w[49]? = some (a 49, .inl (cI, 24, .inl u.2.2.2.1)) ∧ w[50]? = some (a 50, .inl (cJ, 2, .inr (.inl u.2.2.2.2.1))) ∧ w[51]? = some (a 51, .inl (cI, 6, .inl u.2.2.2.2.2)))) 0 0 A := by
  refine mq_of (by decide) (Nat.le_of_ble_eq_true rfl) (fun p e s m args below meth c ls Q hQ X _ hP hl => ?_)
  obtain ⟨hx, hb, hr, hml, hown, hts, hlk, hK, hN⟩ := id X
  have hown : s.vm.findClass RX9 = some m.cls := hown
  have hl : lv_has ls 3 [(0, .ref (a 35)), (1, .int p1)] := hl
  have hS : va_S A s.heap s.heap [] := va_S.rf
  have hs : ∀ j : Nat, j ∉ [47, 48, 49, 50, 51] → ws0[j]? = ws0[j]? := fun _ _ => rfl
  have h35 := z35
  have h38 := z38
  have h39 := z39
  have h47 := z47
  have h48 := z48
  have h49 := z49
  have h50 := z50
  have h51 := z51
  unfold FX9_keep at hF
  refine lv_iload_n hx hb dX9_keep_0 rfl (lv_at hl 1 rfl) ?_
  refine lv_i2l hx hb dX9_keep_1 rfl ?_
  refine lv_lconst (v := (0 : Int64)) hx hb dX9_keep_2 (by decide) ?_
  refine lv_lconst (v := (1 : Int64)) hx hb dX9_keep_3 (by decide) ?_
  refine rd_i (runS (As := [.long p1.toInt64, .long (0 : Int64), .long (1 : Int64)]) (rest := []) X cq_X9_in lk_X9_66 (c_X9_in l D cI cJ cZ a ws0 p1.toInt64 (0 : Int64) (1 : Int64) _ rfl ) rfl rfl ⟨Nat.le_of_ble_eq_true rfl, Nat.le_of_ble_eq_true rfl⟩ hP rfl hl.1 rfl (Nat.le_of_ble_eq_true rfl) dX9_keep_4 ⟨Nat.le_of_ble_eq_true rfl, Nat.le_of_ble_eq_true rfl⟩) ?_
  refine zf_ne (tgt := 12) hx hb dX9_keep_7 (by decide) (fun c1 => ?_) (fun c1 => ?_)
  · replace hF := (if_pos c1).symm.trans hF
    refine lv_aload_n hx hb dX9_keep_12 rfl (lv_at hl 0 rfl) ?_
    refine gf_X9_45 hx hb hts hown hK hP h35 dX9_keep_13 ?_
    refine lv_iload_n hx hb dX9_keep_16 rfl (lv_at hl 1 rfl) ?_
    refine lv_iconst (v := (1 : Int32)) hx hb dX9_keep_17 (by decide) ?_
    obtain ⟨hg2, hF⟩ := gd_some hF
    refine ast_z hx hb hK hP hD hS h47 hg2 dX9_keep_18 (fun w3 H locs hP hD hk hc hS => ?_)
    have h47 : w3[47]? = some (a 47, .inl (cZ, 2, .inl (upd m_isKept p1.toNatClampNeg (vp_nar .boolean (1 : Int32))))) := hc
    have h35 := (hk 35 (by omega)).trans h35
    have h38 := (hk 38 (by omega)).trans h38
    have h48 := (hk 48 (by omega)).trans h48
    have h39 := (hk 39 (by omega)).trans h39
    have h49 := (hk 49 (by omega)).trans h49
    have h50 := (hk 50 (by omega)).trans h50
    have h51 := (hk 51 (by omega)).trans h51
    replace hs := sm_k hk (by simp) hs
    refine lv_iconst (v := (0 : Int32)) hx hb dX9_keep_19 (by decide) ?_
    refine lv_istore_n (lv' := [(2, .int (0 : Int32)), (0, .ref (a 35)), (1, .int p1)]) hx hb dX9_keep_20 rfl hl (by decide) rfl (fun ls hl => ?_)
    have hL21 : ∀ (nf : Nat) (x4 : Int32) (x5 : Nat → Int32) (x6 : Nat → Int32) (r : (Nat → Int32) × (Nat → Int32)), itr (fun v => FX9_keep_S21 m_dares m_times p1 v.1 v.2.1 v.2.2) nf (x4, x5, x6) = some r → ∀ (wJ : va_W) (HJ : Heap) (lJ : List Loc), va_P D vwCl wJ HJ → va_D A wJ → va_S A s.heap HJ lJ → (∀ j : Nat, j ∉ [47, 48, 49, 50, 51] → wJ[j]? = ws0[j]?) → wJ[47]? = some (a 47, .inl (cZ, 2, .inl (upd m_isKept p1.toNatClampNeg (vp_nar .boolean (1 : Int32))))) → wJ[48]? = some (a 48, .inl (cI, 24, .inl x5)) → wJ[49]? = some (a 49, .inl (cI, 24, .inl x6)) → wJ[50]? = some (a 50, .inl (cJ, 2, .inr (.inl m_keptDrawn))) → wJ[51]? = some (a 51, .inl (cI, 6, .inl m_keptLesson)) → ∀ ls, lv_has ls 3 [(2, .int x4), (0, .ref (a 35)), (1, .int p1)] → (∀ o : (Nat → Int32) × (Nat → Int32), r = o → ∀ (wK : va_W) (HK : Heap) (lK : List Loc), va_P D vwCl wK HK → va_D A wK → va_S A s.heap HK lK → (∀ j : Nat, j ∉ [47, 48, 49, 50, 51] → wK[j]? = ws0[j]?) → wK[47]? = some (a 47, .inl (cZ, 2, .inl (upd m_isKept p1.toNatClampNeg (vp_nar .boolean (1 : Int32))))) → wK[48]? = some (a 48, .inl (cI, 24, .inl o.1)) → wK[49]? = some (a 49, .inl (cI, 24, .inl o.2)) → wK[50]? = some (a 50, .inl (cJ, 2, .inr (.inl m_keptDrawn))) → wK[51]? = some (a 51, .inl (cI, 6, .inl m_keptLesson)) → ∀ ls, lv_has ls 3 [(0, .ref (a 35)), (1, .int p1)] → W p l e rm_X9_keep s m args below meth c HK lK 0 0 Q (F0 m 67 ls [])) → W p l e rm_X9_keep s m args below meth c HJ lJ 0 0 Q (F0 m 21 ls []) := by
      intro nf
      induction nf with
      | zero => intro _ _ _ r hF; exact (itr_0 hF).elim
      | succ nf ih =>
        intro x4 x5 x6 r hF w H locs hP hD hS hs h47 h48 h49 h50 h51 ls hl hE
        obtain ⟨wo, hF, hw⟩ := itr_s hF
        replace hF : FX9_keep_S21 m_dares m_times p1 x4 x5 x6 = some wo := hF
        have h35 := (hs 35 (by simp only [List.mem_cons, List.not_mem_nil, or_false, not_or]; omega)).trans z35
        have h38 := (hs 38 (by simp only [List.mem_cons, List.not_mem_nil, or_false, not_or]; omega)).trans z38
        have h39 := (hs 39 (by simp only [List.mem_cons, List.not_mem_nil, or_false, not_or]; omega)).trans z39
        unfold FX9_keep_S21 at hF
        refine lv_iload_n hx hb dX9_keep_21 rfl (lv_at hl 0 rfl) ?_
        refine lv_bipush (v := (12 : Int32)) hx hb dX9_keep_22 (by decide) ?_
        refine lv_icmp_ge (tgt := 67) hx hb dX9_keep_24 (by decide) (fun c7 => ?_) (fun c7 => ?_)
        · replace hF := (if_pos c7).symm.trans hF
          obtain rfl := Option.some.inj hF
          obtain rfl := hw
          exact hE _ rfl _ _ _ hP hD hS hs h47 h48 h49 h50 h51 ls (lv_sub hl [1, 2] rfl)
        · replace hF := (if_neg c7).symm.trans hF
          refine lv_aload_n hx hb dX9_keep_27 rfl (lv_at hl 1 rfl) ?_
          refine gf_X9_48 hx hb hts hown hK hP h35 dX9_keep_28 ?_
          refine lv_bipush (v := (12 : Int32)) hx hb dX9_keep_31 (by decide) ?_
          refine lv_iload_n hx hb dX9_keep_33 rfl (lv_at hl 2 rfl) ?_
          refine lv_imul hx hb dX9_keep_34 ?_
          refine lv_iload_n hx hb dX9_keep_35 rfl (lv_at hl 0 rfl) ?_
          refine lv_iadd hx hb dX9_keep_36 ?_
          refine lv_aload_n hx hb dX9_keep_37 rfl (lv_at hl 1 rfl) ?_
          refine gf_X9_16 hx hb hts hown hK hP h35 dX9_keep_38 ?_
          refine lv_iload_n hx hb dX9_keep_41 rfl (lv_at hl 0 rfl) ?_
          obtain ⟨hg8, hF⟩ := gd_some hF
          refine va_iald hx hb hK hP 38 0 h38 rfl hg8 dX9_keep_42 ?_
          obtain ⟨hg9, hF⟩ := gd_some hF
          refine ast_i hx hb hK hP hD hS h48 hg9 dX9_keep_43 (fun w10 H locs hP hD hk hc hS => ?_)
          have h48 : w10[48]? = some (a 48, .inl (cI, 24, .inl (upd x5 (((12 : Int32) * p1) + x4).toNatClampNeg (m_dares x4.toNatClampNeg)))) := hc
          have h35 := (hk 35 (by omega)).trans h35
          have h47 := (hk 47 (by omega)).trans h47
          have h38 := (hk 38 (by omega)).trans h38
          have h39 := (hk 39 (by omega)).trans h39
          have h49 := (hk 49 (by omega)).trans h49
          have h50 := (hk 50 (by omega)).trans h50
          have h51 := (hk 51 (by omega)).trans h51
          replace hs := sm_k hk (by simp) hs
          refine lv_aload_n hx hb dX9_keep_44 rfl (lv_at hl 1 rfl) ?_
          refine gf_X9_51 hx hb hts hown hK hP h35 dX9_keep_45 ?_
          refine lv_bipush (v := (12 : Int32)) hx hb dX9_keep_48 (by decide) ?_
          refine lv_iload_n hx hb dX9_keep_50 rfl (lv_at hl 2 rfl) ?_
          refine lv_imul hx hb dX9_keep_51 ?_
          refine lv_iload_n hx hb dX9_keep_52 rfl (lv_at hl 0 rfl) ?_
          refine lv_iadd hx hb dX9_keep_53 ?_
          refine lv_aload_n hx hb dX9_keep_54 rfl (lv_at hl 1 rfl) ?_
          refine gf_X9_19 hx hb hts hown hK hP h35 dX9_keep_55 ?_
          refine lv_iload_n hx hb dX9_keep_58 rfl (lv_at hl 0 rfl) ?_
          obtain ⟨hg11, hF⟩ := gd_some hF
          refine va_iald hx hb hK hP 39 0 h39 rfl hg11 dX9_keep_59 ?_
          obtain ⟨hg12, hF⟩ := gd_some hF
          refine ast_i hx hb hK hP hD hS h49 hg12 dX9_keep_60 (fun w13 H locs hP hD hk hc hS => ?_)
          have h49 : w13[49]? = some (a 49, .inl (cI, 24, .inl (upd x6 (((12 : Int32) * p1) + x4).toNatClampNeg (m_times x4.toNatClampNeg)))) := hc
          have h35 := (hk 35 (by omega)).trans h35
          have h47 := (hk 47 (by omega)).trans h47
          have h38 := (hk 38 (by omega)).trans h38
          have h48 := (hk 48 (by omega)).trans h48
          have h39 := (hk 39 (by omega)).trans h39
          have h50 := (hk 50 (by omega)).trans h50
          have h51 := (hk 51 (by omega)).trans h51
          replace hs := sm_k hk (by simp) hs
          refine lv_iinc (v := x4 + (1 : Int32)) (lv' := [(2, .int (x4 + (1 : Int32))), (0, .ref (a 35)), (1, .int p1)]) hx hb dX9_keep_61 hl (k := 0) rfl rfl (by decide) rfl (fun ls hl => ?_)
          refine lv_goto (tgt := 21) hx hb dX9_keep_64 (by decide) ?_
          obtain rfl := Option.some.inj hF
          exact ih _ _ _ _ hw _ _ _ hP hD hS hs h47 h48 h49 h50 h51 ls (lv_sub hl [0, 1, 2] rfl) hE
    obtain ⟨o14, ho14, hF⟩ := bd_some hF
    refine hL21 fu (0 : Int32) m_keptDares m_keptTimes o14 ho14 _ _ _ hP hD hS hs h47 h48 h49 h50 h51 ls (lv_sub hl [0, 1, 2] rfl) ?_
    intro _ q_o14 w H locs hP hD hS hs h47 h48 h49 h50 h51 ls hl
    subst q_o14
    have h35 := (hs 35 (by simp only [List.mem_cons, List.not_mem_nil, or_false, not_or]; omega)).trans z35
    have h38 := (hs 38 (by simp only [List.mem_cons, List.not_mem_nil, or_false, not_or]; omega)).trans z38
    have h39 := (hs 39 (by simp only [List.mem_cons, List.not_mem_nil, or_false, not_or]; omega)).trans z39
    refine lv_aload_n hx hb dX9_keep_67 rfl (lv_at hl 0 rfl) ?_
    refine gf_X9_54 hx hb hts hown hK hP h35 dX9_keep_68 ?_
    refine lv_iload_n hx hb dX9_keep_71 rfl (lv_at hl 1 rfl) ?_
    refine lv_aload_n hx hb dX9_keep_72 rfl (lv_at hl 0 rfl) ?_
    refine gf_X9_100 hx hb hts hown hK hP h35 dX9_keep_73 ?_
    obtain ⟨hg15, hF⟩ := gd_some hF
    refine ast_l hx hb hK hP hD hS h50 hg15 dX9_keep_76 (fun w16 H locs hP hD hk hc hS => ?_)
    have h50 : w16[50]? = some (a 50, .inl (cJ, 2, .inr (.inl (vp_updL m_keptDrawn p1.toNatClampNeg m_drawn)))) := hc
    have h35 := (hk 35 (by omega)).trans h35
    have h47 := (hk 47 (by omega)).trans h47
    have h38 := (hk 38 (by omega)).trans h38
    have h48 := (hk 48 (by omega)).trans h48
    have h39 := (hk 39 (by omega)).trans h39
    have h49 := (hk 49 (by omega)).trans h49
    have h51 := (hk 51 (by omega)).trans h51
    replace hs := sm_k hk (by simp) hs
    refine lv_aload_n hx hb dX9_keep_77 rfl (lv_at hl 0 rfl) ?_
    refine gf_X9_57 hx hb hts hown hK hP h35 dX9_keep_78 ?_
    refine lv_iconst (v := (3 : Int32)) hx hb dX9_keep_81 (by decide) ?_
    refine lv_iload_n hx hb dX9_keep_82 rfl (lv_at hl 1 rfl) ?_
    refine lv_imul hx hb dX9_keep_83 ?_
    refine lv_aload_n hx hb dX9_keep_84 rfl (lv_at hl 0 rfl) ?_
    refine gf_X9_104 hx hb hts hown hK hP h35 dX9_keep_85 ?_
    obtain ⟨hg17, hF⟩ := gd_some hF
    refine ast_i hx hb hK hP hD hS h51 hg17 dX9_keep_88 (fun w18 H locs hP hD hk hc hS => ?_)
    have h51 : w18[51]? = some (a 51, .inl (cI, 6, .inl (upd m_keptLesson ((3 : Int32) * p1).toNatClampNeg m_questions))) := hc
    have h35 := (hk 35 (by omega)).trans h35
    have h47 := (hk 47 (by omega)).trans h47
    have h38 := (hk 38 (by omega)).trans h38
    have h48 := (hk 48 (by omega)).trans h48
    have h39 := (hk 39 (by omega)).trans h39
    have h49 := (hk 49 (by omega)).trans h49
    have h50 := (hk 50 (by omega)).trans h50
    replace hs := sm_k hk (by simp) hs
    refine lv_aload_n hx hb dX9_keep_89 rfl (lv_at hl 0 rfl) ?_
    refine gf_X9_57 hx hb hts hown hK hP h35 dX9_keep_90 ?_
    refine lv_iconst (v := (3 : Int32)) hx hb dX9_keep_93 (by decide) ?_
    refine lv_iload_n hx hb dX9_keep_94 rfl (lv_at hl 1 rfl) ?_
    refine lv_imul hx hb dX9_keep_95 ?_
    refine lv_iconst (v := (1 : Int32)) hx hb dX9_keep_96 (by decide) ?_
    refine lv_iadd hx hb dX9_keep_97 ?_
    refine lv_aload_n hx hb dX9_keep_98 rfl (lv_at hl 0 rfl) ?_
    refine gf_X9_107 hx hb hts hown hK hP h35 dX9_keep_99 ?_
    obtain ⟨hg19, hF⟩ := gd_some hF
    refine ast_i hx hb hK hP hD hS h51 hg19 dX9_keep_102 (fun w20 H locs hP hD hk hc hS => ?_)
    have h51 : w20[51]? = some (a 51, .inl (cI, 6, .inl (upd (upd m_keptLesson ((3 : Int32) * p1).toNatClampNeg m_questions) (((3 : Int32) * p1) + (1 : Int32)).toNatClampNeg m_rights))) := hc
    have h35 := (hk 35 (by omega)).trans h35
    have h47 := (hk 47 (by omega)).trans h47
    have h38 := (hk 38 (by omega)).trans h38
    have h48 := (hk 48 (by omega)).trans h48
    have h39 := (hk 39 (by omega)).trans h39
    have h49 := (hk 49 (by omega)).trans h49
    have h50 := (hk 50 (by omega)).trans h50
    replace hs := sm_k hk (by simp) hs
    refine lv_aload_n hx hb dX9_keep_103 rfl (lv_at hl 0 rfl) ?_
    refine gf_X9_57 hx hb hts hown hK hP h35 dX9_keep_104 ?_
    refine lv_iconst (v := (3 : Int32)) hx hb dX9_keep_107 (by decide) ?_
    refine lv_iload_n hx hb dX9_keep_108 rfl (lv_at hl 1 rfl) ?_
    refine lv_imul hx hb dX9_keep_109 ?_
    refine lv_iconst (v := (2 : Int32)) hx hb dX9_keep_110 (by decide) ?_
    refine lv_iadd hx hb dX9_keep_111 ?_
    refine lv_aload_n hx hb dX9_keep_112 rfl (lv_at hl 0 rfl) ?_
    refine gf_X9_110 hx hb hts hown hK hP h35 dX9_keep_113 ?_
    obtain ⟨hg21, hF⟩ := gd_some hF
    refine ast_i hx hb hK hP hD hS h51 hg21 dX9_keep_116 (fun w22 H locs hP hD hk hc hS => ?_)
    have h51 : w22[51]? = some (a 51, .inl (cI, 6, .inl (upd (upd (upd m_keptLesson ((3 : Int32) * p1).toNatClampNeg m_questions) (((3 : Int32) * p1) + (1 : Int32)).toNatClampNeg m_rights) (((3 : Int32) * p1) + (2 : Int32)).toNatClampNeg m_wrongs))) := hc
    have h35 := (hk 35 (by omega)).trans h35
    have h47 := (hk 47 (by omega)).trans h47
    have h38 := (hk 38 (by omega)).trans h38
    have h48 := (hk 48 (by omega)).trans h48
    have h39 := (hk 39 (by omega)).trans h39
    have h49 := (hk 49 (by omega)).trans h49
    have h50 := (hk 50 (by omega)).trans h50
    replace hs := sm_k hk (by simp) hs
    refine lv_aload_n hx hb dX9_keep_117 rfl (lv_at hl 0 rfl) ?_
    refine gf_X9_104 hx hb hts hown hK hP h35 dX9_keep_118 ?_
    obtain rfl := Option.some.inj hF
    rw [hQ]
    exact rw_i X hS hP hD hs ⟨h47, h48, h49, h50, h51⟩ dX9_keep_121
  · replace hF := (if_neg c1).symm.trans hF
    refine lv_iconst (v := (-1 : Int32)) hx hb dX9_keep_10 (by decide) ?_
    obtain rfl := Option.some.inj hF
    rw [hQ]
    exact rw_i X hS hP hD hs ⟨h47, h48, h49, h50, h51⟩ dX9_keep_11
