def FX0_othersByLot_S9 (ch_pupils : Int32) (ch_eligible : Nat → Int32) (p1 : Int32) (x3 : Int32) (x4 : Nat → Int64) : Option ((Int32 × (Nat → Int64)) ⊕ ((Nat → Int64))) :=
  if ch_pupils ≤ x3 then (some (.inr x4)) else (if x3 = p1 then (some (.inl (x3 + (1 : Int32), x4))) else ((FX4_join x4 (0 : Int64) ((gat ch_eligible 12 x3).toInt64) (0 : Int64) (((10 : Int32) - (gat ch_eligible 12 x3)).toInt64)).bind fun u7 => some (.inl (x3 + (1 : Int32), u7))))
def FX0_othersByLot_S63 (ch_pupils : Int32) (o9 : (Nat → Int64)) (x10 : Int64) (x11 : Int32) : Option ((Int64 × Int32) ⊕ (Int64)) :=
  if ch_pupils ≤ x11 then (some (.inr x10)) else (some (.inl (x10 + ((gget o9 x11 (0 : Int32)) * (gshare (x11 + (1 : Int32)))), x11 + (1 : Int32))))
def FX0_othersByLot (ch_pupils : Int32) (ch_cells : Nat → Int64) (ch_eligible : Nat → Int32) (p1 : Int32) : Option (Int64 × (Nat → Int64)) :=
  nmb (FX4_begin ch_cells) fun u1 => (itr (fun v => FX0_othersByLot_S9 ch_pupils ch_eligible p1 v.1 v.2) fu ((0 : Int32), u1)).bind fun o9 => (itr (fun v => FX0_othersByLot_S63 ch_pupils o9 v.1 v.2) fu ((0 : Int64), (0 : Int32))).bind fun o13 => some (o13, o9)
def rm_X0_othersByLot : Room := { frames := 2, cells := 0, slots := 0, locals := 54 }
set_option maxHeartbeats 4000000 in
set_option maxRecDepth 100000 in
theorem c_X0_othersByLot (l : Launch) (D : va_G) (cI cJ cZ : ClassId) (a : Nat → Nat) (ws0 : va_W) (A : Nat → Prop)  (ch_pupils : Int32) (ch_rule : Int32) (ch_cells : Nat → Int64) (ch_eligible : Nat → Int32) (p1 : Int32) (u : Int64 × (Nat → Int64)) (hF : FX0_othersByLot ch_pupils ch_cells ch_eligible p1 = some u) (z16 : ws0[16]? = some (a 16, .inr (0, [.ref (a 17), .ref (a 18), .ref (a 19), .ref (a 20), .int ch_pupils, .int ch_rule]))) (z18 : ws0[18]? = some (a 18, .inl (cI, 12, .inl ch_eligible))) (z20 : ws0[20]? = some (a 20, .inr (4, [.ref (a 21)]))) (z21 : ws0[21]? = some (a 21, .inl (cJ, 169, .inr (.inl ch_cells)))) (hD : va_D A ws0) : Met l yX0_othersByLot (wq yX0_othersByLot cX0_othersByLot 5 (some .long)) rm_X0_othersByLot (Pq [.ref (a 16), .int p1] D cI cJ cZ ws0) (Qw D A ws0 [21] (some (.long u.1)) (fun w => w[21]? = some (a 21, .inl (cJ, 169, .inr (.inl u.2))))) 0 0 A := by
  refine mq_of (by decide) (Nat.le_of_ble_eq_true rfl) (fun p e s m args below meth c ls Q hQ X _ hP hl => ?_)
  obtain ⟨hx, hb, hr, hml, hown, hts, hlk, hK, hN⟩ := id X
  have hown : s.vm.findClass RX0 = some m.cls := hown
  have hl : lv_has ls 5 [(0, .ref (a 16)), (1, .int p1)] := hl
  have hS : va_S A s.heap s.heap [] := va_S.rf
  have hs : ∀ j : Nat, j ∉ [21] → ws0[j]? = ws0[j]? := fun _ _ => rfl
  have h16 := z16
  have h18 := z18
  have h20 := z20
  have h21 := z21
  unfold FX0_othersByLot at hF
  refine lv_aload_n hx hb dX0_othersByLot_0 rfl (lv_at hl 0 rfl) ?_
  refine gf_X0_24 hx hb hts hown hK hP h16 dX0_othersByLot_1 ?_
  obtain ⟨u1, e_u1⟩ : ∃ q, q = FX4_begin ch_cells := ⟨_, rfl⟩
  replace hF := nm_at hF e_u1
  refine wr_v (runVN (As := []) (rest := []) X cq_X4_begin lk_X0_74 (c_X4_begin l D cI cJ cZ a ws0 A 20 ch_cells u1 e_u1.symm h20 h21 hD) rfl rfl ⟨Nat.le_of_ble_eq_true rfl, Nat.le_of_ble_eq_true rfl⟩ hP h20 rfl rfl hl.1 rfl (Nat.le_of_ble_eq_true rfl) dX0_othersByLot_4 ⟨Nat.le_of_ble_eq_true rfl, Nat.le_of_ble_eq_true rfl⟩) hS (fun w2 H locs hP hD hk hB hS => ?_)
  have h21 : w2[21]? = some (a 21, .inl (cJ, 169, .inr (.inl u1))) := hB
  have h16 := (hk 16 (by simp only [List.mem_cons, List.not_mem_nil, or_false, not_or]; omega)).trans h16
  have h20 := (hk 20 (by simp only [List.mem_cons, List.not_mem_nil, or_false, not_or]; omega)).trans h20
  have h18 := (hk 18 (by simp only [List.mem_cons, List.not_mem_nil, or_false, not_or]; omega)).trans h18
  replace hs := st_tr hk (fun j hj => by simp only [List.mem_cons, List.not_mem_nil, or_false] at hj ⊢; omega) hs
  refine lv_iconst (v := (0 : Int32)) hx hb dX0_othersByLot_7 (by decide) ?_
  refine lv_istore_n (lv' := [(2, .int (0 : Int32)), (0, .ref (a 16)), (1, .int p1)]) hx hb dX0_othersByLot_8 rfl hl (by decide) rfl (fun ls hl => ?_)
  have hL9 : ∀ (nf : Nat) (x3 : Int32) (x4 : Nat → Int64) (r : (Nat → Int64)), itr (fun v => FX0_othersByLot_S9 ch_pupils ch_eligible p1 v.1 v.2) nf (x3, x4) = some r → ∀ (wJ : va_W) (HJ : Heap) (lJ : List Loc), va_P D vwCl wJ HJ → va_D A wJ → va_S A s.heap HJ lJ → (∀ j : Nat, j ∉ [21] → wJ[j]? = ws0[j]?) → wJ[21]? = some (a 21, .inl (cJ, 169, .inr (.inl x4))) → ∀ ls, lv_has ls 5 [(2, .int x3), (0, .ref (a 16)), (1, .int p1)] → (∀ o : (Nat → Int64), r = o → ∀ (wK : va_W) (HK : Heap) (lK : List Loc), va_P D vwCl wK HK → va_D A wK → va_S A s.heap HK lK → (∀ j : Nat, j ∉ [21] → wK[j]? = ws0[j]?) → wK[21]? = some (a 21, .inl (cJ, 169, .inr (.inl o))) → ∀ ls, lv_has ls 5 [(0, .ref (a 16))] → W p l e rm_X0_othersByLot s m args below meth c HK lK 0 0 Q (F0 m 58 ls [])) → W p l e rm_X0_othersByLot s m args below meth c HJ lJ 0 0 Q (F0 m 9 ls []) := by
    intro nf
    induction nf with
    | zero => intro _ _ r hF; exact (itr_0 hF).elim
    | succ nf ih =>
      intro x3 x4 r hF w H locs hP hD hS hs h21 ls hl hE
      obtain ⟨wo, hF, hw⟩ := itr_s hF
      replace hF : FX0_othersByLot_S9 ch_pupils ch_eligible p1 x3 x4 = some wo := hF
      have h16 := (hs 16 (by simp only [List.mem_cons, List.not_mem_nil, or_false, not_or]; omega)).trans z16
      have h20 := (hs 20 (by simp only [List.mem_cons, List.not_mem_nil, or_false, not_or]; omega)).trans z20
      have h18 := (hs 18 (by simp only [List.mem_cons, List.not_mem_nil, or_false, not_or]; omega)).trans z18
      unfold FX0_othersByLot_S9 at hF
      refine lv_iload_n hx hb dX0_othersByLot_9 rfl (lv_at hl 0 rfl) ?_
      refine lv_aload_n hx hb dX0_othersByLot_10 rfl (lv_at hl 1 rfl) ?_
      refine gf_X0_34 hx hb hts hown hK hP h16 dX0_othersByLot_11 ?_
      refine lv_icmp_ge (tgt := 58) hx hb dX0_othersByLot_14 (by decide) (fun c5 => ?_) (fun c5 => ?_)
      · replace hF := (if_pos c5).symm.trans hF
        obtain rfl := Option.some.inj hF
        obtain rfl := hw
        exact hE _ rfl _ _ _ hP hD hS hs h21 ls (lv_sub hl [1] rfl)
      · replace hF := (if_neg c5).symm.trans hF
        refine lv_iload_n hx hb dX0_othersByLot_17 rfl (lv_at hl 0 rfl) ?_
        refine lv_iload_n hx hb dX0_othersByLot_18 rfl (lv_at hl 2 rfl) ?_
        refine lv_icmp_eq (tgt := 52) hx hb dX0_othersByLot_19 (by decide) (fun c6 => ?_) (fun c6 => ?_)
        · replace hF := (if_pos c6).symm.trans hF
          refine lv_iinc (v := x3 + (1 : Int32)) (lv' := [(2, .int (x3 + (1 : Int32))), (0, .ref (a 16)), (1, .int p1)]) hx hb dX0_othersByLot_52 hl (k := 0) rfl rfl (by decide) rfl (fun ls hl => ?_)
          refine lv_goto (tgt := 9) hx hb dX0_othersByLot_55 (by decide) ?_
          obtain rfl := Option.some.inj hF
          exact ih _ _ _ hw _ _ _ hP hD hS hs h21 ls (lv_sub hl [0, 1, 2] rfl) hE
        · replace hF := (if_neg c6).symm.trans hF
          refine lv_aload_n hx hb dX0_othersByLot_22 rfl (lv_at hl 1 rfl) ?_
          refine gf_X0_24 hx hb hts hown hK hP h16 dX0_othersByLot_23 ?_
          refine lv_lconst (v := (0 : Int64)) hx hb dX0_othersByLot_26 (by decide) ?_
          refine lv_aload_n hx hb dX0_othersByLot_27 rfl (lv_at hl 1 rfl) ?_
          refine gf_X0_15 hx hb hts hown hK hP h16 dX0_othersByLot_28 ?_
          refine lv_iload_n hx hb dX0_othersByLot_31 rfl (lv_at hl 0 rfl) ?_
          refine rd_i (runSN (As := [.ref (a 18), .int x3]) (rest := [.long (0 : Int64), .ref (a 20)]) X cq_X8_at lk_X0_61 (t_X8_at l D cI cJ cZ a w 18 ch_eligible 12 x3 _ rfl h18 (by decide)) rfl rfl ⟨Nat.le_of_ble_eq_true rfl, Nat.le_of_ble_eq_true rfl⟩ hP rfl hl.1 rfl (Nat.le_of_ble_eq_true rfl) dX0_othersByLot_32 ⟨Nat.le_of_ble_eq_true rfl, Nat.le_of_ble_eq_true rfl⟩) ?_
          refine lv_i2l hx hb dX0_othersByLot_35 rfl ?_
          refine lv_lconst (v := (0 : Int64)) hx hb dX0_othersByLot_36 (by decide) ?_
          refine lv_bipush (v := (10 : Int32)) hx hb dX0_othersByLot_37 (by decide) ?_
          refine lv_aload_n hx hb dX0_othersByLot_39 rfl (lv_at hl 1 rfl) ?_
          refine gf_X0_15 hx hb hts hown hK hP h16 dX0_othersByLot_40 ?_
          refine lv_iload_n hx hb dX0_othersByLot_43 rfl (lv_at hl 0 rfl) ?_
          refine rd_i (runSN (As := [.ref (a 18), .int x3]) (rest := [.int (10 : Int32), .long (0 : Int64), .long ((gat ch_eligible 12 x3).toInt64), .long (0 : Int64), .ref (a 20)]) X cq_X8_at lk_X0_61 (t_X8_at l D cI cJ cZ a w 18 ch_eligible 12 x3 _ rfl h18 (by decide)) rfl rfl ⟨Nat.le_of_ble_eq_true rfl, Nat.le_of_ble_eq_true rfl⟩ hP rfl hl.1 rfl (Nat.le_of_ble_eq_true rfl) dX0_othersByLot_44 ⟨Nat.le_of_ble_eq_true rfl, Nat.le_of_ble_eq_true rfl⟩) ?_
          refine lv_isub hx hb dX0_othersByLot_47 ?_
          refine lv_i2l hx hb dX0_othersByLot_48 rfl ?_
          obtain ⟨u7, hu7, hF⟩ := bd_some hF
          refine wr_v (runVN (As := [.long (0 : Int64), .long ((gat ch_eligible 12 x3).toInt64), .long (0 : Int64), .long (((10 : Int32) - (gat ch_eligible 12 x3)).toInt64)]) (rest := []) X cq_X4_join lk_X0_77 (c_X4_join l D cI cJ cZ a w A 20 x4 (0 : Int64) ((gat ch_eligible 12 x3).toInt64) (0 : Int64) (((10 : Int32) - (gat ch_eligible 12 x3)).toInt64) u7 hu7 h20 h21 hD) rfl rfl ⟨Nat.le_of_ble_eq_true rfl, Nat.le_of_ble_eq_true rfl⟩ hP h20 rfl rfl hl.1 rfl (Nat.le_of_ble_eq_true rfl) dX0_othersByLot_49 ⟨Nat.le_of_ble_eq_true rfl, Nat.le_of_ble_eq_true rfl⟩) hS (fun w8 H locs hP hD hk hB hS => ?_)
          have h21 : w8[21]? = some (a 21, .inl (cJ, 169, .inr (.inl u7))) := hB
          have h16 := (hk 16 (by simp only [List.mem_cons, List.not_mem_nil, or_false, not_or]; omega)).trans h16
          have h20 := (hk 20 (by simp only [List.mem_cons, List.not_mem_nil, or_false, not_or]; omega)).trans h20
          have h18 := (hk 18 (by simp only [List.mem_cons, List.not_mem_nil, or_false, not_or]; omega)).trans h18
          replace hs := st_tr hk (fun j hj => by simp only [List.mem_cons, List.not_mem_nil, or_false] at hj ⊢; omega) hs
          refine lv_iinc (v := x3 + (1 : Int32)) (lv' := [(2, .int (x3 + (1 : Int32))), (0, .ref (a 16)), (1, .int p1)]) hx hb dX0_othersByLot_52 hl (k := 0) rfl rfl (by decide) rfl (fun ls hl => ?_)
          refine lv_goto (tgt := 9) hx hb dX0_othersByLot_55 (by decide) ?_
          obtain rfl := Option.some.inj hF
          exact ih _ _ _ hw _ _ _ hP hD hS hs h21 ls (lv_sub hl [0, 1, 2] rfl) hE
  obtain ⟨o9, ho9, hF⟩ := bd_some hF
  refine hL9 fu (0 : Int32) u1 o9 ho9 _ _ _ hP hD hS hs h21 ls (lv_sub hl [0, 1, 2] rfl) ?_
  intro _ q_o9 w H locs hP hD hS hs h21 ls hl
  subst q_o9
  have h16 := (hs 16 (by simp only [List.mem_cons, List.not_mem_nil, or_false, not_or]; omega)).trans z16
  have h20 := (hs 20 (by simp only [List.mem_cons, List.not_mem_nil, or_false, not_or]; omega)).trans z20
  have h18 := (hs 18 (by simp only [List.mem_cons, List.not_mem_nil, or_false, not_or]; omega)).trans z18
  refine lv_lconst (v := (0 : Int64)) hx hb dX0_othersByLot_58 (by decide) ?_
  refine lv_lstore_n (lv' := [(2, .long (0 : Int64)), (0, .ref (a 16))]) hx hb dX0_othersByLot_59 rfl hl (by decide) rfl (fun ls hl => ?_)
  refine lv_iconst (v := (0 : Int32)) hx hb dX0_othersByLot_60 (by decide) ?_
  refine lv_istore (lv' := [(4, .int (0 : Int32)), (2, .long (0 : Int64)), (0, .ref (a 16))]) hx hb dX0_othersByLot_61 hl (by decide) rfl (fun ls hl => ?_)
  have hL63 : ∀ (nf : Nat) (x10 : Int64) (x11 : Int32) (r : Int64), itr (fun v => FX0_othersByLot_S63 ch_pupils o9 v.1 v.2) nf (x10, x11) = some r → ∀ (wJ : va_W) (HJ : Heap) (lJ : List Loc), va_P D vwCl wJ HJ → va_D A wJ → va_S A s.heap HJ lJ → (∀ j : Nat, j ∉ [21] → wJ[j]? = ws0[j]?) → wJ[21]? = some (a 21, .inl (cJ, 169, .inr (.inl o9))) → ∀ ls, lv_has ls 5 [(4, .int x11), (2, .long x10), (0, .ref (a 16))] → (∀ o : Int64, r = o → ∀ (wK : va_W) (HK : Heap) (lK : List Loc), va_P D vwCl wK HK → va_D A wK → va_S A s.heap HK lK → (∀ j : Nat, j ∉ [21] → wK[j]? = ws0[j]?) → wK[21]? = some (a 21, .inl (cJ, 169, .inr (.inl o9))) → ∀ ls, lv_has ls 5 [(2, .long o)] → W p l e rm_X0_othersByLot s m args below meth c HK lK 0 0 Q (F0 m 99 ls [])) → W p l e rm_X0_othersByLot s m args below meth c HJ lJ 0 0 Q (F0 m 63 ls []) := by
    intro nf
    induction nf with
    | zero => intro _ _ r hF; exact (itr_0 hF).elim
    | succ nf ih =>
      intro x10 x11 r hF w H locs hP hD hS hs h21 ls hl hE
      obtain ⟨wo, hF, hw⟩ := itr_s hF
      replace hF : FX0_othersByLot_S63 ch_pupils o9 x10 x11 = some wo := hF
      have h16 := (hs 16 (by simp only [List.mem_cons, List.not_mem_nil, or_false, not_or]; omega)).trans z16
      have h20 := (hs 20 (by simp only [List.mem_cons, List.not_mem_nil, or_false, not_or]; omega)).trans z20
      have h18 := (hs 18 (by simp only [List.mem_cons, List.not_mem_nil, or_false, not_or]; omega)).trans z18
      unfold FX0_othersByLot_S63 at hF
      refine lv_iload hx hb dX0_othersByLot_63 (lv_at hl 0 rfl) ?_
      refine lv_aload_n hx hb dX0_othersByLot_65 rfl (lv_at hl 2 rfl) ?_
      refine gf_X0_34 hx hb hts hown hK hP h16 dX0_othersByLot_66 ?_
      refine lv_icmp_ge (tgt := 99) hx hb dX0_othersByLot_69 (by decide) (fun c12 => ?_) (fun c12 => ?_)
      · replace hF := (if_pos c12).symm.trans hF
        obtain rfl := Option.some.inj hF
        obtain rfl := hw
        exact hE _ rfl _ _ _ hP hD hS hs h21 ls (lv_sub hl [1] rfl)
      · replace hF := (if_neg c12).symm.trans hF
        refine lv_lload_n hx hb dX0_othersByLot_72 rfl (lv_at hl 1 rfl) ?_
        refine lv_aload_n hx hb dX0_othersByLot_73 rfl (lv_at hl 2 rfl) ?_
        refine gf_X0_24 hx hb hts hown hK hP h16 dX0_othersByLot_74 ?_
        refine lv_iload hx hb dX0_othersByLot_77 (lv_at hl 0 rfl) ?_
        refine lv_iconst (v := (0 : Int32)) hx hb dX0_othersByLot_79 (by decide) ?_
        refine rd_l (runVN (As := [.int x11, .int (0 : Int32)]) (rest := [.long x10]) X cq_X4_get lk_X0_81 (t_X4_get l D cI cJ cZ a w 20 o9 x11 (0 : Int32) _ rfl h20 h21) rfl rfl ⟨Nat.le_of_ble_eq_true rfl, Nat.le_of_ble_eq_true rfl⟩ hP h20 rfl rfl hl.1 rfl (Nat.le_of_ble_eq_true rfl) dX0_othersByLot_80 ⟨Nat.le_of_ble_eq_true rfl, Nat.le_of_ble_eq_true rfl⟩) ?_
        refine lv_iload hx hb dX0_othersByLot_83 (lv_at hl 0 rfl) ?_
        refine lv_iconst (v := (1 : Int32)) hx hb dX0_othersByLot_85 (by decide) ?_
        refine lv_iadd hx hb dX0_othersByLot_86 ?_
        refine rd_l (runSN (As := [.int (x11 + (1 : Int32))]) (rest := [.long (gget o9 x11 (0 : Int32)), .long x10]) X cq_X8_share lk_X0_85 (t_X8_share l D cI cJ cZ a w (x11 + (1 : Int32)) _ rfl ) rfl rfl ⟨Nat.le_of_ble_eq_true rfl, Nat.le_of_ble_eq_true rfl⟩ hP rfl hl.1 rfl (Nat.le_of_ble_eq_true rfl) dX0_othersByLot_87 ⟨Nat.le_of_ble_eq_true rfl, Nat.le_of_ble_eq_true rfl⟩) ?_
        refine lv_lmul hx hb dX0_othersByLot_90 ?_
        refine lv_ladd hx hb dX0_othersByLot_91 ?_
        refine lv_lstore_n (lv' := [(2, .long (x10 + ((gget o9 x11 (0 : Int32)) * (gshare (x11 + (1 : Int32)))))), (4, .int x11), (0, .ref (a 16))]) hx hb dX0_othersByLot_92 rfl hl (by decide) rfl (fun ls hl => ?_)
        refine lv_iinc (v := x11 + (1 : Int32)) (lv' := [(4, .int (x11 + (1 : Int32))), (2, .long (x10 + ((gget o9 x11 (0 : Int32)) * (gshare (x11 + (1 : Int32)))))), (0, .ref (a 16))]) hx hb dX0_othersByLot_93 hl (k := 1) rfl rfl (by decide) rfl (fun ls hl => ?_)
        refine lv_goto (tgt := 63) hx hb dX0_othersByLot_96 (by decide) ?_
        obtain rfl := Option.some.inj hF
        exact ih _ _ _ hw _ _ _ hP hD hS hs h21 ls (lv_sub hl [0, 1, 2] rfl) hE
  obtain ⟨o13, ho13, hF⟩ := bd_some hF
  refine hL63 fu (0 : Int64) (0 : Int32) o13 ho13 _ _ _ hP hD hS hs h21 ls (lv_sub hl [0, 1, 2] rfl) ?_
  intro _ q_o13 w H locs hP hD hS hs h21 ls hl
  subst q_o13
  have h16 := (hs 16 (by simp only [List.mem_cons, List.not_mem_nil, or_false, not_or]; omega)).trans z16
  have h20 := (hs 20 (by simp only [List.mem_cons, List.not_mem_nil, or_false, not_or]; omega)).trans z20
  have h18 := (hs 18 (by simp only [List.mem_cons, List.not_mem_nil, or_false, not_or]; omega)).trans z18
  refine lv_lload_n hx hb dX0_othersByLot_99 rfl (lv_at hl 0 rfl) ?_
  obtain rfl := Option.some.inj hF
  rw [hQ]
  exact rw_l X hS hP hD hs h21 dX0_othersByLot_100
def FX0_othersByRank_J72L5 (x10 : Int32) (x11 : Int64) (x12 : Int64) : Option ((Int64 × Int32) ⊕ (Int64)) :=
  some (.inl (x11 * x12, x10 + (1 : Int32)))
def FX0_othersByRank_J45L5 (ch_eligible : Nat → Int32) (x6 : Int32) (x7 : Int64) (x8 : Int32) : Option ((Int64 × Int32) ⊕ (Int64)) :=
  if x8 = 0 then (FX0_othersByRank_J72L5 x6 x7 (10 : Int64)) else (FX0_othersByRank_J72L5 x6 x7 (((10 : Int32) - (gat ch_eligible 12 x6)).toInt64))
def FX0_othersByRank_S5 (ch_pupils : Int32) (ch_ranks : Nat → Int32) (ch_eligible : Nat → Int32) (p1 : Int32) (x1 : Int64) (x2 : Int32) : Option ((Int64 × Int32) ⊕ (Int64)) :=
  if ch_pupils ≤ x2 then (some (.inr x1)) else (if x2 = p1 then (some (.inl (x1, x2 + (1 : Int32)))) else (if (gat ch_ranks 12 p1) ≤ (gat ch_ranks 12 x2) then (FX0_othersByRank_J45L5 ch_eligible x2 x1 (0 : Int32)) else (FX0_othersByRank_J45L5 ch_eligible x2 x1 (1 : Int32))))
def FX0_othersByRank (ch_pupils : Int32) (ch_ranks : Nat → Int32) (ch_eligible : Nat → Int32) (p1 : Int32) : Option (Int64) :=
  (itr (fun v => FX0_othersByRank_S5 ch_pupils ch_ranks ch_eligible p1 v.1 v.2) fu ((1 : Int64), (0 : Int32))).bind fun o13 => some o13
def rm_X0_othersByRank : Room := { frames := 1, cells := 0, slots := 0, locals := 21 }
set_option maxHeartbeats 4000000 in
set_option maxRecDepth 100000 in
theorem c_X0_othersByRank (l : Launch) (D : va_G) (cI cJ cZ : ClassId) (a : Nat → Nat) (ws0 : va_W)  (ch_pupils : Int32) (ch_rule : Int32) (ch_ranks : Nat → Int32) (ch_eligible : Nat → Int32) (p1 : Int32) (u : Int64) (hF : FX0_othersByRank ch_pupils ch_ranks ch_eligible p1 = some u) (h16 : ws0[16]? = some (a 16, .inr (0, [.ref (a 17), .ref (a 18), .ref (a 19), .ref (a 20), .int ch_pupils, .int ch_rule]))) (h17 : ws0[17]? = some (a 17, .inl (cI, 12, .inl ch_ranks))) (h18 : ws0[18]? = some (a 18, .inl (cI, 12, .inl ch_eligible))) : Met l yX0_othersByRank (wq yX0_othersByRank cX0_othersByRank 6 (some .long)) rm_X0_othersByRank (Pq [.ref (a 16), .int p1] D cI cJ cZ ws0) (Qq (some (.long u))) 0 0 (fun _ => False) := by
  refine mq_of (by decide) (Nat.le_of_ble_eq_true rfl) (fun p e s m args below meth c ls Q hQ X _ hP hl => ?_)
  obtain ⟨hx, hb, hr, hml, hown, hts, hlk, hK, hN⟩ := id X
  have hown : s.vm.findClass RX0 = some m.cls := hown
  have hl : lv_has ls 6 [(0, .ref (a 16)), (1, .int p1)] := hl
  unfold FX0_othersByRank at hF
  refine lv_lconst (v := (1 : Int64)) hx hb dX0_othersByRank_0 (by decide) ?_
  refine lv_lstore_n (lv' := [(2, .long (1 : Int64)), (0, .ref (a 16)), (1, .int p1)]) hx hb dX0_othersByRank_1 rfl hl (by decide) rfl (fun ls hl => ?_)
  refine lv_iconst (v := (0 : Int32)) hx hb dX0_othersByRank_2 (by decide) ?_
  refine lv_istore (lv' := [(4, .int (0 : Int32)), (2, .long (1 : Int64)), (0, .ref (a 16)), (1, .int p1)]) hx hb dX0_othersByRank_3 hl (by decide) rfl (fun ls hl => ?_)
  have hL5 : ∀ (nf : Nat) (x1 : Int64) (x2 : Int32) (r : Int64), itr (fun v => FX0_othersByRank_S5 ch_pupils ch_ranks ch_eligible p1 v.1 v.2) nf (x1, x2) = some r → ∀ ls, lv_has ls 6 [(4, .int x2), (2, .long x1), (0, .ref (a 16)), (1, .int p1)] → (∀ o : Int64, r = o → ∀ ls, lv_has ls 6 [(2, .long o)] → W p l e rm_X0_othersByRank s m args below meth c s.heap [] 0 0 Q (F0 m 80 ls [])) → W p l e rm_X0_othersByRank s m args below meth c s.heap [] 0 0 Q (F0 m 5 ls []) := by
    intro nf
    induction nf with
    | zero => intro _ _ r hF; exact (itr_0 hF).elim
    | succ nf ih =>
      intro x1 x2 r hF ls hl hE
      obtain ⟨wo, hF, hw⟩ := itr_s hF
      replace hF : FX0_othersByRank_S5 ch_pupils ch_ranks ch_eligible p1 x1 x2 = some wo := hF
      have hJ72 : ∀ (x10 : Int32) (x11 : Int64) (x12 : Int64), ∀ ls, lv_has ls 6 [(4, .int x10), (0, .ref (a 16)), (1, .int p1)] → FX0_othersByRank_J72L5 x10 x11 x12 = some wo → W p l e rm_X0_othersByRank s m args below meth c s.heap [] 0 0 Q (F0 m 72 ls [.long x12, .long x11]) := by
        intro x10 x11 x12 ls hl hF
        unfold FX0_othersByRank_J72L5 at hF
        refine lv_lmul hx hb dX0_othersByRank_72 ?_
        refine lv_lstore_n (lv' := [(2, .long (x11 * x12)), (4, .int x10), (0, .ref (a 16)), (1, .int p1)]) hx hb dX0_othersByRank_73 rfl hl (by decide) rfl (fun ls hl => ?_)
        refine lv_iinc (v := x10 + (1 : Int32)) (lv' := [(4, .int (x10 + (1 : Int32))), (2, .long (x11 * x12)), (0, .ref (a 16)), (1, .int p1)]) hx hb dX0_othersByRank_74 hl (k := 1) rfl rfl (by decide) rfl (fun ls hl => ?_)
        refine lv_goto (tgt := 5) hx hb dX0_othersByRank_77 (by decide) ?_
        obtain rfl := Option.some.inj hF
        exact ih _ _ _ hw ls (lv_sub hl [0, 1, 2, 3] rfl) hE
      have hJ45 : ∀ (x6 : Int32) (x7 : Int64) (x8 : Int32), ∀ ls, lv_has ls 6 [(4, .int x6), (2, .long x7), (0, .ref (a 16)), (1, .int p1)] → FX0_othersByRank_J45L5 ch_eligible x6 x7 x8 = some wo → W p l e rm_X0_othersByRank s m args below meth c s.heap [] 0 0 Q (F0 m 45 ls [.int x8]) := by
        intro x6 x7 x8 ls hl hF
        unfold FX0_othersByRank_J45L5 at hF
        refine lv_istore (lv' := [(5, .int x8), (4, .int x6), (2, .long x7), (0, .ref (a 16)), (1, .int p1)]) hx hb dX0_othersByRank_45 hl (by decide) rfl (fun ls hl => ?_)
        refine lv_lload_n hx hb dX0_othersByRank_47 rfl (lv_at hl 2 rfl) ?_
        refine lv_iload hx hb dX0_othersByRank_48 (lv_at hl 0 rfl) ?_
        refine lv_if_eq (tgt := 69) hx hb dX0_othersByRank_50 (by decide) (fun c9 => ?_) (fun c9 => ?_)
        · replace hF := (if_pos c9).symm.trans hF
          refine lv_ldc2 (v := (10 : Int64)) hx hb hown (hts _ kl_X0_59) dX0_othersByRank_69 ?_
          exact hJ72 x6 x7 (10 : Int64) ls (lv_sub hl [1, 3, 4] rfl) hF
        · replace hF := (if_neg c9).symm.trans hF
          refine lv_bipush (v := (10 : Int32)) hx hb dX0_othersByRank_53 (by decide) ?_
          refine lv_aload_n hx hb dX0_othersByRank_55 rfl (lv_at hl 3 rfl) ?_
          refine gf_X0_15 hx hb hts hown hK hP h16 dX0_othersByRank_56 ?_
          refine lv_iload hx hb dX0_othersByRank_59 (lv_at hl 1 rfl) ?_
          refine rd_i (runSN (As := [.ref (a 18), .int x6]) (rest := [.int (10 : Int32), .long x7]) X cq_X8_at lk_X0_61 (t_X8_at l D cI cJ cZ a ws0 18 ch_eligible 12 x6 _ rfl h18 (by decide)) rfl rfl ⟨Nat.le_of_ble_eq_true rfl, Nat.le_of_ble_eq_true rfl⟩ hP rfl hl.1 rfl (Nat.le_of_ble_eq_true rfl) dX0_othersByRank_61 ⟨Nat.le_of_ble_eq_true rfl, Nat.le_of_ble_eq_true rfl⟩) ?_
          refine lv_isub hx hb dX0_othersByRank_64 ?_
          refine lv_i2l hx hb dX0_othersByRank_65 rfl ?_
          refine lv_goto (tgt := 72) hx hb dX0_othersByRank_66 (by decide) ?_
          exact hJ72 x6 x7 (((10 : Int32) - (gat ch_eligible 12 x6)).toInt64) ls (lv_sub hl [1, 3, 4] rfl) hF
      unfold FX0_othersByRank_S5 at hF
      refine lv_iload hx hb dX0_othersByRank_5 (lv_at hl 0 rfl) ?_
      refine lv_aload_n hx hb dX0_othersByRank_7 rfl (lv_at hl 2 rfl) ?_
      refine gf_X0_34 hx hb hts hown hK hP h16 dX0_othersByRank_8 ?_
      refine lv_icmp_ge (tgt := 80) hx hb dX0_othersByRank_11 (by decide) (fun c3 => ?_) (fun c3 => ?_)
      · replace hF := (if_pos c3).symm.trans hF
        obtain rfl := Option.some.inj hF
        obtain rfl := hw
        exact hE _ rfl ls (lv_sub hl [1] rfl)
      · replace hF := (if_neg c3).symm.trans hF
        refine lv_iload hx hb dX0_othersByRank_14 (lv_at hl 0 rfl) ?_
        refine lv_iload_n hx hb dX0_othersByRank_16 rfl (lv_at hl 3 rfl) ?_
        refine lv_icmp_eq (tgt := 74) hx hb dX0_othersByRank_17 (by decide) (fun c4 => ?_) (fun c4 => ?_)
        · replace hF := (if_pos c4).symm.trans hF
          refine lv_iinc (v := x2 + (1 : Int32)) (lv' := [(4, .int (x2 + (1 : Int32))), (2, .long x1), (0, .ref (a 16)), (1, .int p1)]) hx hb dX0_othersByRank_74 hl (k := 0) rfl rfl (by decide) rfl (fun ls hl => ?_)
          refine lv_goto (tgt := 5) hx hb dX0_othersByRank_77 (by decide) ?_
          obtain rfl := Option.some.inj hF
          exact ih _ _ _ hw ls (lv_sub hl [0, 1, 2, 3] rfl) hE
        · replace hF := (if_neg c4).symm.trans hF
          refine lv_aload_n hx hb dX0_othersByRank_20 rfl (lv_at hl 2 rfl) ?_
          refine gf_X0_9 hx hb hts hown hK hP h16 dX0_othersByRank_21 ?_
          refine lv_iload hx hb dX0_othersByRank_24 (lv_at hl 0 rfl) ?_
          refine rd_i (runSN (As := [.ref (a 17), .int x2]) (rest := []) X cq_X8_at lk_X0_61 (t_X8_at l D cI cJ cZ a ws0 17 ch_ranks 12 x2 _ rfl h17 (by decide)) rfl rfl ⟨Nat.le_of_ble_eq_true rfl, Nat.le_of_ble_eq_true rfl⟩ hP rfl hl.1 rfl (Nat.le_of_ble_eq_true rfl) dX0_othersByRank_26 ⟨Nat.le_of_ble_eq_true rfl, Nat.le_of_ble_eq_true rfl⟩) ?_
          refine lv_aload_n hx hb dX0_othersByRank_29 rfl (lv_at hl 2 rfl) ?_
          refine gf_X0_9 hx hb hts hown hK hP h16 dX0_othersByRank_30 ?_
          refine lv_iload_n hx hb dX0_othersByRank_33 rfl (lv_at hl 3 rfl) ?_
          refine rd_i (runSN (As := [.ref (a 17), .int p1]) (rest := [.int (gat ch_ranks 12 x2)]) X cq_X8_at lk_X0_61 (t_X8_at l D cI cJ cZ a ws0 17 ch_ranks 12 p1 _ rfl h17 (by decide)) rfl rfl ⟨Nat.le_of_ble_eq_true rfl, Nat.le_of_ble_eq_true rfl⟩ hP rfl hl.1 rfl (Nat.le_of_ble_eq_true rfl) dX0_othersByRank_34 ⟨Nat.le_of_ble_eq_true rfl, Nat.le_of_ble_eq_true rfl⟩) ?_
          refine lv_icmp_ge (tgt := 44) hx hb dX0_othersByRank_37 (by decide) (fun c5 => ?_) (fun c5 => ?_)
          · replace hF := (if_pos c5).symm.trans hF
            refine lv_iconst (v := (0 : Int32)) hx hb dX0_othersByRank_44 (by decide) ?_
            exact hJ45 x2 x1 (0 : Int32) ls (lv_sub hl [0, 1, 2, 3] rfl) hF
          · replace hF := (if_neg c5).symm.trans hF
            refine lv_iconst (v := (1 : Int32)) hx hb dX0_othersByRank_40 (by decide) ?_
            refine lv_goto (tgt := 45) hx hb dX0_othersByRank_41 (by decide) ?_
            exact hJ45 x2 x1 (1 : Int32) ls (lv_sub hl [0, 1, 2, 3] rfl) hF
  obtain ⟨o13, ho13, hF⟩ := bd_some hF
  refine hL5 fu (1 : Int64) (0 : Int32) o13 ho13 ls (lv_sub hl [0, 1, 2, 3] rfl) ?_
  intro _ q_o13 ls hl
  subst q_o13
  refine lv_lload_n hx hb dX0_othersByRank_80 rfl (lv_at hl 0 rfl) ?_
  obtain rfl := Option.some.inj hF
  rw [hQ]
  exact rt_l X dX0_othersByRank_81
def FX0_weightOfOthers (ch_pupils : Int32) (ch_rule : Int32) (ch_eligible : Nat → Int32) (ch_cells : Nat → Int64) (ch_ranks : Nat → Int32) (p1 : Int32) : Option (Int64 × (Nat → Int64)) :=
  if ch_rule = (2 : Int32) then ((FX0_othersByLot ch_pupils ch_cells ch_eligible p1).bind fun u2 => some (u2.1, u2.2)) else if ch_rule = (3 : Int32) then (some ((1 : Int64), ch_cells)) else (FX0_othersByRank ch_pupils ch_ranks ch_eligible p1).bind fun x5 => some (x5, ch_cells)
def rm_X0_weightOfOthers : Room := { frames := 3, cells := 0, slots := 0, locals := 78 }
set_option maxHeartbeats 4000000 in
set_option maxRecDepth 100000 in
theorem c_X0_weightOfOthers (l : Launch) (D : va_G) (cI cJ cZ : ClassId) (a : Nat → Nat) (ws0 : va_W) (A : Nat → Prop)  (ch_pupils : Int32) (ch_rule : Int32) (ch_eligible : Nat → Int32) (ch_cells : Nat → Int64) (ch_ranks : Nat → Int32) (p1 : Int32) (u : Int64 × (Nat → Int64)) (hF : FX0_weightOfOthers ch_pupils ch_rule ch_eligible ch_cells ch_ranks p1 = some u) (z16 : ws0[16]? = some (a 16, .inr (0, [.ref (a 17), .ref (a 18), .ref (a 19), .ref (a 20), .int ch_pupils, .int ch_rule]))) (z17 : ws0[17]? = some (a 17, .inl (cI, 12, .inl ch_ranks))) (z18 : ws0[18]? = some (a 18, .inl (cI, 12, .inl ch_eligible))) (z20 : ws0[20]? = some (a 20, .inr (4, [.ref (a 21)]))) (z21 : ws0[21]? = some (a 21, .inl (cJ, 169, .inr (.inl ch_cells)))) (hD : va_D A ws0) : Met l yX0_weightOfOthers (wq yX0_weightOfOthers cX0_weightOfOthers 2 (some .long)) rm_X0_weightOfOthers (Pq [.ref (a 16), .int p1] D cI cJ cZ ws0) (Qw D A ws0 [21] (some (.long u.1)) (fun w => w[21]? = some (a 21, .inl (cJ, 169, .inr (.inl u.2))))) 0 0 A := by
  refine mq_of (by decide) (Nat.le_of_ble_eq_true rfl) (fun p e s m args below meth c ls Q hQ X _ hP hl => ?_)
  obtain ⟨hx, hb, hr, hml, hown, hts, hlk, hK, hN⟩ := id X
  have hown : s.vm.findClass RX0 = some m.cls := hown
  have hl : lv_has ls 2 [(0, .ref (a 16)), (1, .int p1)] := hl
  have hS : va_S A s.heap s.heap [] := va_S.rf
  have hs : ∀ j : Nat, j ∉ [21] → ws0[j]? = ws0[j]? := fun _ _ => rfl
  have h16 := z16
  have h17 := z17
  have h18 := z18
  have h20 := z20
  have h21 := z21
  unfold FX0_weightOfOthers at hF
  refine lv_aload_n hx hb dX0_weightOfOthers_0 rfl (lv_at hl 0 rfl) ?_
  refine gf_X0_35 hx hb hts hown hK hP h16 dX0_weightOfOthers_1 ?_
  by_cases c1 : ch_rule = (2 : Int32)
  · replace hF := (if_pos c1).symm.trans hF
    refine lv_lookup (tgt := 32) (off := 28) hx hb dX0_weightOfOthers_4 (by decide) (by rw [c1]; decide) (by decide) ?_
    refine lv_aload_n hx hb dX0_weightOfOthers_32 rfl (lv_at hl 0 rfl) ?_
    refine lv_iload_n hx hb dX0_weightOfOthers_33 rfl (lv_at hl 1 rfl) ?_
    obtain ⟨u2, hu2, hF⟩ := bd_some hF
    refine wr_l (runV (As := [.int p1]) (rest := []) X cq_X0_othersByLot lk_X0_68 (c_X0_othersByLot l D cI cJ cZ a ws0 A ch_pupils ch_rule ch_cells ch_eligible p1 u2 hu2 h16 h18 h20 h21 hD) rfl rfl ⟨Nat.le_of_ble_eq_true rfl, Nat.le_of_ble_eq_true rfl⟩ hP h16 rfl rfl hl.1 rfl (Nat.le_of_ble_eq_true rfl) dX0_weightOfOthers_34 ⟨Nat.le_of_ble_eq_true rfl, Nat.le_of_ble_eq_true rfl⟩) hS (fun w3 H locs hP hD hk hB hS => ?_)
    have h21 : w3[21]? = some (a 21, .inl (cJ, 169, .inr (.inl u2.2))) := hB
    have h16 := (hk 16 (by simp only [List.mem_cons, List.not_mem_nil, or_false, not_or]; omega)).trans h16
    have h18 := (hk 18 (by simp only [List.mem_cons, List.not_mem_nil, or_false, not_or]; omega)).trans h18
    have h20 := (hk 20 (by simp only [List.mem_cons, List.not_mem_nil, or_false, not_or]; omega)).trans h20
    have h17 := (hk 17 (by simp only [List.mem_cons, List.not_mem_nil, or_false, not_or]; omega)).trans h17
    replace hs := st_tr hk (fun j hj => by simp only [List.mem_cons, List.not_mem_nil, or_false] at hj ⊢; omega) hs
    obtain rfl := Option.some.inj hF
    rw [hQ]
    exact rw_l X hS hP hD hs h21 dX0_weightOfOthers_37
  replace hF := (if_neg c1).symm.trans hF
  by_cases c4 : ch_rule = (3 : Int32)
  · replace hF := (if_pos c4).symm.trans hF
    refine lv_lookup (tgt := 38) (off := 34) hx hb dX0_weightOfOthers_4 (by decide) (by rw [c4]; decide) (by decide) ?_
    refine lv_lconst (v := (1 : Int64)) hx hb dX0_weightOfOthers_38 (by decide) ?_
    obtain rfl := Option.some.inj hF
    rw [hQ]
    exact rw_l X hS hP hD hs h21 dX0_weightOfOthers_39
  replace hF := (if_neg c4).symm.trans hF
  have zc1 : ¬ ch_rule.toInt = 2 := fun q => c1 (Int32.toInt_inj.mp (q.trans (by decide)))
  have zc4 : ¬ ch_rule.toInt = 3 := fun q => c4 (Int32.toInt_inj.mp (q.trans (by decide)))
  refine lv_lookup (tgt := 40) (off := 36) hx hb dX0_weightOfOthers_4 (by decide) (by simp [Op.lookupswitch.offset, Ne.symm, eq_comm, zc1, zc4]) (by decide) ?_
  refine lv_aload_n hx hb dX0_weightOfOthers_40 rfl (lv_at hl 0 rfl) ?_
  refine lv_iload_n hx hb dX0_weightOfOthers_41 rfl (lv_at hl 1 rfl) ?_
  obtain ⟨x5, hx5, hF⟩ := bd_some hF
  refine rd_l (runV (As := [.int p1]) (rest := []) X cq_X0_othersByRank lk_X0_71 (c_X0_othersByRank l D cI cJ cZ a ws0 ch_pupils ch_rule ch_ranks ch_eligible p1 x5 hx5 h16 h17 h18) rfl rfl ⟨Nat.le_of_ble_eq_true rfl, Nat.le_of_ble_eq_true rfl⟩ hP h16 rfl rfl hl.1 rfl (Nat.le_of_ble_eq_true rfl) dX0_weightOfOthers_42 ⟨Nat.le_of_ble_eq_true rfl, Nat.le_of_ble_eq_true rfl⟩) ?_
  obtain rfl := Option.some.inj hF
  rw [hQ]
  exact rw_l X hS hP hD hs h21 dX0_weightOfOthers_45
def FX0_weightOfTaken (ch_pupils : Int32) (ch_rule : Int32) (ch_eligible : Nat → Int32) (ch_ranks : Nat → Int32) (ch_cells : Nat → Int64) (p1 : Int32) : Option (Int64 × (Nat → Int64)) :=
  (FX0_weightOfOthers ch_pupils ch_rule ch_eligible ch_cells ch_ranks p1).bind fun u1 => some (((gat ch_eligible 12 p1).toInt64) * u1.1, u1.2)
def rm_X0_weightOfTaken : Room := { frames := 4, cells := 0, slots := 0, locals := 99 }
set_option maxHeartbeats 4000000 in
set_option maxRecDepth 100000 in
theorem c_X0_weightOfTaken (l : Launch) (D : va_G) (cI cJ cZ : ClassId) (a : Nat → Nat) (ws0 : va_W) (A : Nat → Prop)  (ch_pupils : Int32) (ch_rule : Int32) (ch_eligible : Nat → Int32) (ch_ranks : Nat → Int32) (ch_cells : Nat → Int64) (p1 : Int32) (u : Int64 × (Nat → Int64)) (hF : FX0_weightOfTaken ch_pupils ch_rule ch_eligible ch_ranks ch_cells p1 = some u) (z16 : ws0[16]? = some (a 16, .inr (0, [.ref (a 17), .ref (a 18), .ref (a 19), .ref (a 20), .int ch_pupils, .int ch_rule]))) (z17 : ws0[17]? = some (a 17, .inl (cI, 12, .inl ch_ranks))) (z18 : ws0[18]? = some (a 18, .inl (cI, 12, .inl ch_eligible))) (z20 : ws0[20]? = some (a 20, .inr (4, [.ref (a 21)]))) (z21 : ws0[21]? = some (a 21, .inl (cJ, 169, .inr (.inl ch_cells)))) (hD : va_D A ws0) : Met l yX0_weightOfTaken (wq yX0_weightOfTaken cX0_weightOfTaken 2 (some .long)) rm_X0_weightOfTaken (Pq [.ref (a 16), .int p1] D cI cJ cZ ws0) (Qw D A ws0 [21] (some (.long u.1)) (fun w => w[21]? = some (a 21, .inl (cJ, 169, .inr (.inl u.2))))) 0 0 A := by
  refine mq_of (by decide) (Nat.le_of_ble_eq_true rfl) (fun p e s m args below meth c ls Q hQ X _ hP hl => ?_)
  obtain ⟨hx, hb, hr, hml, hown, hts, hlk, hK, hN⟩ := id X
  have hown : s.vm.findClass RX0 = some m.cls := hown
  have hl : lv_has ls 2 [(0, .ref (a 16)), (1, .int p1)] := hl
  have hS : va_S A s.heap s.heap [] := va_S.rf
  have hs : ∀ j : Nat, j ∉ [21] → ws0[j]? = ws0[j]? := fun _ _ => rfl
  have h16 := z16
  have h17 := z17
  have h18 := z18
  have h20 := z20
  have h21 := z21
  unfold FX0_weightOfTaken at hF
  refine lv_aload_n hx hb dX0_weightOfTaken_0 rfl (lv_at hl 0 rfl) ?_
  refine gf_X0_15 hx hb hts hown hK hP h16 dX0_weightOfTaken_1 ?_
  refine lv_iload_n hx hb dX0_weightOfTaken_4 rfl (lv_at hl 1 rfl) ?_
  refine rd_i (runSN (As := [.ref (a 18), .int p1]) (rest := []) X cq_X8_at lk_X0_61 (t_X8_at l D cI cJ cZ a ws0 18 ch_eligible 12 p1 _ rfl h18 (by decide)) rfl rfl ⟨Nat.le_of_ble_eq_true rfl, Nat.le_of_ble_eq_true rfl⟩ hP rfl hl.1 rfl (Nat.le_of_ble_eq_true rfl) dX0_weightOfTaken_5 ⟨Nat.le_of_ble_eq_true rfl, Nat.le_of_ble_eq_true rfl⟩) ?_
  refine lv_i2l hx hb dX0_weightOfTaken_8 rfl ?_
  refine lv_aload_n hx hb dX0_weightOfTaken_9 rfl (lv_at hl 0 rfl) ?_
  refine lv_iload_n hx hb dX0_weightOfTaken_10 rfl (lv_at hl 1 rfl) ?_
  obtain ⟨u1, hu1, hF⟩ := bd_some hF
  refine wr_l (runV (As := [.int p1]) (rest := [.long ((gat ch_eligible 12 p1).toInt64)]) X cq_X0_weightOfOthers lk_X0_65 (c_X0_weightOfOthers l D cI cJ cZ a ws0 A ch_pupils ch_rule ch_eligible ch_cells ch_ranks p1 u1 hu1 h16 h17 h18 h20 h21 hD) rfl rfl ⟨Nat.le_of_ble_eq_true rfl, Nat.le_of_ble_eq_true rfl⟩ hP h16 rfl rfl hl.1 rfl (Nat.le_of_ble_eq_true rfl) dX0_weightOfTaken_11 ⟨Nat.le_of_ble_eq_true rfl, Nat.le_of_ble_eq_true rfl⟩) hS (fun w2 H locs hP hD hk hB hS => ?_)
  have h21 : w2[21]? = some (a 21, .inl (cJ, 169, .inr (.inl u1.2))) := hB
  have h16 := (hk 16 (by simp only [List.mem_cons, List.not_mem_nil, or_false, not_or]; omega)).trans h16
  have h18 := (hk 18 (by simp only [List.mem_cons, List.not_mem_nil, or_false, not_or]; omega)).trans h18
  have h17 := (hk 17 (by simp only [List.mem_cons, List.not_mem_nil, or_false, not_or]; omega)).trans h17
  have h20 := (hk 20 (by simp only [List.mem_cons, List.not_mem_nil, or_false, not_or]; omega)).trans h20
  replace hs := st_tr hk (fun j hj => by simp only [List.mem_cons, List.not_mem_nil, or_false] at hj ⊢; omega) hs
  refine lv_lmul hx hb dX0_weightOfTaken_14 ?_
  obtain rfl := Option.some.inj hF
  rw [hQ]
  exact rw_l X hS hP hD hs h21 dX0_weightOfTaken_15
def FX0_weightOfAll (ch_pupils : Int32) (ch_rule : Int32) : Option (Int64) :=
  if ch_rule = (2 : Int32) then ((FX8_tenTo ch_pupils).bind fun x2 => some ((27720 : Int64) * x2)) else if ch_rule = (3 : Int32) then (some ((10 : Int64) * ch_pupils.toInt64)) else (FX8_tenTo ch_pupils).bind fun x4 => some x4
def rm_X0_weightOfAll : Room := { frames := 1, cells := 0, slots := 0, locals := 23 }
set_option maxHeartbeats 4000000 in
set_option maxRecDepth 100000 in
theorem c_X0_weightOfAll (l : Launch) (D : va_G) (cI cJ cZ : ClassId) (a : Nat → Nat) (ws0 : va_W)  (ch_pupils : Int32) (ch_rule : Int32)  (u : Int64) (hF : FX0_weightOfAll ch_pupils ch_rule = some u) (h16 : ws0[16]? = some (a 16, .inr (0, [.ref (a 17), .ref (a 18), .ref (a 19), .ref (a 20), .int ch_pupils, .int ch_rule]))) : Met l yX0_weightOfAll (wq yX0_weightOfAll cX0_weightOfAll 1 (some .long)) rm_X0_weightOfAll (Pq [.ref (a 16)] D cI cJ cZ ws0) (Qq (some (.long u))) 0 0 (fun _ => False) := by
  refine mq_of (by decide) (Nat.le_of_ble_eq_true rfl) (fun p e s m args below meth c ls Q hQ X _ hP hl => ?_)
  obtain ⟨hx, hb, hr, hml, hown, hts, hlk, hK, hN⟩ := id X
  have hown : s.vm.findClass RX0 = some m.cls := hown
  have hl : lv_has ls 1 [(0, .ref (a 16))] := hl
  unfold FX0_weightOfAll at hF
  refine lv_aload_n hx hb dX0_weightOfAll_0 rfl (lv_at hl 0 rfl) ?_
  refine gf_X0_35 hx hb hts hown hK hP h16 dX0_weightOfAll_1 ?_
  by_cases c1 : ch_rule = (2 : Int32)
  · replace hF := (if_pos c1).symm.trans hF
    refine lv_lookup (tgt := 32) (off := 28) hx hb dX0_weightOfAll_4 (by decide) (by rw [c1]; decide) (by decide) ?_
    refine lv_ldc2 (v := (27720 : Int64)) hx hb hown (hts _ kl_X0_53) dX0_weightOfAll_32 ?_
    refine lv_aload_n hx hb dX0_weightOfAll_35 rfl (lv_at hl 0 rfl) ?_
    refine gf_X0_34 hx hb hts hown hK hP h16 dX0_weightOfAll_36 ?_
    obtain ⟨x2, hx2, hF⟩ := bd_some hF
    refine rd_l (runSN (As := [.int ch_pupils]) (rest := [.long (27720 : Int64)]) X cq_X8_tenTo lk_X0_55 (c_X8_tenTo l D cI cJ cZ a ws0 ch_pupils x2 hx2 ) rfl rfl ⟨Nat.le_of_ble_eq_true rfl, Nat.le_of_ble_eq_true rfl⟩ hP rfl hl.1 rfl (Nat.le_of_ble_eq_true rfl) dX0_weightOfAll_39 ⟨Nat.le_of_ble_eq_true rfl, Nat.le_of_ble_eq_true rfl⟩) ?_
    refine lv_lmul hx hb dX0_weightOfAll_42 ?_
    obtain rfl := Option.some.inj hF
    rw [hQ]
    exact rt_l X dX0_weightOfAll_43
  replace hF := (if_neg c1).symm.trans hF
  by_cases c3 : ch_rule = (3 : Int32)
  · replace hF := (if_pos c3).symm.trans hF
    refine lv_lookup (tgt := 44) (off := 40) hx hb dX0_weightOfAll_4 (by decide) (by rw [c3]; decide) (by decide) ?_
    refine lv_ldc2 (v := (10 : Int64)) hx hb hown (hts _ kl_X0_59) dX0_weightOfAll_44 ?_
    refine lv_aload_n hx hb dX0_weightOfAll_47 rfl (lv_at hl 0 rfl) ?_
    refine gf_X0_34 hx hb hts hown hK hP h16 dX0_weightOfAll_48 ?_
    refine lv_i2l hx hb dX0_weightOfAll_51 rfl ?_
    refine lv_lmul hx hb dX0_weightOfAll_52 ?_
    obtain rfl := Option.some.inj hF
    rw [hQ]
    exact rt_l X dX0_weightOfAll_53
  replace hF := (if_neg c3).symm.trans hF
  have zc1 : ¬ ch_rule.toInt = 2 := fun q => c1 (Int32.toInt_inj.mp (q.trans (by decide)))
  have zc3 : ¬ ch_rule.toInt = 3 := fun q => c3 (Int32.toInt_inj.mp (q.trans (by decide)))
  refine lv_lookup (tgt := 54) (off := 50) hx hb dX0_weightOfAll_4 (by decide) (by simp [Op.lookupswitch.offset, Ne.symm, eq_comm, zc1, zc3]) (by decide) ?_
  refine lv_aload_n hx hb dX0_weightOfAll_54 rfl (lv_at hl 0 rfl) ?_
  refine gf_X0_34 hx hb hts hown hK hP h16 dX0_weightOfAll_55 ?_
  obtain ⟨x4, hx4, hF⟩ := bd_some hF
  refine rd_l (runSN (As := [.int ch_pupils]) (rest := []) X cq_X8_tenTo lk_X0_55 (c_X8_tenTo l D cI cJ cZ a ws0 ch_pupils x4 hx4 ) rfl rfl ⟨Nat.le_of_ble_eq_true rfl, Nat.le_of_ble_eq_true rfl⟩ hP rfl hl.1 rfl (Nat.le_of_ble_eq_true rfl) dX0_weightOfAll_58 ⟨Nat.le_of_ble_eq_true rfl, Nat.le_of_ble_eq_true rfl⟩) ?_
  obtain rfl := Option.some.inj hF
  rw [hQ]
  exact rt_l X dX0_weightOfAll_61
def FX8_taken (ro_pupils : Int32) (ro_mood : Int32) (ro_letters : Nat → Int32) (ro_rows : Nat → Int32) (ro_columns : Nat → Int32) (ro_tenths : Nat → Int32) (ro_needs : Nat → Int32) (le_dares : Nat → Int32) (le_times : Nat → Int32) (ch_pupils : Int32) (ch_rule : Int32) (ch_ranks : Nat → Int32) (ch_eligible : Nat → Int32) (ch_eligibleAndRight : Nat → Int32) (ch_cells : Nat → Int64) (p1 : Int32) (p2 : Int32) (p3 : Int32) (p4 : Int32) : Option (Int64 × Int32 × Int32 × (Nat → Int32) × (Nat → Int32) × (Nat → Int32) × (Nat → Int64)) :=
  if (FX3_lacks ro_pupils p1) = true then (some ((-1 : Int64), ch_pupils, ch_rule, ch_ranks, ch_eligible, ch_eligibleAndRight, ch_cells)) else (if (FX8_noRule p3) = true then (some ((-1 : Int64), ch_pupils, ch_rule, ch_ranks, ch_eligible, ch_eligibleAndRight, ch_cells)) else (if (FX8_noSeconds p2) = true then (some ((-2 : Int64), ch_pupils, ch_rule, ch_ranks, ch_eligible, ch_eligibleAndRight, ch_cells)) else ((FX0_look ro_pupils ro_mood ro_rows ro_columns ro_needs le_times ch_ranks ro_letters ro_tenths le_dares ch_eligible ch_eligibleAndRight p2 p3).bind fun u4 => (FX0_weightOfTaken u4.1 u4.2.1 u4.2.2.2.1 u4.2.2.1 ch_cells p1).bind fun u6 => (FX0_weightOfAll u4.1 u4.2.1).bind fun x8 => (FX8_fraction u6.1 x8 p4).bind fun x9 => some (x9, u4.1, u4.2.1, u4.2.2.1, u4.2.2.2.1, u4.2.2.2.2, u6.2))))
def rm_X8_taken : Room := { frames := 5, cells := 0, slots := 0, locals := 120 }
set_option maxHeartbeats 4000000 in
set_option maxRecDepth 100000 in
theorem c_X8_taken (l : Launch) (D : va_G) (cI cJ cZ : ClassId) (a : Nat → Nat) (ws0 : va_W) (A : Nat → Prop)  (ro_pupils : Int32) (ro_mood : Int32) (ro_letters : Nat → Int32) (ro_rows : Nat → Int32) (ro_columns : Nat → Int32) (ro_tenths : Nat → Int32) (ro_needs : Nat → Int32) (le_seed : Int64) (le_questions : Int32) (le_rightOnes : Int32) (le_wrongOnes : Int32) (le_isKept : Int32) (le_dares : Nat → Int32) (le_times : Nat → Int32) (ch_pupils : Int32) (ch_rule : Int32) (ch_ranks : Nat → Int32) (ch_eligible : Nat → Int32) (ch_eligibleAndRight : Nat → Int32) (ch_cells : Nat → Int64) (p1 : Int32) (p2 : Int32) (p3 : Int32) (p4 : Int32) (u : Int64 × Int32 × Int32 × (Nat → Int32) × (Nat → Int32) × (Nat → Int32) × (Nat → Int64)) (hF : FX8_taken ro_pupils ro_mood ro_letters ro_rows ro_columns ro_tenths ro_needs le_dares le_times ch_pupils ch_rule ch_ranks ch_eligible ch_eligibleAndRight ch_cells p1 p2 p3 p4 = some u) (z0 : ws0[0]? = some (a 0, .inr (8, [.ref (a 1), .ref (a 3), .ref (a 13), .ref (a 16), .ref (a 22), .ref (a 25), .ref (a 28), .ref (a 33)]))) (z3 : ws0[3]? = some (a 3, .inr (3, [.ref (a 4), .ref (a 5), .ref (a 6), .ref (a 7), .ref (a 8), .ref (a 9), .ref (a 10), .int ro_pupils, .int ro_mood]))) (z4 : ws0[4]? = some (a 4, .inl (cI, 12, .inl ro_letters))) (z5 : ws0[5]? = some (a 5, .inl (cI, 12, .inl ro_rows))) (z6 : ws0[6]? = some (a 6, .inl (cI, 12, .inl ro_columns))) (z7 : ws0[7]? = some (a 7, .inl (cI, 12, .inl ro_tenths))) (z8 : ws0[8]? = some (a 8, .inl (cI, 12, .inl ro_needs))) (z10 : ws0[10]? = some (a 10, .inr (2, [.ref (a 11), .ref (a 12), .long le_seed, .int le_questions, .int le_rightOnes, .int le_wrongOnes, .int le_isKept]))) (z11 : ws0[11]? = some (a 11, .inl (cI, 12, .inl le_dares))) (z12 : ws0[12]? = some (a 12, .inl (cI, 12, .inl le_times))) (z16 : ws0[16]? = some (a 16, .inr (0, [.ref (a 17), .ref (a 18), .ref (a 19), .ref (a 20), .int ch_pupils, .int ch_rule]))) (z17 : ws0[17]? = some (a 17, .inl (cI, 12, .inl ch_ranks))) (z18 : ws0[18]? = some (a 18, .inl (cI, 12, .inl ch_eligible))) (z19 : ws0[19]? = some (a 19, .inl (cI, 12, .inl ch_eligibleAndRight))) (z20 : ws0[20]? = some (a 20, .inr (4, [.ref (a 21)]))) (z21 : ws0[21]? = some (a 21, .inl (cJ, 169, .inr (.inl ch_cells)))) (hD : va_D A ws0) : Met l yX8_taken (wq yX8_taken cX8_taken 5 (some .long)) rm_X8_taken (Pq [.ref (a 0), .int p1, .int p2, .int p3, .int p4] D cI cJ cZ ws0) (Qw D A ws0 [16, 17, 18, 19, 21] (some (.long u.1)) (fun w => w[16]? = some (a 16, .inr (0, [.ref (a 17), .ref (a 18), .ref (a 19), .ref (a 20), .int u.2.1, .int u.2.2.1])) ∧ w[17]? = some (a 17, .inl (cI, 12, .inl u.2.2.2.1)) ∧ w[18]? = some (a 18, .inl (cI, 12, .inl u.2.2.2.2.1)) ∧ w[19]? = some (a 19, .inl (cI, 12, .inl u.2.2.2.2.2.1)) ∧ w[21]? = some (a 21, .inl (cJ, 169, .inr (.inl u.2.2.2.2.2.2))))) 0 0 A := by
  refine mq_of (by decide) (Nat.le_of_ble_eq_true rfl) (fun p e s m args below meth c ls Q hQ X _ hP hl => ?_)
  obtain ⟨hx, hb, hr, hml, hown, hts, hlk, hK, hN⟩ := id X
  have hown : s.vm.findClass RX8 = some m.cls := hown
  have hl : lv_has ls 5 [(0, .ref (a 0)), (1, .int p1), (2, .int p2), (3, .int p3), (4, .int p4)] := hl
  have hS : va_S A s.heap s.heap [] := va_S.rf
  have hs : ∀ j : Nat, j ∉ [16, 17, 18, 19, 21] → ws0[j]? = ws0[j]? := fun _ _ => rfl
  have h0 := z0
  have h3 := z3
  have h4 := z4
  have h5 := z5
  have h6 := z6
  have h7 := z7
  have h8 := z8
  have h10 := z10
  have h11 := z11
  have h12 := z12
  have h16 := z16
  have h17 := z17
  have h18 := z18
  have h19 := z19
  have h20 := z20
  have h21 := z21
  unfold FX8_taken at hF
  refine lv_aload_n hx hb dX8_taken_0 rfl (lv_at hl 0 rfl) ?_
  refine gf_X8_19 hx hb hts hown hK hP h0 dX8_taken_1 ?_
  refine lv_iload_n hx hb dX8_taken_4 rfl (lv_at hl 1 rfl) ?_
  refine rd_i (runVN (As := [.int p1]) (rest := []) X cq_X3_lacks lk_X8_88 (c_X3_lacks l D cI cJ cZ a ws0 ro_pupils ro_mood p1 _ rfl h3) rfl rfl ⟨Nat.le_of_ble_eq_true rfl, Nat.le_of_ble_eq_true rfl⟩ hP h3 rfl rfl hl.1 rfl (Nat.le_of_ble_eq_true rfl) dX8_taken_5 ⟨Nat.le_of_ble_eq_true rfl, Nat.le_of_ble_eq_true rfl⟩) ?_
  refine zf_ne (tgt := 18) hx hb dX8_taken_8 (by decide) (fun c1 => ?_) (fun c1 => ?_)
  · replace hF := (if_pos c1).symm.trans hF
    refine lv_ldc2 (v := (-1 : Int64)) hx hb hown (hts _ kl_X8_147) dX8_taken_18 ?_
    obtain rfl := Option.some.inj hF
    rw [hQ]
    exact rw_l X hS hP hD hs ⟨h16, h17, h18, h19, h21⟩ dX8_taken_21
  · replace hF := (if_neg c1).symm.trans hF
    refine lv_iload_n hx hb dX8_taken_11 rfl (lv_at hl 3 rfl) ?_
    refine rd_i (runS (As := [.int p3]) (rest := []) X cq_X8_noRule lk_X8_144 (c_X8_noRule l D cI cJ cZ a ws0 p3 _ rfl ) rfl rfl ⟨Nat.le_of_ble_eq_true rfl, Nat.le_of_ble_eq_true rfl⟩ hP rfl hl.1 rfl (Nat.le_of_ble_eq_true rfl) dX8_taken_12 ⟨Nat.le_of_ble_eq_true rfl, Nat.le_of_ble_eq_true rfl⟩) ?_
    refine zf_eq (tgt := 22) hx hb dX8_taken_15 (by decide) (fun c2 => ?_) (fun c2 => ?_)
    · replace hF := (if_neg c2).symm.trans hF
      refine lv_iload_n hx hb dX8_taken_22 rfl (lv_at hl 2 rfl) ?_
      refine rd_i (runS (As := [.int p2]) (rest := []) X cq_X8_noSeconds lk_X8_99 (c_X8_noSeconds l D cI cJ cZ a ws0 p2 _ rfl ) rfl rfl ⟨Nat.le_of_ble_eq_true rfl, Nat.le_of_ble_eq_true rfl⟩ hP rfl hl.1 rfl (Nat.le_of_ble_eq_true rfl) dX8_taken_23 ⟨Nat.le_of_ble_eq_true rfl, Nat.le_of_ble_eq_true rfl⟩) ?_
      refine zf_eq (tgt := 33) hx hb dX8_taken_26 (by decide) (fun c3 => ?_) (fun c3 => ?_)
      · replace hF := (if_neg c3).symm.trans hF
        refine lv_aload_n hx hb dX8_taken_33 rfl (lv_at hl 0 rfl) ?_
        refine gf_X8_33 hx hb hts hown hK hP h0 dX8_taken_34 ?_
        refine lv_aload_n hx hb dX8_taken_37 rfl (lv_at hl 0 rfl) ?_
        refine gf_X8_19 hx hb hts hown hK hP h0 dX8_taken_38 ?_
        refine lv_iload_n hx hb dX8_taken_41 rfl (lv_at hl 2 rfl) ?_
        refine lv_iload_n hx hb dX8_taken_42 rfl (lv_at hl 3 rfl) ?_
        obtain ⟨u4, hu4, hF⟩ := bd_some hF
        refine wr_v (runVN (As := [.ref (a 3), .int p2, .int p3]) (rest := []) X cq_X0_look lk_X8_149 (c_X0_look l D cI cJ cZ a ws0 A ro_pupils ro_mood ch_pupils ch_rule ro_rows ro_columns ro_needs le_seed le_questions le_rightOnes le_wrongOnes le_isKept le_times ch_ranks ro_letters ro_tenths le_dares ch_eligible ch_eligibleAndRight p2 p3 u4 hu4 h3 h4 h5 h6 h7 h8 h10 h11 h12 h16 h17 h18 h19 hD) rfl rfl ⟨Nat.le_of_ble_eq_true rfl, Nat.le_of_ble_eq_true rfl⟩ hP h16 rfl rfl hl.1 rfl (Nat.le_of_ble_eq_true rfl) dX8_taken_43 ⟨Nat.le_of_ble_eq_true rfl, Nat.le_of_ble_eq_true rfl⟩) hS (fun w5 H locs hP hD hk hB hS => ?_)
        obtain ⟨hB0, hB1, hB2, hB3⟩ := hB
        have h16 : w5[16]? = some (a 16, .inr (0, [.ref (a 17), .ref (a 18), .ref (a 19), .ref (a 20), .int u4.1, .int u4.2.1])) := hB0
        have h17 : w5[17]? = some (a 17, .inl (cI, 12, .inl u4.2.2.1)) := hB1
        have h18 : w5[18]? = some (a 18, .inl (cI, 12, .inl u4.2.2.2.1)) := hB2
        have h19 : w5[19]? = some (a 19, .inl (cI, 12, .inl u4.2.2.2.2)) := hB3
        have h0 := (hk 0 (by simp only [List.mem_cons, List.not_mem_nil, or_false, not_or]; omega)).trans h0
        have h3 := (hk 3 (by simp only [List.mem_cons, List.not_mem_nil, or_false, not_or]; omega)).trans h3
        have h4 := (hk 4 (by simp only [List.mem_cons, List.not_mem_nil, or_false, not_or]; omega)).trans h4
        have h5 := (hk 5 (by simp only [List.mem_cons, List.not_mem_nil, or_false, not_or]; omega)).trans h5
        have h6 := (hk 6 (by simp only [List.mem_cons, List.not_mem_nil, or_false, not_or]; omega)).trans h6
        have h7 := (hk 7 (by simp only [List.mem_cons, List.not_mem_nil, or_false, not_or]; omega)).trans h7
        have h8 := (hk 8 (by simp only [List.mem_cons, List.not_mem_nil, or_false, not_or]; omega)).trans h8
        have h10 := (hk 10 (by simp only [List.mem_cons, List.not_mem_nil, or_false, not_or]; omega)).trans h10
        have h11 := (hk 11 (by simp only [List.mem_cons, List.not_mem_nil, or_false, not_or]; omega)).trans h11
        have h12 := (hk 12 (by simp only [List.mem_cons, List.not_mem_nil, or_false, not_or]; omega)).trans h12
        have h20 := (hk 20 (by simp only [List.mem_cons, List.not_mem_nil, or_false, not_or]; omega)).trans h20
        have h21 := (hk 21 (by simp only [List.mem_cons, List.not_mem_nil, or_false, not_or]; omega)).trans h21
        replace hs := st_tr hk (fun j hj => by simp only [List.mem_cons, List.not_mem_nil, or_false] at hj ⊢; omega) hs
        refine lv_aload_n hx hb dX8_taken_46 rfl (lv_at hl 0 rfl) ?_
        refine gf_X8_33 hx hb hts hown hK hP h0 dX8_taken_47 ?_
        refine lv_iload_n hx hb dX8_taken_50 rfl (lv_at hl 1 rfl) ?_
        obtain ⟨u6, hu6, hF⟩ := bd_some hF
        refine wr_l (runVN (As := [.int p1]) (rest := []) X cq_X0_weightOfTaken lk_X8_152 (c_X0_weightOfTaken l D cI cJ cZ a w5 A u4.1 u4.2.1 u4.2.2.2.1 u4.2.2.1 ch_cells p1 u6 hu6 h16 h17 h18 h20 h21 hD) rfl rfl ⟨Nat.le_of_ble_eq_true rfl, Nat.le_of_ble_eq_true rfl⟩ hP h16 rfl rfl hl.1 rfl (Nat.le_of_ble_eq_true rfl) dX8_taken_51 ⟨Nat.le_of_ble_eq_true rfl, Nat.le_of_ble_eq_true rfl⟩) hS (fun w7 H locs hP hD hk hB hS => ?_)
        have h21 : w7[21]? = some (a 21, .inl (cJ, 169, .inr (.inl u6.2))) := hB
        have h0 := (hk 0 (by simp only [List.mem_cons, List.not_mem_nil, or_false, not_or]; omega)).trans h0
        have h3 := (hk 3 (by simp only [List.mem_cons, List.not_mem_nil, or_false, not_or]; omega)).trans h3
        have h4 := (hk 4 (by simp only [List.mem_cons, List.not_mem_nil, or_false, not_or]; omega)).trans h4
        have h5 := (hk 5 (by simp only [List.mem_cons, List.not_mem_nil, or_false, not_or]; omega)).trans h5
        have h6 := (hk 6 (by simp only [List.mem_cons, List.not_mem_nil, or_false, not_or]; omega)).trans h6
        have h7 := (hk 7 (by simp only [List.mem_cons, List.not_mem_nil, or_false, not_or]; omega)).trans h7
        have h8 := (hk 8 (by simp only [List.mem_cons, List.not_mem_nil, or_false, not_or]; omega)).trans h8
        have h10 := (hk 10 (by simp only [List.mem_cons, List.not_mem_nil, or_false, not_or]; omega)).trans h10
        have h11 := (hk 11 (by simp only [List.mem_cons, List.not_mem_nil, or_false, not_or]; omega)).trans h11
        have h12 := (hk 12 (by simp only [List.mem_cons, List.not_mem_nil, or_false, not_or]; omega)).trans h12
        have h16 := (hk 16 (by simp only [List.mem_cons, List.not_mem_nil, or_false, not_or]; omega)).trans h16
        have h17 := (hk 17 (by simp only [List.mem_cons, List.not_mem_nil, or_false, not_or]; omega)).trans h17
        have h18 := (hk 18 (by simp only [List.mem_cons, List.not_mem_nil, or_false, not_or]; omega)).trans h18
        have h19 := (hk 19 (by simp only [List.mem_cons, List.not_mem_nil, or_false, not_or]; omega)).trans h19
        have h20 := (hk 20 (by simp only [List.mem_cons, List.not_mem_nil, or_false, not_or]; omega)).trans h20
        replace hs := st_tr hk (fun j hj => by simp only [List.mem_cons, List.not_mem_nil, or_false] at hj ⊢; omega) hs
        refine lv_aload_n hx hb dX8_taken_54 rfl (lv_at hl 0 rfl) ?_
        refine gf_X8_33 hx hb hts hown hK hP h0 dX8_taken_55 ?_
        obtain ⟨x8, hx8, hF⟩ := bd_some hF
        refine rd_l (runVN (As := []) (rest := [.long u6.1]) X cq_X0_weightOfAll lk_X8_155 (c_X0_weightOfAll l D cI cJ cZ a w7 u4.1 u4.2.1 x8 hx8 h16) rfl rfl ⟨Nat.le_of_ble_eq_true rfl, Nat.le_of_ble_eq_true rfl⟩ hP h16 rfl rfl hl.1 rfl (Nat.le_of_ble_eq_true rfl) dX8_taken_58 ⟨Nat.le_of_ble_eq_true rfl, Nat.le_of_ble_eq_true rfl⟩) ?_
        refine lv_iload hx hb dX8_taken_61 (lv_at hl 4 rfl) ?_
        obtain ⟨x9, hx9, hF⟩ := bd_some hF
        refine rd_l (runS (As := [.long u6.1, .long x8, .int p4]) (rest := []) X cq_X8_fraction lk_X8_131 (c_X8_fraction l D cI cJ cZ a w7 u6.1 x8 p4 x9 hx9 ) rfl rfl ⟨Nat.le_of_ble_eq_true rfl, Nat.le_of_ble_eq_true rfl⟩ hP rfl hl.1 rfl (Nat.le_of_ble_eq_true rfl) dX8_taken_63 ⟨Nat.le_of_ble_eq_true rfl, Nat.le_of_ble_eq_true rfl⟩) ?_
        obtain rfl := Option.some.inj hF
        rw [hQ]
        exact rw_l X hS hP hD hs ⟨h16, h17, h18, h19, h21⟩ dX8_taken_66
      · replace hF := (if_pos c3).symm.trans hF
        refine lv_ldc2 (v := (-2 : Int64)) hx hb hown (hts _ kl_X8_112) dX8_taken_29 ?_
        obtain rfl := Option.some.inj hF
        rw [hQ]
        exact rw_l X hS hP hD hs ⟨h16, h17, h18, h19, h21⟩ dX8_taken_32
    · replace hF := (if_pos c2).symm.trans hF
      refine lv_ldc2 (v := (-1 : Int64)) hx hb hown (hts _ kl_X8_147) dX8_taken_18 ?_
      obtain rfl := Option.some.inj hF
      rw [hQ]
      exact rw_l X hS hP hD hs ⟨h16, h17, h18, h19, h21⟩ dX8_taken_21
def FX0_weightOfRight_S4 (ch_pupils : Int32) (ch_rule : Int32) (ch_eligibleAndRight : Nat → Int32) (ch_ranks : Nat → Int32) (ch_eligible : Nat → Int32) (x1 : Int64) (x2 : Int32) (x3 : Nat → Int64) : Option ((Int64 × Int32 × (Nat → Int64)) ⊕ (Int64 × (Nat → Int64))) :=
  if ch_pupils ≤ x2 then (some (.inr (x1, x3))) else ((FX0_weightOfOthers ch_pupils ch_rule ch_eligible x3 ch_ranks x2).bind fun u5 => some (.inl (x1 + (((gat ch_eligibleAndRight 12 x2).toInt64) * u5.1), x2 + (1 : Int32), u5.2)))
def FX0_weightOfRight (ch_pupils : Int32) (ch_rule : Int32) (ch_eligibleAndRight : Nat → Int32) (ch_ranks : Nat → Int32) (ch_eligible : Nat → Int32) (ch_cells : Nat → Int64) : Option (Int64 × (Nat → Int64)) :=
  (itr (fun v => FX0_weightOfRight_S4 ch_pupils ch_rule ch_eligibleAndRight ch_ranks ch_eligible v.1 v.2.1 v.2.2) fu ((0 : Int64), (0 : Int32), ch_cells)).bind fun o7 => some (o7.1, o7.2)
def rm_X0_weightOfRight : Room := { frames := 4, cells := 0, slots := 0, locals := 99 }
set_option maxHeartbeats 4000000 in
set_option maxRecDepth 100000 in
theorem c_X0_weightOfRight (l : Launch) (D : va_G) (cI cJ cZ : ClassId) (a : Nat → Nat) (ws0 : va_W) (A : Nat → Prop)  (ch_pupils : Int32) (ch_rule : Int32) (ch_eligibleAndRight : Nat → Int32) (ch_ranks : Nat → Int32) (ch_eligible : Nat → Int32) (ch_cells : Nat → Int64)  (u : Int64 × (Nat → Int64)) (hF : FX0_weightOfRight ch_pupils ch_rule ch_eligibleAndRight ch_ranks ch_eligible ch_cells = some u) (z16 : ws0[16]? = some (a 16, .inr (0, [.ref (a 17), .ref (a 18), .ref (a 19), .ref (a 20), .int ch_pupils, .int ch_rule]))) (z17 : ws0[17]? = some (a 17, .inl (cI, 12, .inl ch_ranks))) (z18 : ws0[18]? = some (a 18, .inl (cI, 12, .inl ch_eligible))) (z19 : ws0[19]? = some (a 19, .inl (cI, 12, .inl ch_eligibleAndRight))) (z20 : ws0[20]? = some (a 20, .inr (4, [.ref (a 21)]))) (z21 : ws0[21]? = some (a 21, .inl (cJ, 169, .inr (.inl ch_cells)))) (hD : va_D A ws0) : Met l yX0_weightOfRight (wq yX0_weightOfRight cX0_weightOfRight 4 (some .long)) rm_X0_weightOfRight (Pq [.ref (a 16)] D cI cJ cZ ws0) (Qw D A ws0 [21] (some (.long u.1)) (fun w => w[21]? = some (a 21, .inl (cJ, 169, .inr (.inl u.2))))) 0 0 A := by
  refine mq_of (by decide) (Nat.le_of_ble_eq_true rfl) (fun p e s m args below meth c ls Q hQ X _ hP hl => ?_)
  obtain ⟨hx, hb, hr, hml, hown, hts, hlk, hK, hN⟩ := id X
  have hown : s.vm.findClass RX0 = some m.cls := hown
  have hl : lv_has ls 4 [(0, .ref (a 16))] := hl
  have hS : va_S A s.heap s.heap [] := va_S.rf
  have hs : ∀ j : Nat, j ∉ [21] → ws0[j]? = ws0[j]? := fun _ _ => rfl
  have h16 := z16
  have h17 := z17
  have h18 := z18
  have h19 := z19
  have h20 := z20
  have h21 := z21
  unfold FX0_weightOfRight at hF
  refine lv_lconst (v := (0 : Int64)) hx hb dX0_weightOfRight_0 (by decide) ?_
  refine lv_lstore_n (lv' := [(1, .long (0 : Int64)), (0, .ref (a 16))]) hx hb dX0_weightOfRight_1 rfl hl (by decide) rfl (fun ls hl => ?_)
  refine lv_iconst (v := (0 : Int32)) hx hb dX0_weightOfRight_2 (by decide) ?_
  refine lv_istore_n (lv' := [(3, .int (0 : Int32)), (1, .long (0 : Int64)), (0, .ref (a 16))]) hx hb dX0_weightOfRight_3 rfl hl (by decide) rfl (fun ls hl => ?_)
  have hL4 : ∀ (nf : Nat) (x1 : Int64) (x2 : Int32) (x3 : Nat → Int64) (r : Int64 × (Nat → Int64)), itr (fun v => FX0_weightOfRight_S4 ch_pupils ch_rule ch_eligibleAndRight ch_ranks ch_eligible v.1 v.2.1 v.2.2) nf (x1, x2, x3) = some r → ∀ (wJ : va_W) (HJ : Heap) (lJ : List Loc), va_P D vwCl wJ HJ → va_D A wJ → va_S A s.heap HJ lJ → (∀ j : Nat, j ∉ [21] → wJ[j]? = ws0[j]?) → wJ[21]? = some (a 21, .inl (cJ, 169, .inr (.inl x3))) → ∀ ls, lv_has ls 4 [(3, .int x2), (1, .long x1), (0, .ref (a 16))] → (∀ o : Int64 × (Nat → Int64), r = o → ∀ (wK : va_W) (HK : Heap) (lK : List Loc), va_P D vwCl wK HK → va_D A wK → va_S A s.heap HK lK → (∀ j : Nat, j ∉ [21] → wK[j]? = ws0[j]?) → wK[21]? = some (a 21, .inl (cJ, 169, .inr (.inl o.2))) → ∀ ls, lv_has ls 4 [(1, .long o.1)] → W p l e rm_X0_weightOfRight s m args below meth c HK lK 0 0 Q (F0 m 36 ls [])) → W p l e rm_X0_weightOfRight s m args below meth c HJ lJ 0 0 Q (F0 m 4 ls []) := by
    intro nf
    induction nf with
    | zero => intro _ _ _ r hF; exact (itr_0 hF).elim
    | succ nf ih =>
      intro x1 x2 x3 r hF w H locs hP hD hS hs h21 ls hl hE
      obtain ⟨wo, hF, hw⟩ := itr_s hF
      replace hF : FX0_weightOfRight_S4 ch_pupils ch_rule ch_eligibleAndRight ch_ranks ch_eligible x1 x2 x3 = some wo := hF
      have h16 := (hs 16 (by simp only [List.mem_cons, List.not_mem_nil, or_false, not_or]; omega)).trans z16
      have h19 := (hs 19 (by simp only [List.mem_cons, List.not_mem_nil, or_false, not_or]; omega)).trans z19
      have h17 := (hs 17 (by simp only [List.mem_cons, List.not_mem_nil, or_false, not_or]; omega)).trans z17
      have h18 := (hs 18 (by simp only [List.mem_cons, List.not_mem_nil, or_false, not_or]; omega)).trans z18
      have h20 := (hs 20 (by simp only [List.mem_cons, List.not_mem_nil, or_false, not_or]; omega)).trans z20
      unfold FX0_weightOfRight_S4 at hF
      refine lv_iload_n hx hb dX0_weightOfRight_4 rfl (lv_at hl 0 rfl) ?_
      refine lv_aload_n hx hb dX0_weightOfRight_5 rfl (lv_at hl 2 rfl) ?_
      refine gf_X0_34 hx hb hts hown hK hP h16 dX0_weightOfRight_6 ?_
      refine lv_icmp_ge (tgt := 36) hx hb dX0_weightOfRight_9 (by decide) (fun c4 => ?_) (fun c4 => ?_)
      · replace hF := (if_pos c4).symm.trans hF
        obtain rfl := Option.some.inj hF
        obtain rfl := hw
        exact hE _ rfl _ _ _ hP hD hS hs h21 ls (lv_sub hl [1] rfl)
      · replace hF := (if_neg c4).symm.trans hF
        refine lv_lload_n hx hb dX0_weightOfRight_12 rfl (lv_at hl 1 rfl) ?_
        refine lv_aload_n hx hb dX0_weightOfRight_13 rfl (lv_at hl 2 rfl) ?_
        refine gf_X0_18 hx hb hts hown hK hP h16 dX0_weightOfRight_14 ?_
        refine lv_iload_n hx hb dX0_weightOfRight_17 rfl (lv_at hl 0 rfl) ?_
        refine rd_i (runSN (As := [.ref (a 19), .int x2]) (rest := [.long x1]) X cq_X8_at lk_X0_61 (t_X8_at l D cI cJ cZ a w 19 ch_eligibleAndRight 12 x2 _ rfl h19 (by decide)) rfl rfl ⟨Nat.le_of_ble_eq_true rfl, Nat.le_of_ble_eq_true rfl⟩ hP rfl hl.1 rfl (Nat.le_of_ble_eq_true rfl) dX0_weightOfRight_18 ⟨Nat.le_of_ble_eq_true rfl, Nat.le_of_ble_eq_true rfl⟩) ?_
        refine lv_i2l hx hb dX0_weightOfRight_21 rfl ?_
        refine lv_aload_n hx hb dX0_weightOfRight_22 rfl (lv_at hl 2 rfl) ?_
        refine lv_iload_n hx hb dX0_weightOfRight_23 rfl (lv_at hl 0 rfl) ?_
        obtain ⟨u5, hu5, hF⟩ := bd_some hF
        refine wr_l (runV (As := [.int x2]) (rest := [.long ((gat ch_eligibleAndRight 12 x2).toInt64), .long x1]) X cq_X0_weightOfOthers lk_X0_65 (c_X0_weightOfOthers l D cI cJ cZ a w A ch_pupils ch_rule ch_eligible x3 ch_ranks x2 u5 hu5 h16 h17 h18 h20 h21 hD) rfl rfl ⟨Nat.le_of_ble_eq_true rfl, Nat.le_of_ble_eq_true rfl⟩ hP h16 rfl rfl hl.1 rfl (Nat.le_of_ble_eq_true rfl) dX0_weightOfRight_24 ⟨Nat.le_of_ble_eq_true rfl, Nat.le_of_ble_eq_true rfl⟩) hS (fun w6 H locs hP hD hk hB hS => ?_)
        have h21 : w6[21]? = some (a 21, .inl (cJ, 169, .inr (.inl u5.2))) := hB
        have h16 := (hk 16 (by simp only [List.mem_cons, List.not_mem_nil, or_false, not_or]; omega)).trans h16
        have h19 := (hk 19 (by simp only [List.mem_cons, List.not_mem_nil, or_false, not_or]; omega)).trans h19
        have h17 := (hk 17 (by simp only [List.mem_cons, List.not_mem_nil, or_false, not_or]; omega)).trans h17
        have h18 := (hk 18 (by simp only [List.mem_cons, List.not_mem_nil, or_false, not_or]; omega)).trans h18
        have h20 := (hk 20 (by simp only [List.mem_cons, List.not_mem_nil, or_false, not_or]; omega)).trans h20
        replace hs := st_tr hk (fun j hj => by simp only [List.mem_cons, List.not_mem_nil, or_false] at hj ⊢; omega) hs
        refine lv_lmul hx hb dX0_weightOfRight_27 ?_
        refine lv_ladd hx hb dX0_weightOfRight_28 ?_
        refine lv_lstore_n (lv' := [(1, .long (x1 + (((gat ch_eligibleAndRight 12 x2).toInt64) * u5.1))), (3, .int x2), (0, .ref (a 16))]) hx hb dX0_weightOfRight_29 rfl hl (by decide) rfl (fun ls hl => ?_)
        refine lv_iinc (v := x2 + (1 : Int32)) (lv' := [(3, .int (x2 + (1 : Int32))), (1, .long (x1 + (((gat ch_eligibleAndRight 12 x2).toInt64) * u5.1))), (0, .ref (a 16))]) hx hb dX0_weightOfRight_30 hl (k := 1) rfl rfl (by decide) rfl (fun ls hl => ?_)
        refine lv_goto (tgt := 4) hx hb dX0_weightOfRight_33 (by decide) ?_
        obtain rfl := Option.some.inj hF
        exact ih _ _ _ _ hw _ _ _ hP hD hS hs h21 ls (lv_sub hl [0, 1, 2] rfl) hE
  obtain ⟨o7, ho7, hF⟩ := bd_some hF
  refine hL4 fu (0 : Int64) (0 : Int32) ch_cells o7 ho7 _ _ _ hP hD hS hs h21 ls (lv_sub hl [0, 1, 2] rfl) ?_
  intro _ q_o7 w H locs hP hD hS hs h21 ls hl
  subst q_o7
  have h16 := (hs 16 (by simp only [List.mem_cons, List.not_mem_nil, or_false, not_or]; omega)).trans z16
  have h19 := (hs 19 (by simp only [List.mem_cons, List.not_mem_nil, or_false, not_or]; omega)).trans z19
  have h17 := (hs 17 (by simp only [List.mem_cons, List.not_mem_nil, or_false, not_or]; omega)).trans z17
  have h18 := (hs 18 (by simp only [List.mem_cons, List.not_mem_nil, or_false, not_or]; omega)).trans z18
  have h20 := (hs 20 (by simp only [List.mem_cons, List.not_mem_nil, or_false, not_or]; omega)).trans z20
  refine lv_lload_n hx hb dX0_weightOfRight_36 rfl (lv_at hl 0 rfl) ?_
  obtain rfl := Option.some.inj hF
  rw [hQ]
  exact rw_l X hS hP hD hs h21 dX0_weightOfRight_37
def FX8_right (ro_pupils : Int32) (ro_mood : Int32) (ro_letters : Nat → Int32) (ro_rows : Nat → Int32) (ro_columns : Nat → Int32) (ro_tenths : Nat → Int32) (ro_needs : Nat → Int32) (le_dares : Nat → Int32) (le_times : Nat → Int32) (ch_pupils : Int32) (ch_rule : Int32) (ch_ranks : Nat → Int32) (ch_eligible : Nat → Int32) (ch_eligibleAndRight : Nat → Int32) (ch_cells : Nat → Int64) (p1 : Int32) (p2 : Int32) (p3 : Int32) : Option (Int64 × Int32 × Int32 × (Nat → Int32) × (Nat → Int32) × (Nat → Int32) × (Nat → Int64)) :=
  if (FX8_noRule p2) = true then (some ((-1 : Int64), ch_pupils, ch_rule, ch_ranks, ch_eligible, ch_eligibleAndRight, ch_cells)) else (if (FX8_noSeconds p1) = true then (some ((-2 : Int64), ch_pupils, ch_rule, ch_ranks, ch_eligible, ch_eligibleAndRight, ch_cells)) else ((FX0_look ro_pupils ro_mood ro_rows ro_columns ro_needs le_times ch_ranks ro_letters ro_tenths le_dares ch_eligible ch_eligibleAndRight p1 p2).bind fun u3 => (FX0_weightOfRight u3.1 u3.2.1 u3.2.2.2.2 u3.2.2.1 u3.2.2.2.1 ch_cells).bind fun u5 => (FX0_weightOfAll u3.1 u3.2.1).bind fun x7 => (FX8_fraction u5.1 x7 p3).bind fun x8 => some (x8, u3.1, u3.2.1, u3.2.2.1, u3.2.2.2.1, u3.2.2.2.2, u5.2)))
def rm_X8_right : Room := { frames := 5, cells := 0, slots := 0, locals := 122 }
set_option maxHeartbeats 4000000 in
set_option maxRecDepth 100000 in
theorem c_X8_right (l : Launch) (D : va_G) (cI cJ cZ : ClassId) (a : Nat → Nat) (ws0 : va_W) (A : Nat → Prop)  (ro_pupils : Int32) (ro_mood : Int32) (ro_letters : Nat → Int32) (ro_rows : Nat → Int32) (ro_columns : Nat → Int32) (ro_tenths : Nat → Int32) (ro_needs : Nat → Int32) (le_seed : Int64) (le_questions : Int32) (le_rightOnes : Int32) (le_wrongOnes : Int32) (le_isKept : Int32) (le_dares : Nat → Int32) (le_times : Nat → Int32) (ch_pupils : Int32) (ch_rule : Int32) (ch_ranks : Nat → Int32) (ch_eligible : Nat → Int32) (ch_eligibleAndRight : Nat → Int32) (ch_cells : Nat → Int64) (p1 : Int32) (p2 : Int32) (p3 : Int32) (u : Int64 × Int32 × Int32 × (Nat → Int32) × (Nat → Int32) × (Nat → Int32) × (Nat → Int64)) (hF : FX8_right ro_pupils ro_mood ro_letters ro_rows ro_columns ro_tenths ro_needs le_dares le_times ch_pupils ch_rule ch_ranks ch_eligible ch_eligibleAndRight ch_cells p1 p2 p3 = some u) (z0 : ws0[0]? = some (a 0, .inr (8, [.ref (a 1), .ref (a 3), .ref (a 13), .ref (a 16), .ref (a 22), .ref (a 25), .ref (a 28), .ref (a 33)]))) (z3 : ws0[3]? = some (a 3, .inr (3, [.ref (a 4), .ref (a 5), .ref (a 6), .ref (a 7), .ref (a 8), .ref (a 9), .ref (a 10), .int ro_pupils, .int ro_mood]))) (z4 : ws0[4]? = some (a 4, .inl (cI, 12, .inl ro_letters))) (z5 : ws0[5]? = some (a 5, .inl (cI, 12, .inl ro_rows))) (z6 : ws0[6]? = some (a 6, .inl (cI, 12, .inl ro_columns))) (z7 : ws0[7]? = some (a 7, .inl (cI, 12, .inl ro_tenths))) (z8 : ws0[8]? = some (a 8, .inl (cI, 12, .inl ro_needs))) (z10 : ws0[10]? = some (a 10, .inr (2, [.ref (a 11), .ref (a 12), .long le_seed, .int le_questions, .int le_rightOnes, .int le_wrongOnes, .int le_isKept]))) (z11 : ws0[11]? = some (a 11, .inl (cI, 12, .inl le_dares))) (z12 : ws0[12]? = some (a 12, .inl (cI, 12, .inl le_times))) (z16 : ws0[16]? = some (a 16, .inr (0, [.ref (a 17), .ref (a 18), .ref (a 19), .ref (a 20), .int ch_pupils, .int ch_rule]))) (z17 : ws0[17]? = some (a 17, .inl (cI, 12, .inl ch_ranks))) (z18 : ws0[18]? = some (a 18, .inl (cI, 12, .inl ch_eligible))) (z19 : ws0[19]? = some (a 19, .inl (cI, 12, .inl ch_eligibleAndRight))) (z20 : ws0[20]? = some (a 20, .inr (4, [.ref (a 21)]))) (z21 : ws0[21]? = some (a 21, .inl (cJ, 169, .inr (.inl ch_cells)))) (hD : va_D A ws0) : Met l yX8_right (wq yX8_right cX8_right 4 (some .long)) rm_X8_right (Pq [.ref (a 0), .int p1, .int p2, .int p3] D cI cJ cZ ws0) (Qw D A ws0 [16, 17, 18, 19, 21] (some (.long u.1)) (fun w => w[16]? = some (a 16, .inr (0, [.ref (a 17), .ref (a 18), .ref (a 19), .ref (a 20), .int u.2.1, .int u.2.2.1])) ∧ w[17]? = some (a 17, .inl (cI, 12, .inl u.2.2.2.1)) ∧ w[18]? = some (a 18, .inl (cI, 12, .inl u.2.2.2.2.1)) ∧ w[19]? = some (a 19, .inl (cI, 12, .inl u.2.2.2.2.2.1)) ∧ w[21]? = some (a 21, .inl (cJ, 169, .inr (.inl u.2.2.2.2.2.2))))) 0 0 A := by
  refine mq_of (by decide) (Nat.le_of_ble_eq_true rfl) (fun p e s m args below meth c ls Q hQ X _ hP hl => ?_)
  obtain ⟨hx, hb, hr, hml, hown, hts, hlk, hK, hN⟩ := id X
  have hown : s.vm.findClass RX8 = some m.cls := hown
  have hl : lv_has ls 4 [(0, .ref (a 0)), (1, .int p1), (2, .int p2), (3, .int p3)] := hl
  have hS : va_S A s.heap s.heap [] := va_S.rf
  have hs : ∀ j : Nat, j ∉ [16, 17, 18, 19, 21] → ws0[j]? = ws0[j]? := fun _ _ => rfl
  have h0 := z0
  have h3 := z3
  have h4 := z4
  have h5 := z5
  have h6 := z6
  have h7 := z7
  have h8 := z8
  have h10 := z10
  have h11 := z11
  have h12 := z12
  have h16 := z16
  have h17 := z17
  have h18 := z18
  have h19 := z19
  have h20 := z20
  have h21 := z21
  unfold FX8_right at hF
  refine lv_iload_n hx hb dX8_right_0 rfl (lv_at hl 2 rfl) ?_
  refine rd_i (runS (As := [.int p2]) (rest := []) X cq_X8_noRule lk_X8_144 (c_X8_noRule l D cI cJ cZ a ws0 p2 _ rfl ) rfl rfl ⟨Nat.le_of_ble_eq_true rfl, Nat.le_of_ble_eq_true rfl⟩ hP rfl hl.1 rfl (Nat.le_of_ble_eq_true rfl) dX8_right_1 ⟨Nat.le_of_ble_eq_true rfl, Nat.le_of_ble_eq_true rfl⟩) ?_
  refine zf_eq (tgt := 11) hx hb dX8_right_4 (by decide) (fun c1 => ?_) (fun c1 => ?_)
  · replace hF := (if_neg c1).symm.trans hF
    refine lv_iload_n hx hb dX8_right_11 rfl (lv_at hl 1 rfl) ?_
    refine rd_i (runS (As := [.int p1]) (rest := []) X cq_X8_noSeconds lk_X8_99 (c_X8_noSeconds l D cI cJ cZ a ws0 p1 _ rfl ) rfl rfl ⟨Nat.le_of_ble_eq_true rfl, Nat.le_of_ble_eq_true rfl⟩ hP rfl hl.1 rfl (Nat.le_of_ble_eq_true rfl) dX8_right_12 ⟨Nat.le_of_ble_eq_true rfl, Nat.le_of_ble_eq_true rfl⟩) ?_
    refine zf_eq (tgt := 22) hx hb dX8_right_15 (by decide) (fun c2 => ?_) (fun c2 => ?_)
    · replace hF := (if_neg c2).symm.trans hF
      refine lv_aload_n hx hb dX8_right_22 rfl (lv_at hl 0 rfl) ?_
      refine gf_X8_33 hx hb hts hown hK hP h0 dX8_right_23 ?_
      refine lv_aload_n hx hb dX8_right_26 rfl (lv_at hl 0 rfl) ?_
      refine gf_X8_19 hx hb hts hown hK hP h0 dX8_right_27 ?_
      refine lv_iload_n hx hb dX8_right_30 rfl (lv_at hl 1 rfl) ?_
      refine lv_iload_n hx hb dX8_right_31 rfl (lv_at hl 2 rfl) ?_
      obtain ⟨u3, hu3, hF⟩ := bd_some hF
      refine wr_v (runVN (As := [.ref (a 3), .int p1, .int p2]) (rest := []) X cq_X0_look lk_X8_149 (c_X0_look l D cI cJ cZ a ws0 A ro_pupils ro_mood ch_pupils ch_rule ro_rows ro_columns ro_needs le_seed le_questions le_rightOnes le_wrongOnes le_isKept le_times ch_ranks ro_letters ro_tenths le_dares ch_eligible ch_eligibleAndRight p1 p2 u3 hu3 h3 h4 h5 h6 h7 h8 h10 h11 h12 h16 h17 h18 h19 hD) rfl rfl ⟨Nat.le_of_ble_eq_true rfl, Nat.le_of_ble_eq_true rfl⟩ hP h16 rfl rfl hl.1 rfl (Nat.le_of_ble_eq_true rfl) dX8_right_32 ⟨Nat.le_of_ble_eq_true rfl, Nat.le_of_ble_eq_true rfl⟩) hS (fun w4 H locs hP hD hk hB hS => ?_)
      obtain ⟨hB0, hB1, hB2, hB3⟩ := hB
      have h16 : w4[16]? = some (a 16, .inr (0, [.ref (a 17), .ref (a 18), .ref (a 19), .ref (a 20), .int u3.1, .int u3.2.1])) := hB0
      have h17 : w4[17]? = some (a 17, .inl (cI, 12, .inl u3.2.2.1)) := hB1
      have h18 : w4[18]? = some (a 18, .inl (cI, 12, .inl u3.2.2.2.1)) := hB2
      have h19 : w4[19]? = some (a 19, .inl (cI, 12, .inl u3.2.2.2.2)) := hB3
      have h0 := (hk 0 (by simp only [List.mem_cons, List.not_mem_nil, or_false, not_or]; omega)).trans h0
      have h3 := (hk 3 (by simp only [List.mem_cons, List.not_mem_nil, or_false, not_or]; omega)).trans h3
      have h4 := (hk 4 (by simp only [List.mem_cons, List.not_mem_nil, or_false, not_or]; omega)).trans h4
      have h5 := (hk 5 (by simp only [List.mem_cons, List.not_mem_nil, or_false, not_or]; omega)).trans h5
      have h6 := (hk 6 (by simp only [List.mem_cons, List.not_mem_nil, or_false, not_or]; omega)).trans h6
      have h7 := (hk 7 (by simp only [List.mem_cons, List.not_mem_nil, or_false, not_or]; omega)).trans h7
      have h8 := (hk 8 (by simp only [List.mem_cons, List.not_mem_nil, or_false, not_or]; omega)).trans h8
      have h10 := (hk 10 (by simp only [List.mem_cons, List.not_mem_nil, or_false, not_or]; omega)).trans h10
      have h11 := (hk 11 (by simp only [List.mem_cons, List.not_mem_nil, or_false, not_or]; omega)).trans h11
      have h12 := (hk 12 (by simp only [List.mem_cons, List.not_mem_nil, or_false, not_or]; omega)).trans h12
      have h20 := (hk 20 (by simp only [List.mem_cons, List.not_mem_nil, or_false, not_or]; omega)).trans h20
      have h21 := (hk 21 (by simp only [List.mem_cons, List.not_mem_nil, or_false, not_or]; omega)).trans h21
      replace hs := st_tr hk (fun j hj => by simp only [List.mem_cons, List.not_mem_nil, or_false] at hj ⊢; omega) hs
      refine lv_aload_n hx hb dX8_right_35 rfl (lv_at hl 0 rfl) ?_
      refine gf_X8_33 hx hb hts hown hK hP h0 dX8_right_36 ?_
      obtain ⟨u5, hu5, hF⟩ := bd_some hF
      refine wr_l (runVN (As := []) (rest := []) X cq_X0_weightOfRight lk_X8_159 (c_X0_weightOfRight l D cI cJ cZ a w4 A u3.1 u3.2.1 u3.2.2.2.2 u3.2.2.1 u3.2.2.2.1 ch_cells u5 hu5 h16 h17 h18 h19 h20 h21 hD) rfl rfl ⟨Nat.le_of_ble_eq_true rfl, Nat.le_of_ble_eq_true rfl⟩ hP h16 rfl rfl hl.1 rfl (Nat.le_of_ble_eq_true rfl) dX8_right_39 ⟨Nat.le_of_ble_eq_true rfl, Nat.le_of_ble_eq_true rfl⟩) hS (fun w6 H locs hP hD hk hB hS => ?_)
      have h21 : w6[21]? = some (a 21, .inl (cJ, 169, .inr (.inl u5.2))) := hB
      have h0 := (hk 0 (by simp only [List.mem_cons, List.not_mem_nil, or_false, not_or]; omega)).trans h0
      have h3 := (hk 3 (by simp only [List.mem_cons, List.not_mem_nil, or_false, not_or]; omega)).trans h3
      have h4 := (hk 4 (by simp only [List.mem_cons, List.not_mem_nil, or_false, not_or]; omega)).trans h4
      have h5 := (hk 5 (by simp only [List.mem_cons, List.not_mem_nil, or_false, not_or]; omega)).trans h5
      have h6 := (hk 6 (by simp only [List.mem_cons, List.not_mem_nil, or_false, not_or]; omega)).trans h6
      have h7 := (hk 7 (by simp only [List.mem_cons, List.not_mem_nil, or_false, not_or]; omega)).trans h7
      have h8 := (hk 8 (by simp only [List.mem_cons, List.not_mem_nil, or_false, not_or]; omega)).trans h8
      have h10 := (hk 10 (by simp only [List.mem_cons, List.not_mem_nil, or_false, not_or]; omega)).trans h10
      have h11 := (hk 11 (by simp only [List.mem_cons, List.not_mem_nil, or_false, not_or]; omega)).trans h11
      have h12 := (hk 12 (by simp only [List.mem_cons, List.not_mem_nil, or_false, not_or]; omega)).trans h12
      have h16 := (hk 16 (by simp only [List.mem_cons, List.not_mem_nil, or_false, not_or]; omega)).trans h16
      have h17 := (hk 17 (by simp only [List.mem_cons, List.not_mem_nil, or_false, not_or]; omega)).trans h17
      have h18 := (hk 18 (by simp only [List.mem_cons, List.not_mem_nil, or_false, not_or]; omega)).trans h18
      have h19 := (hk 19 (by simp only [List.mem_cons, List.not_mem_nil, or_false, not_or]; omega)).trans h19
      have h20 := (hk 20 (by simp only [List.mem_cons, List.not_mem_nil, or_false, not_or]; omega)).trans h20
      replace hs := st_tr hk (fun j hj => by simp only [List.mem_cons, List.not_mem_nil, or_false] at hj ⊢; omega) hs
      refine lv_aload_n hx hb dX8_right_42 rfl (lv_at hl 0 rfl) ?_
      refine gf_X8_33 hx hb hts hown hK hP h0 dX8_right_43 ?_
      obtain ⟨x7, hx7, hF⟩ := bd_some hF
      refine rd_l (runVN (As := []) (rest := [.long u5.1]) X cq_X0_weightOfAll lk_X8_155 (c_X0_weightOfAll l D cI cJ cZ a w6 u3.1 u3.2.1 x7 hx7 h16) rfl rfl ⟨Nat.le_of_ble_eq_true rfl, Nat.le_of_ble_eq_true rfl⟩ hP h16 rfl rfl hl.1 rfl (Nat.le_of_ble_eq_true rfl) dX8_right_46 ⟨Nat.le_of_ble_eq_true rfl, Nat.le_of_ble_eq_true rfl⟩) ?_
      refine lv_iload_n hx hb dX8_right_49 rfl (lv_at hl 3 rfl) ?_
      obtain ⟨x8, hx8, hF⟩ := bd_some hF
      refine rd_l (runS (As := [.long u5.1, .long x7, .int p3]) (rest := []) X cq_X8_fraction lk_X8_131 (c_X8_fraction l D cI cJ cZ a w6 u5.1 x7 p3 x8 hx8 ) rfl rfl ⟨Nat.le_of_ble_eq_true rfl, Nat.le_of_ble_eq_true rfl⟩ hP rfl hl.1 rfl (Nat.le_of_ble_eq_true rfl) dX8_right_50 ⟨Nat.le_of_ble_eq_true rfl, Nat.le_of_ble_eq_true rfl⟩) ?_
      obtain rfl := Option.some.inj hF
      rw [hQ]
      exact rw_l X hS hP hD hs ⟨h16, h17, h18, h19, h21⟩ dX8_right_53
    · replace hF := (if_pos c2).symm.trans hF
      refine lv_ldc2 (v := (-2 : Int64)) hx hb hown (hts _ kl_X8_112) dX8_right_18 ?_
      obtain rfl := Option.some.inj hF
      rw [hQ]
      exact rw_l X hS hP hD hs ⟨h16, h17, h18, h19, h21⟩ dX8_right_21
  · replace hF := (if_pos c1).symm.trans hF
    refine lv_ldc2 (v := (-1 : Int64)) hx hb hown (hts _ kl_X8_147) dX8_right_7 ?_
    obtain rfl := Option.some.inj hF
    rw [hQ]
    exact rw_l X hS hP hD hs ⟨h16, h17, h18, h19, h21⟩ dX8_right_10
def FX0_likeliest_S8 (ch_pupils : Int32) (ch_rule : Int32) (ch_ranks : Nat → Int32) (ch_eligible : Nat → Int32) (x1 : Int32) (x2 : Int64) (x3 : Int32) (x4 : Nat → Int64) : Option ((Int32 × Int64 × Int32 × (Nat → Int64)) ⊕ (Int32 × (Nat → Int64))) :=
  if ch_pupils ≤ x3 then (some (.inr (x1, x4))) else ((FX0_weightOfTaken ch_pupils ch_rule ch_eligible ch_ranks x4 x3).bind fun u6 => if u6.1 ≤ x2 then (some (.inl (x1, x2, x3 + (1 : Int32), u6.2))) else (some (.inl (x3, u6.1, x3 + (1 : Int32), u6.2))))
def FX0_likeliest (ch_pupils : Int32) (ch_rule : Int32) (ch_ranks : Nat → Int32) (ch_eligible : Nat → Int32) (ch_cells : Nat → Int64) : Option (Int32 × (Nat → Int64)) :=
  (itr (fun v => FX0_likeliest_S8 ch_pupils ch_rule ch_ranks ch_eligible v.1 v.2.1 v.2.2.1 v.2.2.2) fu ((-9 : Int32), (0 : Int64), (0 : Int32), ch_cells)).bind fun o9 => some (o9.1, o9.2)
def rm_X0_likeliest : Room := { frames := 5, cells := 0, slots := 0, locals := 120 }
set_option maxHeartbeats 4000000 in
set_option maxRecDepth 100000 in
theorem c_X0_likeliest (l : Launch) (D : va_G) (cI cJ cZ : ClassId) (a : Nat → Nat) (ws0 : va_W) (A : Nat → Prop)  (ch_pupils : Int32) (ch_rule : Int32) (ch_ranks : Nat → Int32) (ch_eligible : Nat → Int32) (ch_cells : Nat → Int64)  (u : Int32 × (Nat → Int64)) (hF : FX0_likeliest ch_pupils ch_rule ch_ranks ch_eligible ch_cells = some u) (z16 : ws0[16]? = some (a 16, .inr (0, [.ref (a 17), .ref (a 18), .ref (a 19), .ref (a 20), .int ch_pupils, .int ch_rule]))) (z17 : ws0[17]? = some (a 17, .inl (cI, 12, .inl ch_ranks))) (z18 : ws0[18]? = some (a 18, .inl (cI, 12, .inl ch_eligible))) (z20 : ws0[20]? = some (a 20, .inr (4, [.ref (a 21)]))) (z21 : ws0[21]? = some (a 21, .inl (cJ, 169, .inr (.inl ch_cells)))) (hD : va_D A ws0) : Met l yX0_likeliest (wq yX0_likeliest cX0_likeliest 7 (some .int)) rm_X0_likeliest (Pq [.ref (a 16)] D cI cJ cZ ws0) (Qw D A ws0 [21] (some (.int u.1)) (fun w => w[21]? = some (a 21, .inl (cJ, 169, .inr (.inl u.2))))) 0 0 A := by
  refine mq_of (by decide) (Nat.le_of_ble_eq_true rfl) (fun p e s m args below meth c ls Q hQ X _ hP hl => ?_)
  obtain ⟨hx, hb, hr, hml, hown, hts, hlk, hK, hN⟩ := id X
  have hown : s.vm.findClass RX0 = some m.cls := hown
  have hl : lv_has ls 7 [(0, .ref (a 16))] := hl
  have hS : va_S A s.heap s.heap [] := va_S.rf
  have hs : ∀ j : Nat, j ∉ [21] → ws0[j]? = ws0[j]? := fun _ _ => rfl
  have h16 := z16
  have h17 := z17
  have h18 := z18
  have h20 := z20
  have h21 := z21
  unfold FX0_likeliest at hF
  refine lv_bipush (v := (-9 : Int32)) hx hb dX0_likeliest_0 (by decide) ?_
  refine lv_istore_n (lv' := [(1, .int (-9 : Int32)), (0, .ref (a 16))]) hx hb dX0_likeliest_2 rfl hl (by decide) rfl (fun ls hl => ?_)
  refine lv_lconst (v := (0 : Int64)) hx hb dX0_likeliest_3 (by decide) ?_
  refine lv_lstore_n (lv' := [(2, .long (0 : Int64)), (1, .int (-9 : Int32)), (0, .ref (a 16))]) hx hb dX0_likeliest_4 rfl hl (by decide) rfl (fun ls hl => ?_)
  refine lv_iconst (v := (0 : Int32)) hx hb dX0_likeliest_5 (by decide) ?_
  refine lv_istore (lv' := [(4, .int (0 : Int32)), (2, .long (0 : Int64)), (1, .int (-9 : Int32)), (0, .ref (a 16))]) hx hb dX0_likeliest_6 hl (by decide) rfl (fun ls hl => ?_)
  have hL8 : ∀ (nf : Nat) (x1 : Int32) (x2 : Int64) (x3 : Int32) (x4 : Nat → Int64) (r : Int32 × (Nat → Int64)), itr (fun v => FX0_likeliest_S8 ch_pupils ch_rule ch_ranks ch_eligible v.1 v.2.1 v.2.2.1 v.2.2.2) nf (x1, x2, x3, x4) = some r → ∀ (wJ : va_W) (HJ : Heap) (lJ : List Loc), va_P D vwCl wJ HJ → va_D A wJ → va_S A s.heap HJ lJ → (∀ j : Nat, j ∉ [21] → wJ[j]? = ws0[j]?) → wJ[21]? = some (a 21, .inl (cJ, 169, .inr (.inl x4))) → ∀ ls, lv_has ls 7 [(4, .int x3), (2, .long x2), (1, .int x1), (0, .ref (a 16))] → (∀ o : Int32 × (Nat → Int64), r = o → ∀ (wK : va_W) (HK : Heap) (lK : List Loc), va_P D vwCl wK HK → va_D A wK → va_S A s.heap HK lK → (∀ j : Nat, j ∉ [21] → wK[j]? = ws0[j]?) → wK[21]? = some (a 21, .inl (cJ, 169, .inr (.inl o.2))) → ∀ ls, lv_has ls 7 [(1, .int o.1)] → W p l e rm_X0_likeliest s m args below meth c HK lK 0 0 Q (F0 m 44 ls [])) → W p l e rm_X0_likeliest s m args below meth c HJ lJ 0 0 Q (F0 m 8 ls []) := by
    intro nf
    induction nf with
    | zero => intro _ _ _ _ r hF; exact (itr_0 hF).elim
    | succ nf ih =>
      intro x1 x2 x3 x4 r hF w H locs hP hD hS hs h21 ls hl hE
      obtain ⟨wo, hF, hw⟩ := itr_s hF
      replace hF : FX0_likeliest_S8 ch_pupils ch_rule ch_ranks ch_eligible x1 x2 x3 x4 = some wo := hF
      have h16 := (hs 16 (by simp only [List.mem_cons, List.not_mem_nil, or_false, not_or]; omega)).trans z16
      have h17 := (hs 17 (by simp only [List.mem_cons, List.not_mem_nil, or_false, not_or]; omega)).trans z17
      have h18 := (hs 18 (by simp only [List.mem_cons, List.not_mem_nil, or_false, not_or]; omega)).trans z18
      have h20 := (hs 20 (by simp only [List.mem_cons, List.not_mem_nil, or_false, not_or]; omega)).trans z20
      unfold FX0_likeliest_S8 at hF
      refine lv_iload hx hb dX0_likeliest_8 (lv_at hl 0 rfl) ?_
      refine lv_aload_n hx hb dX0_likeliest_10 rfl (lv_at hl 3 rfl) ?_
      refine gf_X0_34 hx hb hts hown hK hP h16 dX0_likeliest_11 ?_
      refine lv_icmp_ge (tgt := 44) hx hb dX0_likeliest_14 (by decide) (fun c5 => ?_) (fun c5 => ?_)
      · replace hF := (if_pos c5).symm.trans hF
        obtain rfl := Option.some.inj hF
        obtain rfl := hw
        exact hE _ rfl _ _ _ hP hD hS hs h21 ls (lv_sub hl [2] rfl)
      · replace hF := (if_neg c5).symm.trans hF
        refine lv_aload_n hx hb dX0_likeliest_17 rfl (lv_at hl 3 rfl) ?_
        refine lv_iload hx hb dX0_likeliest_18 (lv_at hl 0 rfl) ?_
        obtain ⟨u6, hu6, hF⟩ := bd_some hF
        refine wr_l (runV (As := [.int x3]) (rest := []) X cq_X0_weightOfTaken lk_X0_88 (c_X0_weightOfTaken l D cI cJ cZ a w A ch_pupils ch_rule ch_eligible ch_ranks x4 x3 u6 hu6 h16 h17 h18 h20 h21 hD) rfl rfl ⟨Nat.le_of_ble_eq_true rfl, Nat.le_of_ble_eq_true rfl⟩ hP h16 rfl rfl hl.1 rfl (Nat.le_of_ble_eq_true rfl) dX0_likeliest_20 ⟨Nat.le_of_ble_eq_true rfl, Nat.le_of_ble_eq_true rfl⟩) hS (fun w7 H locs hP hD hk hB hS => ?_)
        have h21 : w7[21]? = some (a 21, .inl (cJ, 169, .inr (.inl u6.2))) := hB
        have h16 := (hk 16 (by simp only [List.mem_cons, List.not_mem_nil, or_false, not_or]; omega)).trans h16
        have h17 := (hk 17 (by simp only [List.mem_cons, List.not_mem_nil, or_false, not_or]; omega)).trans h17
        have h18 := (hk 18 (by simp only [List.mem_cons, List.not_mem_nil, or_false, not_or]; omega)).trans h18
        have h20 := (hk 20 (by simp only [List.mem_cons, List.not_mem_nil, or_false, not_or]; omega)).trans h20
        replace hs := st_tr hk (fun j hj => by simp only [List.mem_cons, List.not_mem_nil, or_false] at hj ⊢; omega) hs
        refine lv_lstore (lv' := [(5, .long u6.1), (4, .int x3), (2, .long x2), (1, .int x1), (0, .ref (a 16))]) hx hb dX0_likeliest_23 hl (by decide) rfl (fun ls hl => ?_)
        refine lv_lload hx hb dX0_likeliest_25 (lv_at hl 0 rfl) ?_
        refine lv_lload_n hx hb dX0_likeliest_27 rfl (lv_at hl 2 rfl) ?_
        refine W.lcmp hx hb dX0_likeliest_28 ?_
        refine lv_if_le (tgt := 38) hx hb dX0_likeliest_29 (by decide) (fun c8 => ?_) (fun c8 => ?_)
        · replace c8 := (lc_le u6.1 x2).mp c8
          replace hF := (if_pos c8).symm.trans hF
          refine lv_iinc (v := x3 + (1 : Int32)) (lv' := [(4, .int (x3 + (1 : Int32))), (5, .long u6.1), (2, .long x2), (1, .int x1), (0, .ref (a 16))]) hx hb dX0_likeliest_38 hl (k := 1) rfl rfl (by decide) rfl (fun ls hl => ?_)
          refine lv_goto (tgt := 8) hx hb dX0_likeliest_41 (by decide) ?_
          obtain rfl := Option.some.inj hF
          exact ih _ _ _ _ _ hw _ _ _ hP hD hS hs h21 ls (lv_sub hl [0, 2, 3, 4] rfl) hE
        · replace c8 := fun q => c8 ((lc_le u6.1 x2).mpr q)
          replace hF := (if_neg c8).symm.trans hF
          refine lv_lload hx hb dX0_likeliest_32 (lv_at hl 0 rfl) ?_
          refine lv_lstore_n (lv' := [(2, .long u6.1), (5, .long u6.1), (4, .int x3), (1, .int x1), (0, .ref (a 16))]) hx hb dX0_likeliest_34 rfl hl (by decide) rfl (fun ls hl => ?_)
          refine lv_iload hx hb dX0_likeliest_35 (lv_at hl 2 rfl) ?_
          refine lv_istore_n (lv' := [(1, .int x3), (2, .long u6.1), (5, .long u6.1), (4, .int x3), (0, .ref (a 16))]) hx hb dX0_likeliest_37 rfl hl (by decide) rfl (fun ls hl => ?_)
          refine lv_iinc (v := x3 + (1 : Int32)) (lv' := [(4, .int (x3 + (1 : Int32))), (1, .int x3), (2, .long u6.1), (5, .long u6.1), (0, .ref (a 16))]) hx hb dX0_likeliest_38 hl (k := 3) rfl rfl (by decide) rfl (fun ls hl => ?_)
          refine lv_goto (tgt := 8) hx hb dX0_likeliest_41 (by decide) ?_
          obtain rfl := Option.some.inj hF
          exact ih _ _ _ _ _ hw _ _ _ hP hD hS hs h21 ls (lv_sub hl [0, 2, 1, 4] rfl) hE
  obtain ⟨o9, ho9, hF⟩ := bd_some hF
  refine hL8 fu (-9 : Int32) (0 : Int64) (0 : Int32) ch_cells o9 ho9 _ _ _ hP hD hS hs h21 ls (lv_sub hl [0, 1, 2, 3] rfl) ?_
  intro _ q_o9 w H locs hP hD hS hs h21 ls hl
  subst q_o9
  have h16 := (hs 16 (by simp only [List.mem_cons, List.not_mem_nil, or_false, not_or]; omega)).trans z16
  have h17 := (hs 17 (by simp only [List.mem_cons, List.not_mem_nil, or_false, not_or]; omega)).trans z17
  have h18 := (hs 18 (by simp only [List.mem_cons, List.not_mem_nil, or_false, not_or]; omega)).trans z18
  have h20 := (hs 20 (by simp only [List.mem_cons, List.not_mem_nil, or_false, not_or]; omega)).trans z20
  refine lv_iload_n hx hb dX0_likeliest_44 rfl (lv_at hl 0 rfl) ?_
  obtain rfl := Option.some.inj hF
  rw [hQ]
  exact rw_i X hS hP hD hs h21 dX0_likeliest_45
def FX8_mostly (ro_pupils : Int32) (ro_mood : Int32) (ro_letters : Nat → Int32) (ro_rows : Nat → Int32) (ro_columns : Nat → Int32) (ro_tenths : Nat → Int32) (ro_needs : Nat → Int32) (le_dares : Nat → Int32) (le_times : Nat → Int32) (ch_pupils : Int32) (ch_rule : Int32) (ch_ranks : Nat → Int32) (ch_eligible : Nat → Int32) (ch_eligibleAndRight : Nat → Int32) (ch_cells : Nat → Int64) (p1 : Int32) (p2 : Int32) : Option (Int32 × Int32 × Int32 × (Nat → Int32) × (Nat → Int32) × (Nat → Int32) × (Nat → Int64)) :=
  if (FX8_noRule p2) = true then (some ((-1 : Int32), ch_pupils, ch_rule, ch_ranks, ch_eligible, ch_eligibleAndRight, ch_cells)) else (if (FX8_noSeconds p1) = true then (some ((-2 : Int32), ch_pupils, ch_rule, ch_ranks, ch_eligible, ch_eligibleAndRight, ch_cells)) else ((FX0_look ro_pupils ro_mood ro_rows ro_columns ro_needs le_times ch_ranks ro_letters ro_tenths le_dares ch_eligible ch_eligibleAndRight p1 p2).bind fun u3 => (FX0_likeliest u3.1 u3.2.1 u3.2.2.1 u3.2.2.2.1 ch_cells).bind fun u5 => some (u5.1, u3.1, u3.2.1, u3.2.2.1, u3.2.2.2.1, u3.2.2.2.2, u5.2)))
def rm_X8_mostly : Room := { frames := 6, cells := 0, slots := 0, locals := 146 }
set_option maxHeartbeats 4000000 in
set_option maxRecDepth 100000 in
theorem c_X8_mostly (l : Launch) (D : va_G) (cI cJ cZ : ClassId) (a : Nat → Nat) (ws0 : va_W) (A : Nat → Prop)  (ro_pupils : Int32) (ro_mood : Int32) (ro_letters : Nat → Int32) (ro_rows : Nat → Int32) (ro_columns : Nat → Int32) (ro_tenths : Nat → Int32) (ro_needs : Nat → Int32) (le_seed : Int64) (le_questions : Int32) (le_rightOnes : Int32) (le_wrongOnes : Int32) (le_isKept : Int32) (le_dares : Nat → Int32) (le_times : Nat → Int32) (ch_pupils : Int32) (ch_rule : Int32) (ch_ranks : Nat → Int32) (ch_eligible : Nat → Int32) (ch_eligibleAndRight : Nat → Int32) (ch_cells : Nat → Int64) (p1 : Int32) (p2 : Int32) (u : Int32 × Int32 × Int32 × (Nat → Int32) × (Nat → Int32) × (Nat → Int32) × (Nat → Int64)) (hF : FX8_mostly ro_pupils ro_mood ro_letters ro_rows ro_columns ro_tenths ro_needs le_dares le_times ch_pupils ch_rule ch_ranks ch_eligible ch_eligibleAndRight ch_cells p1 p2 = some u) (z0 : ws0[0]? = some (a 0, .inr (8, [.ref (a 1), .ref (a 3), .ref (a 13), .ref (a 16), .ref (a 22), .ref (a 25), .ref (a 28), .ref (a 33)]))) (z3 : ws0[3]? = some (a 3, .inr (3, [.ref (a 4), .ref (a 5), .ref (a 6), .ref (a 7), .ref (a 8), .ref (a 9), .ref (a 10), .int ro_pupils, .int ro_mood]))) (z4 : ws0[4]? = some (a 4, .inl (cI, 12, .inl ro_letters))) (z5 : ws0[5]? = some (a 5, .inl (cI, 12, .inl ro_rows))) (z6 : ws0[6]? = some (a 6, .inl (cI, 12, .inl ro_columns))) (z7 : ws0[7]? = some (a 7, .inl (cI, 12, .inl ro_tenths))) (z8 : ws0[8]? = some (a 8, .inl (cI, 12, .inl ro_needs))) (z10 : ws0[10]? = some (a 10, .inr (2, [.ref (a 11), .ref (a 12), .long le_seed, .int le_questions, .int le_rightOnes, .int le_wrongOnes, .int le_isKept]))) (z11 : ws0[11]? = some (a 11, .inl (cI, 12, .inl le_dares))) (z12 : ws0[12]? = some (a 12, .inl (cI, 12, .inl le_times))) (z16 : ws0[16]? = some (a 16, .inr (0, [.ref (a 17), .ref (a 18), .ref (a 19), .ref (a 20), .int ch_pupils, .int ch_rule]))) (z17 : ws0[17]? = some (a 17, .inl (cI, 12, .inl ch_ranks))) (z18 : ws0[18]? = some (a 18, .inl (cI, 12, .inl ch_eligible))) (z19 : ws0[19]? = some (a 19, .inl (cI, 12, .inl ch_eligibleAndRight))) (z20 : ws0[20]? = some (a 20, .inr (4, [.ref (a 21)]))) (z21 : ws0[21]? = some (a 21, .inl (cJ, 169, .inr (.inl ch_cells)))) (hD : va_D A ws0) : Met l yX8_mostly (wq yX8_mostly cX8_mostly 3 (some .int)) rm_X8_mostly (Pq [.ref (a 0), .int p1, .int p2] D cI cJ cZ ws0) (Qw D A ws0 [16, 17, 18, 19, 21] (some (.int u.1)) (fun w => w[16]? = some (a 16, .inr (0, [.ref (a 17), .ref (a 18), .ref (a 19), .ref (a 20), .int u.2.1, .int u.2.2.1])) ∧ w[17]? = some (a 17, .inl (cI, 12, .inl u.2.2.2.1)) ∧ w[18]? = some (a 18, .inl (cI, 12, .inl u.2.2.2.2.1)) ∧ w[19]? = some (a 19, .inl (cI, 12, .inl u.2.2.2.2.2.1)) ∧ w[21]? = some (a 21, .inl (cJ, 169, .inr (.inl u.2.2.2.2.2.2))))) 0 0 A := by
  refine mq_of (by decide) (Nat.le_of_ble_eq_true rfl) (fun p e s m args below meth c ls Q hQ X _ hP hl => ?_)
  obtain ⟨hx, hb, hr, hml, hown, hts, hlk, hK, hN⟩ := id X
  have hown : s.vm.findClass RX8 = some m.cls := hown
  have hl : lv_has ls 3 [(0, .ref (a 0)), (1, .int p1), (2, .int p2)] := hl
  have hS : va_S A s.heap s.heap [] := va_S.rf
  have hs : ∀ j : Nat, j ∉ [16, 17, 18, 19, 21] → ws0[j]? = ws0[j]? := fun _ _ => rfl
  have h0 := z0
  have h3 := z3
  have h4 := z4
  have h5 := z5
  have h6 := z6
  have h7 := z7
  have h8 := z8
  have h10 := z10
  have h11 := z11
  have h12 := z12
  have h16 := z16
  have h17 := z17
  have h18 := z18
  have h19 := z19
  have h20 := z20
  have h21 := z21
  unfold FX8_mostly at hF
  refine lv_iload_n hx hb dX8_mostly_0 rfl (lv_at hl 2 rfl) ?_
  refine rd_i (runS (As := [.int p2]) (rest := []) X cq_X8_noRule lk_X8_144 (c_X8_noRule l D cI cJ cZ a ws0 p2 _ rfl ) rfl rfl ⟨Nat.le_of_ble_eq_true rfl, Nat.le_of_ble_eq_true rfl⟩ hP rfl hl.1 rfl (Nat.le_of_ble_eq_true rfl) dX8_mostly_1 ⟨Nat.le_of_ble_eq_true rfl, Nat.le_of_ble_eq_true rfl⟩) ?_
  refine zf_eq (tgt := 9) hx hb dX8_mostly_4 (by decide) (fun c1 => ?_) (fun c1 => ?_)
  · replace hF := (if_neg c1).symm.trans hF
    refine lv_iload_n hx hb dX8_mostly_9 rfl (lv_at hl 1 rfl) ?_
    refine rd_i (runS (As := [.int p1]) (rest := []) X cq_X8_noSeconds lk_X8_99 (c_X8_noSeconds l D cI cJ cZ a ws0 p1 _ rfl ) rfl rfl ⟨Nat.le_of_ble_eq_true rfl, Nat.le_of_ble_eq_true rfl⟩ hP rfl hl.1 rfl (Nat.le_of_ble_eq_true rfl) dX8_mostly_10 ⟨Nat.le_of_ble_eq_true rfl, Nat.le_of_ble_eq_true rfl⟩) ?_
    refine zf_eq (tgt := 19) hx hb dX8_mostly_13 (by decide) (fun c2 => ?_) (fun c2 => ?_)
    · replace hF := (if_neg c2).symm.trans hF
      refine lv_aload_n hx hb dX8_mostly_19 rfl (lv_at hl 0 rfl) ?_
      refine gf_X8_33 hx hb hts hown hK hP h0 dX8_mostly_20 ?_
      refine lv_aload_n hx hb dX8_mostly_23 rfl (lv_at hl 0 rfl) ?_
      refine gf_X8_19 hx hb hts hown hK hP h0 dX8_mostly_24 ?_
      refine lv_iload_n hx hb dX8_mostly_27 rfl (lv_at hl 1 rfl) ?_
      refine lv_iload_n hx hb dX8_mostly_28 rfl (lv_at hl 2 rfl) ?_
      obtain ⟨u3, hu3, hF⟩ := bd_some hF
      refine wr_v (runVN (As := [.ref (a 3), .int p1, .int p2]) (rest := []) X cq_X0_look lk_X8_149 (c_X0_look l D cI cJ cZ a ws0 A ro_pupils ro_mood ch_pupils ch_rule ro_rows ro_columns ro_needs le_seed le_questions le_rightOnes le_wrongOnes le_isKept le_times ch_ranks ro_letters ro_tenths le_dares ch_eligible ch_eligibleAndRight p1 p2 u3 hu3 h3 h4 h5 h6 h7 h8 h10 h11 h12 h16 h17 h18 h19 hD) rfl rfl ⟨Nat.le_of_ble_eq_true rfl, Nat.le_of_ble_eq_true rfl⟩ hP h16 rfl rfl hl.1 rfl (Nat.le_of_ble_eq_true rfl) dX8_mostly_29 ⟨Nat.le_of_ble_eq_true rfl, Nat.le_of_ble_eq_true rfl⟩) hS (fun w4 H locs hP hD hk hB hS => ?_)
      obtain ⟨hB0, hB1, hB2, hB3⟩ := hB
      have h16 : w4[16]? = some (a 16, .inr (0, [.ref (a 17), .ref (a 18), .ref (a 19), .ref (a 20), .int u3.1, .int u3.2.1])) := hB0
      have h17 : w4[17]? = some (a 17, .inl (cI, 12, .inl u3.2.2.1)) := hB1
      have h18 : w4[18]? = some (a 18, .inl (cI, 12, .inl u3.2.2.2.1)) := hB2
      have h19 : w4[19]? = some (a 19, .inl (cI, 12, .inl u3.2.2.2.2)) := hB3
      have h0 := (hk 0 (by simp only [List.mem_cons, List.not_mem_nil, or_false, not_or]; omega)).trans h0
      have h3 := (hk 3 (by simp only [List.mem_cons, List.not_mem_nil, or_false, not_or]; omega)).trans h3
      have h4 := (hk 4 (by simp only [List.mem_cons, List.not_mem_nil, or_false, not_or]; omega)).trans h4
      have h5 := (hk 5 (by simp only [List.mem_cons, List.not_mem_nil, or_false, not_or]; omega)).trans h5
      have h6 := (hk 6 (by simp only [List.mem_cons, List.not_mem_nil, or_false, not_or]; omega)).trans h6
      have h7 := (hk 7 (by simp only [List.mem_cons, List.not_mem_nil, or_false, not_or]; omega)).trans h7
      have h8 := (hk 8 (by simp only [List.mem_cons, List.not_mem_nil, or_false, not_or]; omega)).trans h8
      have h10 := (hk 10 (by simp only [List.mem_cons, List.not_mem_nil, or_false, not_or]; omega)).trans h10
      have h11 := (hk 11 (by simp only [List.mem_cons, List.not_mem_nil, or_false, not_or]; omega)).trans h11
      have h12 := (hk 12 (by simp only [List.mem_cons, List.not_mem_nil, or_false, not_or]; omega)).trans h12
      have h20 := (hk 20 (by simp only [List.mem_cons, List.not_mem_nil, or_false, not_or]; omega)).trans h20
      have h21 := (hk 21 (by simp only [List.mem_cons, List.not_mem_nil, or_false, not_or]; omega)).trans h21
      replace hs := st_tr hk (fun j hj => by simp only [List.mem_cons, List.not_mem_nil, or_false] at hj ⊢; omega) hs
      refine lv_aload_n hx hb dX8_mostly_32 rfl (lv_at hl 0 rfl) ?_
      refine gf_X8_33 hx hb hts hown hK hP h0 dX8_mostly_33 ?_
      obtain ⟨u5, hu5, hF⟩ := bd_some hF
      refine wr_i (runVN (As := []) (rest := []) X cq_X0_likeliest lk_X8_162 (c_X0_likeliest l D cI cJ cZ a w4 A u3.1 u3.2.1 u3.2.2.1 u3.2.2.2.1 ch_cells u5 hu5 h16 h17 h18 h20 h21 hD) rfl rfl ⟨Nat.le_of_ble_eq_true rfl, Nat.le_of_ble_eq_true rfl⟩ hP h16 rfl rfl hl.1 rfl (Nat.le_of_ble_eq_true rfl) dX8_mostly_36 ⟨Nat.le_of_ble_eq_true rfl, Nat.le_of_ble_eq_true rfl⟩) hS (fun w6 H locs hP hD hk hB hS => ?_)
      have h21 : w6[21]? = some (a 21, .inl (cJ, 169, .inr (.inl u5.2))) := hB
      have h0 := (hk 0 (by simp only [List.mem_cons, List.not_mem_nil, or_false, not_or]; omega)).trans h0
      have h3 := (hk 3 (by simp only [List.mem_cons, List.not_mem_nil, or_false, not_or]; omega)).trans h3
      have h4 := (hk 4 (by simp only [List.mem_cons, List.not_mem_nil, or_false, not_or]; omega)).trans h4
      have h5 := (hk 5 (by simp only [List.mem_cons, List.not_mem_nil, or_false, not_or]; omega)).trans h5
      have h6 := (hk 6 (by simp only [List.mem_cons, List.not_mem_nil, or_false, not_or]; omega)).trans h6
      have h7 := (hk 7 (by simp only [List.mem_cons, List.not_mem_nil, or_false, not_or]; omega)).trans h7
      have h8 := (hk 8 (by simp only [List.mem_cons, List.not_mem_nil, or_false, not_or]; omega)).trans h8
      have h10 := (hk 10 (by simp only [List.mem_cons, List.not_mem_nil, or_false, not_or]; omega)).trans h10
      have h11 := (hk 11 (by simp only [List.mem_cons, List.not_mem_nil, or_false, not_or]; omega)).trans h11
      have h12 := (hk 12 (by simp only [List.mem_cons, List.not_mem_nil, or_false, not_or]; omega)).trans h12
      have h16 := (hk 16 (by simp only [List.mem_cons, List.not_mem_nil, or_false, not_or]; omega)).trans h16
      have h17 := (hk 17 (by simp only [List.mem_cons, List.not_mem_nil, or_false, not_or]; omega)).trans h17
      have h18 := (hk 18 (by simp only [List.mem_cons, List.not_mem_nil, or_false, not_or]; omega)).trans h18
      have h19 := (hk 19 (by simp only [List.mem_cons, List.not_mem_nil, or_false, not_or]; omega)).trans h19
      have h20 := (hk 20 (by simp only [List.mem_cons, List.not_mem_nil, or_false, not_or]; omega)).trans h20
      replace hs := st_tr hk (fun j hj => by simp only [List.mem_cons, List.not_mem_nil, or_false] at hj ⊢; omega) hs
      obtain rfl := Option.some.inj hF
      rw [hQ]
      exact rw_i X hS hP hD hs ⟨h16, h17, h18, h19, h21⟩ dX8_mostly_39
    · replace hF := (if_pos c2).symm.trans hF
      refine lv_bipush (v := (-2 : Int32)) hx hb dX8_mostly_16 (by decide) ?_
      obtain rfl := Option.some.inj hF
      rw [hQ]
      exact rw_i X hS hP hD hs ⟨h16, h17, h18, h19, h21⟩ dX8_mostly_18
  · replace hF := (if_pos c1).symm.trans hF
    refine lv_iconst (v := (-1 : Int32)) hx hb dX8_mostly_7 (by decide) ?_
    obtain rfl := Option.some.inj hF
    rw [hQ]
    exact rw_i X hS hP hD hs ⟨h16, h17, h18, h19, h21⟩ dX8_mostly_8
def FX3_bestWait_S14 (ro_pupils : Int32) (ro_mood : Int32) (ro_letters : Nat → Int32) (ro_tenths : Nat → Int32) (ro_needs : Nat → Int32) (le_dares : Nat → Int32) (p1 : Int32) (p2 : Int32) (x2 : Int32) (x3 : Int32) (x4 : Int32) : Option ((Int32 × Int32 × Int32) ⊕ (Int32)) :=
  if (9 : Int32) < x4 then (some (.inr x2)) else ((FX3_allUpTenths ro_pupils ro_mood ro_letters ro_tenths ro_needs le_dares x4).bind fun x6 => if ((p1 * x6) - (((10 : Int32) * p2) * x4)) ≤ x3 then (some (.inl (x2, x3, x4 + (1 : Int32)))) else (some (.inl (x4, (p1 * x6) - (((10 : Int32) * p2) * x4), x4 + (1 : Int32)))))
def FX3_bestWait (ro_pupils : Int32) (ro_mood : Int32) (ro_letters : Nat → Int32) (ro_tenths : Nat → Int32) (ro_needs : Nat → Int32) (le_dares : Nat → Int32) (p1 : Int32) (p2 : Int32) : Option (Int32) :=
  (FX3_allUpTenths ro_pupils ro_mood ro_letters ro_tenths ro_needs le_dares (0 : Int32)).bind fun x1 => (itr (fun v => FX3_bestWait_S14 ro_pupils ro_mood ro_letters ro_tenths ro_needs le_dares p1 p2 v.1 v.2.1 v.2.2) fu ((0 : Int32), p1 * x1, (1 : Int32))).bind fun o8 => some o8
def rm_X3_bestWait : Room := { frames := 5, cells := 0, slots := 0, locals := 114 }
set_option maxHeartbeats 4000000 in
set_option maxRecDepth 100000 in
theorem c_X3_bestWait (l : Launch) (D : va_G) (cI cJ cZ : ClassId) (a : Nat → Nat) (ws0 : va_W)  (ro_pupils : Int32) (ro_mood : Int32) (ro_letters : Nat → Int32) (ro_tenths : Nat → Int32) (ro_needs : Nat → Int32) (le_seed : Int64) (le_questions : Int32) (le_rightOnes : Int32) (le_wrongOnes : Int32) (le_isKept : Int32) (le_dares : Nat → Int32) (p1 : Int32) (p2 : Int32) (u : Int32) (hF : FX3_bestWait ro_pupils ro_mood ro_letters ro_tenths ro_needs le_dares p1 p2 = some u) (h3 : ws0[3]? = some (a 3, .inr (3, [.ref (a 4), .ref (a 5), .ref (a 6), .ref (a 7), .ref (a 8), .ref (a 9), .ref (a 10), .int ro_pupils, .int ro_mood]))) (h4 : ws0[4]? = some (a 4, .inl (cI, 12, .inl ro_letters))) (h7 : ws0[7]? = some (a 7, .inl (cI, 12, .inl ro_tenths))) (h8 : ws0[8]? = some (a 8, .inl (cI, 12, .inl ro_needs))) (h10 : ws0[10]? = some (a 10, .inr (2, [.ref (a 11), .ref (a 12), .long le_seed, .int le_questions, .int le_rightOnes, .int le_wrongOnes, .int le_isKept]))) (h11 : ws0[11]? = some (a 11, .inl (cI, 12, .inl le_dares))) : Met l yX3_bestWait (wq yX3_bestWait cX3_bestWait 7 (some .int)) rm_X3_bestWait (Pq [.ref (a 3), .int p1, .int p2] D cI cJ cZ ws0) (Qq (some (.int u))) 0 0 (fun _ => False) := by
  refine mq_of (by decide) (Nat.le_of_ble_eq_true rfl) (fun p e s m args below meth c ls Q hQ X _ hP hl => ?_)
  obtain ⟨hx, hb, hr, hml, hown, hts, hlk, hK, hN⟩ := id X
  have hown : s.vm.findClass RX3 = some m.cls := hown
  have hl : lv_has ls 7 [(0, .ref (a 3)), (1, .int p1), (2, .int p2)] := hl
  unfold FX3_bestWait at hF
  refine lv_iconst (v := (0 : Int32)) hx hb dX3_bestWait_0 (by decide) ?_
  refine lv_istore_n (lv' := [(3, .int (0 : Int32)), (0, .ref (a 3)), (1, .int p1), (2, .int p2)]) hx hb dX3_bestWait_1 rfl hl (by decide) rfl (fun ls hl => ?_)
  refine lv_iload_n hx hb dX3_bestWait_2 rfl (lv_at hl 2 rfl) ?_
  refine lv_aload_n hx hb dX3_bestWait_3 rfl (lv_at hl 1 rfl) ?_
  refine lv_iconst (v := (0 : Int32)) hx hb dX3_bestWait_4 (by decide) ?_
  obtain ⟨x1, hx1, hF⟩ := bd_some hF
  refine rd_i (runV (As := [.int (0 : Int32)]) (rest := [.int p1]) X cq_X3_allUpTenths lk_X3_96 (c_X3_allUpTenths l D cI cJ cZ a ws0 ro_pupils ro_mood ro_letters ro_tenths ro_needs le_seed le_questions le_rightOnes le_wrongOnes le_isKept le_dares (0 : Int32) x1 hx1 h3 h4 h7 h8 h10 h11) rfl rfl ⟨Nat.le_of_ble_eq_true rfl, Nat.le_of_ble_eq_true rfl⟩ hP h3 rfl rfl hl.1 rfl (Nat.le_of_ble_eq_true rfl) dX3_bestWait_5 ⟨Nat.le_of_ble_eq_true rfl, Nat.le_of_ble_eq_true rfl⟩) ?_
  refine lv_imul hx hb dX3_bestWait_8 ?_
  refine lv_istore (lv' := [(4, .int (p1 * x1)), (3, .int (0 : Int32)), (0, .ref (a 3)), (1, .int p1), (2, .int p2)]) hx hb dX3_bestWait_9 hl (by decide) rfl (fun ls hl => ?_)
  refine lv_iconst (v := (1 : Int32)) hx hb dX3_bestWait_11 (by decide) ?_
  refine lv_istore (lv' := [(5, .int (1 : Int32)), (4, .int (p1 * x1)), (3, .int (0 : Int32)), (0, .ref (a 3)), (1, .int p1), (2, .int p2)]) hx hb dX3_bestWait_12 hl (by decide) rfl (fun ls hl => ?_)
  have hL14 : ∀ (nf : Nat) (x2 : Int32) (x3 : Int32) (x4 : Int32) (r : Int32), itr (fun v => FX3_bestWait_S14 ro_pupils ro_mood ro_letters ro_tenths ro_needs le_dares p1 p2 v.1 v.2.1 v.2.2) nf (x2, x3, x4) = some r → ∀ ls, lv_has ls 7 [(5, .int x4), (4, .int x3), (3, .int x2), (0, .ref (a 3)), (1, .int p1), (2, .int p2)] → (∀ o : Int32, r = o → ∀ ls, lv_has ls 7 [(3, .int o)] → W p l e rm_X3_bestWait s m args below meth c s.heap [] 0 0 Q (F0 m 59 ls [])) → W p l e rm_X3_bestWait s m args below meth c s.heap [] 0 0 Q (F0 m 14 ls []) := by
    intro nf
    induction nf with
    | zero => intro _ _ _ r hF; exact (itr_0 hF).elim
    | succ nf ih =>
      intro x2 x3 x4 r hF ls hl hE
      obtain ⟨wo, hF, hw⟩ := itr_s hF
      replace hF : FX3_bestWait_S14 ro_pupils ro_mood ro_letters ro_tenths ro_needs le_dares p1 p2 x2 x3 x4 = some wo := hF
      unfold FX3_bestWait_S14 at hF
      refine lv_iload hx hb dX3_bestWait_14 (lv_at hl 0 rfl) ?_
      refine lv_bipush (v := (9 : Int32)) hx hb dX3_bestWait_16 (by decide) ?_
      refine lv_icmp_gt (tgt := 59) hx hb dX3_bestWait_18 (by decide) (fun c5 => ?_) (fun c5 => ?_)
      · replace hF := (if_pos c5).symm.trans hF
        obtain rfl := Option.some.inj hF
        obtain rfl := hw
        exact hE _ rfl ls (lv_sub hl [2] rfl)
      · replace hF := (if_neg c5).symm.trans hF
        refine lv_iload_n hx hb dX3_bestWait_21 rfl (lv_at hl 4 rfl) ?_
        refine lv_aload_n hx hb dX3_bestWait_22 rfl (lv_at hl 3 rfl) ?_
        refine lv_iload hx hb dX3_bestWait_23 (lv_at hl 0 rfl) ?_
        obtain ⟨x6, hx6, hF⟩ := bd_some hF
        refine rd_i (runV (As := [.int x4]) (rest := [.int p1]) X cq_X3_allUpTenths lk_X3_96 (c_X3_allUpTenths l D cI cJ cZ a ws0 ro_pupils ro_mood ro_letters ro_tenths ro_needs le_seed le_questions le_rightOnes le_wrongOnes le_isKept le_dares x4 x6 hx6 h3 h4 h7 h8 h10 h11) rfl rfl ⟨Nat.le_of_ble_eq_true rfl, Nat.le_of_ble_eq_true rfl⟩ hP h3 rfl rfl hl.1 rfl (Nat.le_of_ble_eq_true rfl) dX3_bestWait_25 ⟨Nat.le_of_ble_eq_true rfl, Nat.le_of_ble_eq_true rfl⟩) ?_
        refine lv_imul hx hb dX3_bestWait_28 ?_
        refine lv_bipush (v := (10 : Int32)) hx hb dX3_bestWait_29 (by decide) ?_
        refine lv_iload_n hx hb dX3_bestWait_31 rfl (lv_at hl 5 rfl) ?_
        refine lv_imul hx hb dX3_bestWait_32 ?_
        refine lv_iload hx hb dX3_bestWait_33 (lv_at hl 0 rfl) ?_
        refine lv_imul hx hb dX3_bestWait_35 ?_
        refine lv_isub hx hb dX3_bestWait_36 ?_
        refine lv_istore (lv' := [(6, .int ((p1 * x6) - (((10 : Int32) * p2) * x4))), (5, .int x4), (4, .int x3), (3, .int x2), (0, .ref (a 3)), (1, .int p1), (2, .int p2)]) hx hb dX3_bestWait_37 hl (by decide) rfl (fun ls hl => ?_)
        refine lv_iload hx hb dX3_bestWait_39 (lv_at hl 0 rfl) ?_
        refine lv_iload hx hb dX3_bestWait_41 (lv_at hl 2 rfl) ?_
        refine lv_icmp_le (tgt := 53) hx hb dX3_bestWait_43 (by decide) (fun c7 => ?_) (fun c7 => ?_)
        · replace hF := (if_pos c7).symm.trans hF
          refine lv_iinc (v := x4 + (1 : Int32)) (lv' := [(5, .int (x4 + (1 : Int32))), (6, .int ((p1 * x6) - (((10 : Int32) * p2) * x4))), (4, .int x3), (3, .int x2), (0, .ref (a 3)), (1, .int p1), (2, .int p2)]) hx hb dX3_bestWait_53 hl (k := 1) rfl rfl (by decide) rfl (fun ls hl => ?_)
          refine lv_goto (tgt := 14) hx hb dX3_bestWait_56 (by decide) ?_
          obtain rfl := Option.some.inj hF
          exact ih _ _ _ _ hw ls (lv_sub hl [0, 2, 3, 4, 5, 6] rfl) hE
        · replace hF := (if_neg c7).symm.trans hF
          refine lv_iload hx hb dX3_bestWait_46 (lv_at hl 0 rfl) ?_
          refine lv_istore (lv' := [(4, .int ((p1 * x6) - (((10 : Int32) * p2) * x4))), (6, .int ((p1 * x6) - (((10 : Int32) * p2) * x4))), (5, .int x4), (3, .int x2), (0, .ref (a 3)), (1, .int p1), (2, .int p2)]) hx hb dX3_bestWait_48 hl (by decide) rfl (fun ls hl => ?_)
          refine lv_iload hx hb dX3_bestWait_50 (lv_at hl 2 rfl) ?_
          refine lv_istore_n (lv' := [(3, .int x4), (4, .int ((p1 * x6) - (((10 : Int32) * p2) * x4))), (6, .int ((p1 * x6) - (((10 : Int32) * p2) * x4))), (5, .int x4), (0, .ref (a 3)), (1, .int p1), (2, .int p2)]) hx hb dX3_bestWait_52 rfl hl (by decide) rfl (fun ls hl => ?_)
          refine lv_iinc (v := x4 + (1 : Int32)) (lv' := [(5, .int (x4 + (1 : Int32))), (3, .int x4), (4, .int ((p1 * x6) - (((10 : Int32) * p2) * x4))), (6, .int ((p1 * x6) - (((10 : Int32) * p2) * x4))), (0, .ref (a 3)), (1, .int p1), (2, .int p2)]) hx hb dX3_bestWait_53 hl (k := 3) rfl rfl (by decide) rfl (fun ls hl => ?_)
          refine lv_goto (tgt := 14) hx hb dX3_bestWait_56 (by decide) ?_
          obtain rfl := Option.some.inj hF
          exact ih _ _ _ _ hw ls (lv_sub hl [0, 2, 1, 4, 5, 6] rfl) hE
  obtain ⟨o8, ho8, hF⟩ := bd_some hF
  refine hL14 fu (0 : Int32) (p1 * x1) (1 : Int32) o8 ho8 ls (lv_sub hl [0, 1, 2, 3, 4, 5] rfl) ?_
  intro _ q_o8 ls hl
  subst q_o8
  refine lv_iload_n hx hb dX3_bestWait_59 rfl (lv_at hl 0 rfl) ?_
  obtain rfl := Option.some.inj hF
  rw [hQ]
  exact rt_i X dX3_bestWait_60
def FX8_await (ro_pupils : Int32) (ro_mood : Int32) (ro_letters : Nat → Int32) (ro_tenths : Nat → Int32) (ro_needs : Nat → Int32) (le_dares : Nat → Int32) (p1 : Int32) (p2 : Int32) : Option (Int32) :=
  if (FX8_outside p1 (0 : Int32) (99 : Int32)) = true then (some (-2 : Int32)) else (if (FX8_outside p2 (0 : Int32) (99 : Int32)) = true then (some (-2 : Int32)) else ((FX3_bestWait ro_pupils ro_mood ro_letters ro_tenths ro_needs le_dares p1 p2).bind fun x3 => some x3))
def rm_X8_await : Room := { frames := 6, cells := 0, slots := 0, locals := 140 }
set_option maxHeartbeats 4000000 in
set_option maxRecDepth 100000 in
theorem c_X8_await (l : Launch) (D : va_G) (cI cJ cZ : ClassId) (a : Nat → Nat) (ws0 : va_W)  (ro_pupils : Int32) (ro_mood : Int32) (ro_letters : Nat → Int32) (ro_tenths : Nat → Int32) (ro_needs : Nat → Int32) (le_seed : Int64) (le_questions : Int32) (le_rightOnes : Int32) (le_wrongOnes : Int32) (le_isKept : Int32) (le_dares : Nat → Int32) (p1 : Int32) (p2 : Int32) (u : Int32) (hF : FX8_await ro_pupils ro_mood ro_letters ro_tenths ro_needs le_dares p1 p2 = some u) (h0 : ws0[0]? = some (a 0, .inr (8, [.ref (a 1), .ref (a 3), .ref (a 13), .ref (a 16), .ref (a 22), .ref (a 25), .ref (a 28), .ref (a 33)]))) (h3 : ws0[3]? = some (a 3, .inr (3, [.ref (a 4), .ref (a 5), .ref (a 6), .ref (a 7), .ref (a 8), .ref (a 9), .ref (a 10), .int ro_pupils, .int ro_mood]))) (h4 : ws0[4]? = some (a 4, .inl (cI, 12, .inl ro_letters))) (h7 : ws0[7]? = some (a 7, .inl (cI, 12, .inl ro_tenths))) (h8 : ws0[8]? = some (a 8, .inl (cI, 12, .inl ro_needs))) (h10 : ws0[10]? = some (a 10, .inr (2, [.ref (a 11), .ref (a 12), .long le_seed, .int le_questions, .int le_rightOnes, .int le_wrongOnes, .int le_isKept]))) (h11 : ws0[11]? = some (a 11, .inl (cI, 12, .inl le_dares))) : Met l yX8_await (wq yX8_await cX8_await 3 (some .int)) rm_X8_await (Pq [.ref (a 0), .int p1, .int p2] D cI cJ cZ ws0) (Qq (some (.int u))) 0 0 (fun _ => False) := by
  refine mq_of (by decide) (Nat.le_of_ble_eq_true rfl) (fun p e s m args below meth c ls Q hQ X _ hP hl => ?_)
  obtain ⟨hx, hb, hr, hml, hown, hts, hlk, hK, hN⟩ := id X
  have hown : s.vm.findClass RX8 = some m.cls := hown
  have hl : lv_has ls 3 [(0, .ref (a 0)), (1, .int p1), (2, .int p2)] := hl
  unfold FX8_await at hF
  refine lv_iload_n hx hb dX8_await_0 rfl (lv_at hl 1 rfl) ?_
  refine lv_iconst (v := (0 : Int32)) hx hb dX8_await_1 (by decide) ?_
  refine lv_bipush (v := (99 : Int32)) hx hb dX8_await_2 (by decide) ?_
  refine rd_i (runS (As := [.int p1, .int (0 : Int32), .int (99 : Int32)]) (rest := []) X cq_X8_outside lk_X8_61 (c_X8_outside l D cI cJ cZ a ws0 p1 (0 : Int32) (99 : Int32) _ rfl ) rfl rfl ⟨Nat.le_of_ble_eq_true rfl, Nat.le_of_ble_eq_true rfl⟩ hP rfl hl.1 rfl (Nat.le_of_ble_eq_true rfl) dX8_await_4 ⟨Nat.le_of_ble_eq_true rfl, Nat.le_of_ble_eq_true rfl⟩) ?_
  refine zf_ne (tgt := 20) hx hb dX8_await_7 (by decide) (fun c1 => ?_) (fun c1 => ?_)
  · replace hF := (if_pos c1).symm.trans hF
    refine lv_bipush (v := (-2 : Int32)) hx hb dX8_await_20 (by decide) ?_
    obtain rfl := Option.some.inj hF
    rw [hQ]
    exact rt_i X dX8_await_22
  · replace hF := (if_neg c1).symm.trans hF
    refine lv_iload_n hx hb dX8_await_10 rfl (lv_at hl 2 rfl) ?_
    refine lv_iconst (v := (0 : Int32)) hx hb dX8_await_11 (by decide) ?_
    refine lv_bipush (v := (99 : Int32)) hx hb dX8_await_12 (by decide) ?_
    refine rd_i (runS (As := [.int p2, .int (0 : Int32), .int (99 : Int32)]) (rest := []) X cq_X8_outside lk_X8_61 (c_X8_outside l D cI cJ cZ a ws0 p2 (0 : Int32) (99 : Int32) _ rfl ) rfl rfl ⟨Nat.le_of_ble_eq_true rfl, Nat.le_of_ble_eq_true rfl⟩ hP rfl hl.1 rfl (Nat.le_of_ble_eq_true rfl) dX8_await_14 ⟨Nat.le_of_ble_eq_true rfl, Nat.le_of_ble_eq_true rfl⟩) ?_
    refine zf_eq (tgt := 23) hx hb dX8_await_17 (by decide) (fun c2 => ?_) (fun c2 => ?_)
    · replace hF := (if_neg c2).symm.trans hF
      refine lv_aload_n hx hb dX8_await_23 rfl (lv_at hl 0 rfl) ?_
      refine gf_X8_19 hx hb hts hown hK hP h0 dX8_await_24 ?_
      refine lv_iload_n hx hb dX8_await_27 rfl (lv_at hl 1 rfl) ?_
      refine lv_iload_n hx hb dX8_await_28 rfl (lv_at hl 2 rfl) ?_
      obtain ⟨x3, hx3, hF⟩ := bd_some hF
      refine rd_i (runVN (As := [.int p1, .int p2]) (rest := []) X cq_X3_bestWait lk_X8_165 (c_X3_bestWait l D cI cJ cZ a ws0 ro_pupils ro_mood ro_letters ro_tenths ro_needs le_seed le_questions le_rightOnes le_wrongOnes le_isKept le_dares p1 p2 x3 hx3 h3 h4 h7 h8 h10 h11) rfl rfl ⟨Nat.le_of_ble_eq_true rfl, Nat.le_of_ble_eq_true rfl⟩ hP h3 rfl rfl hl.1 rfl (Nat.le_of_ble_eq_true rfl) dX8_await_29 ⟨Nat.le_of_ble_eq_true rfl, Nat.le_of_ble_eq_true rfl⟩) ?_
      obtain rfl := Option.some.inj hF
      rw [hQ]
      exact rt_i X dX8_await_32
    · replace hF := (if_pos c2).symm.trans hF
      refine lv_bipush (v := (-2 : Int32)) hx hb dX8_await_20 (by decide) ?_
      obtain rfl := Option.some.inj hF
      rw [hQ]
      exact rt_i X dX8_await_22
def FX3_everyone (ro_pupils : Int32) : Int32 :=
  ((1 : Int32) <<< (ro_pupils &&& 31)) - (1 : Int32)
def rm_X3_everyone : Room := { frames := 0, cells := 0, slots := 0, locals := 0 }
set_option maxHeartbeats 4000000 in
set_option maxRecDepth 100000 in
theorem c_X3_everyone (l : Launch) (D : va_G) (cI cJ cZ : ClassId) (a : Nat → Nat) (ws0 : va_W)  (ro_pupils : Int32) (ro_mood : Int32)  (u : Int32) (hF : FX3_everyone ro_pupils = u) (h3 : ws0[3]? = some (a 3, .inr (3, [.ref (a 4), .ref (a 5), .ref (a 6), .ref (a 7), .ref (a 8), .ref (a 9), .ref (a 10), .int ro_pupils, .int ro_mood]))) : Met l yX3_everyone (wq yX3_everyone cX3_everyone 1 (some .int)) rm_X3_everyone (Pq [.ref (a 3)] D cI cJ cZ ws0) (Qq (some (.int u))) 0 0 (fun _ => False) := by
  refine mq_of (by decide) (Nat.le_of_ble_eq_true rfl) (fun p e s m args below meth c ls Q hQ X _ hP hl => ?_)
  obtain ⟨hx, hb, hr, hml, hown, hts, hlk, hK, hN⟩ := id X
  have hown : s.vm.findClass RX3 = some m.cls := hown
  have hl : lv_has ls 1 [(0, .ref (a 3))] := hl
  unfold FX3_everyone at hF
  refine lv_iconst (v := (1 : Int32)) hx hb dX3_everyone_0 (by decide) ?_
  refine lv_aload_n hx hb dX3_everyone_1 rfl (lv_at hl 0 rfl) ?_
  refine gf_X3_46 hx hb hts hown hK hP h3 dX3_everyone_2 ?_
  refine lv_ishl hx hb dX3_everyone_5 ?_
  refine lv_iconst (v := (1 : Int32)) hx hb dX3_everyone_6 (by decide) ?_
  refine lv_isub hx hb dX3_everyone_7 ?_
  subst hF
  rw [hQ]
  exact rt_i X dX3_everyone_8
def FX3_noBits (ro_pupils : Int32) (p1 : Int32) : Bool :=
  FX8_outside p1 (0 : Int32) (FX3_everyone ro_pupils)
def rm_X3_noBits : Room := { frames := 1, cells := 0, slots := 0, locals := 22 }
set_option maxHeartbeats 4000000 in
set_option maxRecDepth 100000 in
theorem c_X3_noBits (l : Launch) (D : va_G) (cI cJ cZ : ClassId) (a : Nat → Nat) (ws0 : va_W)  (ro_pupils : Int32) (ro_mood : Int32) (p1 : Int32) (u : Bool) (hF : FX3_noBits ro_pupils p1 = u) (h3 : ws0[3]? = some (a 3, .inr (3, [.ref (a 4), .ref (a 5), .ref (a 6), .ref (a 7), .ref (a 8), .ref (a 9), .ref (a 10), .int ro_pupils, .int ro_mood]))) : Met l yX3_noBits (wq yX3_noBits cX3_noBits 2 (some .boolean)) rm_X3_noBits (Pq [.ref (a 3), .int p1] D cI cJ cZ ws0) (Qq (some (.int (bi u)))) 0 0 (fun _ => False) := by
  refine mq_of (by decide) (Nat.le_of_ble_eq_true rfl) (fun p e s m args below meth c ls Q hQ X _ hP hl => ?_)
  obtain ⟨hx, hb, hr, hml, hown, hts, hlk, hK, hN⟩ := id X
  have hown : s.vm.findClass RX3 = some m.cls := hown
  have hl : lv_has ls 2 [(0, .ref (a 3)), (1, .int p1)] := hl
  unfold FX3_noBits at hF
  refine lv_iload_n hx hb dX3_noBits_0 rfl (lv_at hl 1 rfl) ?_
  refine lv_iconst (v := (0 : Int32)) hx hb dX3_noBits_1 (by decide) ?_
  refine lv_aload_n hx hb dX3_noBits_2 rfl (lv_at hl 0 rfl) ?_
  refine rd_i (runV (As := []) (rest := [.int (0 : Int32), .int p1]) X cq_X3_everyone lk_X3_70 (c_X3_everyone l D cI cJ cZ a ws0 ro_pupils ro_mood _ rfl h3) rfl rfl ⟨Nat.le_of_ble_eq_true rfl, Nat.le_of_ble_eq_true rfl⟩ hP h3 rfl rfl hl.1 rfl (Nat.le_of_ble_eq_true rfl) dX3_noBits_3 ⟨Nat.le_of_ble_eq_true rfl, Nat.le_of_ble_eq_true rfl⟩) ?_
  refine rd_i (runSN (As := [.int p1, .int (0 : Int32), .int (FX3_everyone ro_pupils)]) (rest := []) X cq_X8_outside lk_X3_66 (c_X8_outside l D cI cJ cZ a ws0 p1 (0 : Int32) (FX3_everyone ro_pupils) _ rfl ) rfl rfl ⟨Nat.le_of_ble_eq_true rfl, Nat.le_of_ble_eq_true rfl⟩ hP rfl hl.1 rfl (Nat.le_of_ble_eq_true rfl) dX3_noBits_6 ⟨Nat.le_of_ble_eq_true rfl, Nat.le_of_ble_eq_true rfl⟩) ?_
  subst hF
  rw [hQ]
  exact rt_z (b := FX8_outside p1 (0 : Int32) (FX3_everyone ro_pupils)) X dX3_noBits_9
def FX8_isIn (p1 : Int32) (p2 : Int32) : Bool :=
  if p2 < 0 then false else (if (12 : Int32) ≤ p2 then false else (if ((p1 >>> (p2 &&& 31)) &&& (1 : Int32)) = (1 : Int32) then true else false))
def rm_X8_isIn : Room := { frames := 0, cells := 0, slots := 0, locals := 0 }
set_option maxHeartbeats 4000000 in
set_option maxRecDepth 100000 in
theorem c_X8_isIn (l : Launch) (D : va_G) (cI cJ cZ : ClassId) (a : Nat → Nat) (ws0 : va_W)   (p1 : Int32) (p2 : Int32) (u : Bool) (hF : FX8_isIn p1 p2 = u) : Met l yX8_isIn (wq yX8_isIn cX8_isIn 2 (some .boolean)) rm_X8_isIn (Pq [.int p1, .int p2] D cI cJ cZ ws0) (Qq (some (.int (bi u)))) 0 0 (fun _ => False) := by
  refine mq_of (by decide) (Nat.le_of_ble_eq_true rfl) (fun p e s m args below meth c ls Q hQ X _ hP hl => ?_)
  obtain ⟨hx, hb, hr, hml, hown, hts, hlk, hK, hN⟩ := id X
  have hown : s.vm.findClass RX8 = some m.cls := hown
  have hl : lv_has ls 2 [(0, .int p1), (1, .int p2)] := hl
  unfold FX8_isIn at hF
  refine lv_iload_n hx hb dX8_isIn_0 rfl (lv_at hl 1 rfl) ?_
  refine lv_if_lt (tgt := 23) hx hb dX8_isIn_1 (by decide) (fun c1 => ?_) (fun c1 => ?_)
  · replace hF := (if_pos c1).symm.trans hF
    refine lv_iconst (v := (0 : Int32)) hx hb dX8_isIn_23 (by decide) ?_
    subst hF
    rw [hQ]
    exact rt_z (b := false) X dX8_isIn_24
  · replace hF := (if_neg c1).symm.trans hF
    refine lv_iload_n hx hb dX8_isIn_4 rfl (lv_at hl 1 rfl) ?_
    refine lv_bipush (v := (12 : Int32)) hx hb dX8_isIn_5 (by decide) ?_
    refine lv_icmp_ge (tgt := 23) hx hb dX8_isIn_7 (by decide) (fun c2 => ?_) (fun c2 => ?_)
    · replace hF := (if_pos c2).symm.trans hF
      refine lv_iconst (v := (0 : Int32)) hx hb dX8_isIn_23 (by decide) ?_
      subst hF
      rw [hQ]
      exact rt_z (b := false) X dX8_isIn_24
    · replace hF := (if_neg c2).symm.trans hF
      refine lv_iload_n hx hb dX8_isIn_10 rfl (lv_at hl 0 rfl) ?_
      refine lv_iload_n hx hb dX8_isIn_11 rfl (lv_at hl 1 rfl) ?_
      refine lv_ishr hx hb dX8_isIn_12 ?_
      refine lv_iconst (v := (1 : Int32)) hx hb dX8_isIn_13 (by decide) ?_
      refine lv_iand hx hb dX8_isIn_14 ?_
      refine lv_iconst (v := (1 : Int32)) hx hb dX8_isIn_15 (by decide) ?_
      refine lv_icmp_ne (tgt := 23) hx hb dX8_isIn_16 (by decide) (fun c3 => ?_) (fun c3 => ?_)
      · replace hF := (if_neg c3).symm.trans hF
        refine lv_iconst (v := (0 : Int32)) hx hb dX8_isIn_23 (by decide) ?_
        subst hF
        rw [hQ]
        exact rt_z (b := false) X dX8_isIn_24
      · replace hF := (if_pos c3).symm.trans hF
        refine lv_iconst (v := (1 : Int32)) hx hb dX8_isIn_19 (by decide) ?_
        refine lv_goto (tgt := 24) hx hb dX8_isIn_20 (by decide) ?_
        subst hF
        rw [hQ]
        exact rt_z (b := true) X dX8_isIn_24
def FX3_upBits_S5 (ro_pupils : Int32) (ro_mood : Int32) (ro_letters : Nat → Int32) (ro_needs : Nat → Int32) (le_dares : Nat → Int32) (p1 : Int32) (p2 : Int32) (x1 : Int32) (x2 : Int32) : Option ((Int32 × Int32) ⊕ (Int32)) :=
  if ro_pupils ≤ x2 then (some (.inr x1)) else (if (FX3_isUp ro_mood le_dares ro_letters ro_needs x2 (bi (FX8_isIn p1 x2)) p2) = true then (some (.inl (x1 ||| ((1 : Int32) <<< (x2 &&& 31)), x2 + (1 : Int32)))) else (some (.inl (x1, x2 + (1 : Int32)))))
def FX3_upBits (ro_pupils : Int32) (ro_mood : Int32) (ro_letters : Nat → Int32) (ro_needs : Nat → Int32) (le_dares : Nat → Int32) (p1 : Int32) (p2 : Int32) : Option (Int32) :=
  (itr (fun v => FX3_upBits_S5 ro_pupils ro_mood ro_letters ro_needs le_dares p1 p2 v.1 v.2) fu ((0 : Int32), (0 : Int32))).bind fun o5 => some o5
def rm_X3_upBits : Room := { frames := 3, cells := 0, slots := 0, locals := 67 }
set_option maxHeartbeats 4000000 in
set_option maxRecDepth 100000 in
theorem c_X3_upBits (l : Launch) (D : va_G) (cI cJ cZ : ClassId) (a : Nat → Nat) (ws0 : va_W)  (ro_pupils : Int32) (ro_mood : Int32) (ro_letters : Nat → Int32) (ro_needs : Nat → Int32) (le_seed : Int64) (le_questions : Int32) (le_rightOnes : Int32) (le_wrongOnes : Int32) (le_isKept : Int32) (le_dares : Nat → Int32) (p1 : Int32) (p2 : Int32) (u : Int32) (hF : FX3_upBits ro_pupils ro_mood ro_letters ro_needs le_dares p1 p2 = some u) (h3 : ws0[3]? = some (a 3, .inr (3, [.ref (a 4), .ref (a 5), .ref (a 6), .ref (a 7), .ref (a 8), .ref (a 9), .ref (a 10), .int ro_pupils, .int ro_mood]))) (h4 : ws0[4]? = some (a 4, .inl (cI, 12, .inl ro_letters))) (h8 : ws0[8]? = some (a 8, .inl (cI, 12, .inl ro_needs))) (h10 : ws0[10]? = some (a 10, .inr (2, [.ref (a 11), .ref (a 12), .long le_seed, .int le_questions, .int le_rightOnes, .int le_wrongOnes, .int le_isKept]))) (h11 : ws0[11]? = some (a 11, .inl (cI, 12, .inl le_dares))) : Met l yX3_upBits (wq yX3_upBits cX3_upBits 5 (some .int)) rm_X3_upBits (Pq [.ref (a 3), .int p1, .int p2] D cI cJ cZ ws0) (Qq (some (.int u))) 0 0 (fun _ => False) := by
  refine mq_of (by decide) (Nat.le_of_ble_eq_true rfl) (fun p e s m args below meth c ls Q hQ X _ hP hl => ?_)
  obtain ⟨hx, hb, hr, hml, hown, hts, hlk, hK, hN⟩ := id X
  have hown : s.vm.findClass RX3 = some m.cls := hown
  have hl : lv_has ls 5 [(0, .ref (a 3)), (1, .int p1), (2, .int p2)] := hl
  unfold FX3_upBits at hF
  refine lv_iconst (v := (0 : Int32)) hx hb dX3_upBits_0 (by decide) ?_
  refine lv_istore_n (lv' := [(3, .int (0 : Int32)), (0, .ref (a 3)), (1, .int p1), (2, .int p2)]) hx hb dX3_upBits_1 rfl hl (by decide) rfl (fun ls hl => ?_)
  refine lv_iconst (v := (0 : Int32)) hx hb dX3_upBits_2 (by decide) ?_
  refine lv_istore (lv' := [(4, .int (0 : Int32)), (3, .int (0 : Int32)), (0, .ref (a 3)), (1, .int p1), (2, .int p2)]) hx hb dX3_upBits_3 hl (by decide) rfl (fun ls hl => ?_)
  have hL5 : ∀ (nf : Nat) (x1 : Int32) (x2 : Int32) (r : Int32), itr (fun v => FX3_upBits_S5 ro_pupils ro_mood ro_letters ro_needs le_dares p1 p2 v.1 v.2) nf (x1, x2) = some r → ∀ ls, lv_has ls 5 [(4, .int x2), (3, .int x1), (0, .ref (a 3)), (1, .int p1), (2, .int p2)] → (∀ o : Int32, r = o → ∀ ls, lv_has ls 5 [(3, .int o)] → W p l e rm_X3_upBits s m args below meth c s.heap [] 0 0 Q (F0 m 43 ls [])) → W p l e rm_X3_upBits s m args below meth c s.heap [] 0 0 Q (F0 m 5 ls []) := by
    intro nf
    induction nf with
    | zero => intro _ _ r hF; exact (itr_0 hF).elim
    | succ nf ih =>
      intro x1 x2 r hF ls hl hE
      obtain ⟨wo, hF, hw⟩ := itr_s hF
      replace hF : FX3_upBits_S5 ro_pupils ro_mood ro_letters ro_needs le_dares p1 p2 x1 x2 = some wo := hF
      unfold FX3_upBits_S5 at hF
      refine lv_iload hx hb dX3_upBits_5 (lv_at hl 0 rfl) ?_
      refine lv_aload_n hx hb dX3_upBits_7 rfl (lv_at hl 2 rfl) ?_
      refine gf_X3_46 hx hb hts hown hK hP h3 dX3_upBits_8 ?_
      refine lv_icmp_ge (tgt := 43) hx hb dX3_upBits_11 (by decide) (fun c3 => ?_) (fun c3 => ?_)
      · replace hF := (if_pos c3).symm.trans hF
        obtain rfl := Option.some.inj hF
        obtain rfl := hw
        exact hE _ rfl ls (lv_sub hl [1] rfl)
      · replace hF := (if_neg c3).symm.trans hF
        refine lv_aload_n hx hb dX3_upBits_14 rfl (lv_at hl 2 rfl) ?_
        refine lv_iload hx hb dX3_upBits_15 (lv_at hl 0 rfl) ?_
        refine lv_iload_n hx hb dX3_upBits_17 rfl (lv_at hl 3 rfl) ?_
        refine lv_iload hx hb dX3_upBits_18 (lv_at hl 0 rfl) ?_
        refine rd_i (runSN (As := [.int p1, .int x2]) (rest := [.int x2, .ref (a 3)]) X cq_X8_isIn lk_X3_99 (c_X8_isIn l D cI cJ cZ a ws0 p1 x2 _ rfl ) rfl rfl ⟨Nat.le_of_ble_eq_true rfl, Nat.le_of_ble_eq_true rfl⟩ hP rfl hl.1 rfl (Nat.le_of_ble_eq_true rfl) dX3_upBits_20 ⟨Nat.le_of_ble_eq_true rfl, Nat.le_of_ble_eq_true rfl⟩) ?_
        refine lv_iload_n hx hb dX3_upBits_23 rfl (lv_at hl 4 rfl) ?_
        refine rd_i (runV (As := [.int x2, .int (bi (FX8_isIn p1 x2)), .int p2]) (rest := []) X cq_X3_isUp lk_X3_89 (c_X3_isUp l D cI cJ cZ a ws0 ro_pupils ro_mood le_seed le_questions le_rightOnes le_wrongOnes le_isKept le_dares ro_letters ro_needs x2 (bi (FX8_isIn p1 x2)) p2 _ rfl h3 h4 h8 h10 h11) rfl rfl ⟨Nat.le_of_ble_eq_true rfl, Nat.le_of_ble_eq_true rfl⟩ hP h3 rfl rfl hl.1 rfl (Nat.le_of_ble_eq_true rfl) dX3_upBits_24 ⟨Nat.le_of_ble_eq_true rfl, Nat.le_of_ble_eq_true rfl⟩) ?_
        refine zf_eq (tgt := 37) hx hb dX3_upBits_27 (by decide) (fun c4 => ?_) (fun c4 => ?_)
        · replace hF := (if_neg c4).symm.trans hF
          refine lv_iinc (v := x2 + (1 : Int32)) (lv' := [(4, .int (x2 + (1 : Int32))), (3, .int x1), (0, .ref (a 3)), (1, .int p1), (2, .int p2)]) hx hb dX3_upBits_37 hl (k := 0) rfl rfl (by decide) rfl (fun ls hl => ?_)
          refine lv_goto (tgt := 5) hx hb dX3_upBits_40 (by decide) ?_
          obtain rfl := Option.some.inj hF
          exact ih _ _ _ hw ls (lv_sub hl [0, 1, 2, 3, 4] rfl) hE
        · replace hF := (if_pos c4).symm.trans hF
          refine lv_iload_n hx hb dX3_upBits_30 rfl (lv_at hl 1 rfl) ?_
          refine lv_iconst (v := (1 : Int32)) hx hb dX3_upBits_31 (by decide) ?_
          refine lv_iload hx hb dX3_upBits_32 (lv_at hl 0 rfl) ?_
          refine lv_ishl hx hb dX3_upBits_34 ?_
          refine lv_ior hx hb dX3_upBits_35 ?_
          refine lv_istore_n (lv' := [(3, .int (x1 ||| ((1 : Int32) <<< (x2 &&& 31)))), (4, .int x2), (0, .ref (a 3)), (1, .int p1), (2, .int p2)]) hx hb dX3_upBits_36 rfl hl (by decide) rfl (fun ls hl => ?_)
          refine lv_iinc (v := x2 + (1 : Int32)) (lv' := [(4, .int (x2 + (1 : Int32))), (3, .int (x1 ||| ((1 : Int32) <<< (x2 &&& 31)))), (0, .ref (a 3)), (1, .int p1), (2, .int p2)]) hx hb dX3_upBits_37 hl (k := 1) rfl rfl (by decide) rfl (fun ls hl => ?_)
          refine lv_goto (tgt := 5) hx hb dX3_upBits_40 (by decide) ?_
          obtain rfl := Option.some.inj hF
          exact ih _ _ _ hw ls (lv_sub hl [0, 1, 2, 3, 4] rfl) hE
  obtain ⟨o5, ho5, hF⟩ := bd_some hF
  refine hL5 fu (0 : Int32) (0 : Int32) o5 ho5 ls (lv_sub hl [0, 1, 2, 3, 4] rfl) ?_
  intro _ q_o5 ls hl
  subst q_o5
  refine lv_iload_n hx hb dX3_upBits_43 rfl (lv_at hl 0 rfl) ?_
  obtain rfl := Option.some.inj hF
  rw [hQ]
  exact rt_i X dX3_upBits_44
def FX8_raised (ro_pupils : Int32) (ro_mood : Int32) (ro_letters : Nat → Int32) (ro_needs : Nat → Int32) (le_dares : Nat → Int32) (p1 : Int32) (p2 : Int32) : Option (Int32) :=
  if (FX3_noBits ro_pupils p1) = true then (some (-2 : Int32)) else (if (FX8_noSeconds p2) = true then (some (-2 : Int32)) else ((FX3_upBits ro_pupils ro_mood ro_letters ro_needs le_dares p1 p2).bind fun x3 => some x3))
def rm_X8_raised : Room := { frames := 4, cells := 0, slots := 0, locals := 91 }
set_option maxHeartbeats 4000000 in
set_option maxRecDepth 100000 in
theorem c_X8_raised (l : Launch) (D : va_G) (cI cJ cZ : ClassId) (a : Nat → Nat) (ws0 : va_W)  (ro_pupils : Int32) (ro_mood : Int32) (ro_letters : Nat → Int32) (ro_needs : Nat → Int32) (le_seed : Int64) (le_questions : Int32) (le_rightOnes : Int32) (le_wrongOnes : Int32) (le_isKept : Int32) (le_dares : Nat → Int32) (p1 : Int32) (p2 : Int32) (u : Int32) (hF : FX8_raised ro_pupils ro_mood ro_letters ro_needs le_dares p1 p2 = some u) (h0 : ws0[0]? = some (a 0, .inr (8, [.ref (a 1), .ref (a 3), .ref (a 13), .ref (a 16), .ref (a 22), .ref (a 25), .ref (a 28), .ref (a 33)]))) (h3 : ws0[3]? = some (a 3, .inr (3, [.ref (a 4), .ref (a 5), .ref (a 6), .ref (a 7), .ref (a 8), .ref (a 9), .ref (a 10), .int ro_pupils, .int ro_mood]))) (h4 : ws0[4]? = some (a 4, .inl (cI, 12, .inl ro_letters))) (h8 : ws0[8]? = some (a 8, .inl (cI, 12, .inl ro_needs))) (h10 : ws0[10]? = some (a 10, .inr (2, [.ref (a 11), .ref (a 12), .long le_seed, .int le_questions, .int le_rightOnes, .int le_wrongOnes, .int le_isKept]))) (h11 : ws0[11]? = some (a 11, .inl (cI, 12, .inl le_dares))) : Met l yX8_raised (wq yX8_raised cX8_raised 3 (some .int)) rm_X8_raised (Pq [.ref (a 0), .int p1, .int p2] D cI cJ cZ ws0) (Qq (some (.int u))) 0 0 (fun _ => False) := by
  refine mq_of (by decide) (Nat.le_of_ble_eq_true rfl) (fun p e s m args below meth c ls Q hQ X _ hP hl => ?_)
  obtain ⟨hx, hb, hr, hml, hown, hts, hlk, hK, hN⟩ := id X
  have hown : s.vm.findClass RX8 = some m.cls := hown
  have hl : lv_has ls 3 [(0, .ref (a 0)), (1, .int p1), (2, .int p2)] := hl
  unfold FX8_raised at hF
  refine lv_aload_n hx hb dX8_raised_0 rfl (lv_at hl 0 rfl) ?_
  refine gf_X8_19 hx hb hts hown hK hP h0 dX8_raised_1 ?_
  refine lv_iload_n hx hb dX8_raised_4 rfl (lv_at hl 1 rfl) ?_
  refine rd_i (runVN (As := [.int p1]) (rest := []) X cq_X3_noBits lk_X8_168 (c_X3_noBits l D cI cJ cZ a ws0 ro_pupils ro_mood p1 _ rfl h3) rfl rfl ⟨Nat.le_of_ble_eq_true rfl, Nat.le_of_ble_eq_true rfl⟩ hP h3 rfl rfl hl.1 rfl (Nat.le_of_ble_eq_true rfl) dX8_raised_5 ⟨Nat.le_of_ble_eq_true rfl, Nat.le_of_ble_eq_true rfl⟩) ?_
  refine zf_ne (tgt := 18) hx hb dX8_raised_8 (by decide) (fun c1 => ?_) (fun c1 => ?_)
  · replace hF := (if_pos c1).symm.trans hF
    refine lv_bipush (v := (-2 : Int32)) hx hb dX8_raised_18 (by decide) ?_
    refine lv_goto (tgt := 32) hx hb dX8_raised_20 (by decide) ?_
    obtain rfl := Option.some.inj hF
    rw [hQ]
    exact rt_i X dX8_raised_32
  · replace hF := (if_neg c1).symm.trans hF
    refine lv_iload_n hx hb dX8_raised_11 rfl (lv_at hl 2 rfl) ?_
    refine rd_i (runS (As := [.int p2]) (rest := []) X cq_X8_noSeconds lk_X8_99 (c_X8_noSeconds l D cI cJ cZ a ws0 p2 _ rfl ) rfl rfl ⟨Nat.le_of_ble_eq_true rfl, Nat.le_of_ble_eq_true rfl⟩ hP rfl hl.1 rfl (Nat.le_of_ble_eq_true rfl) dX8_raised_12 ⟨Nat.le_of_ble_eq_true rfl, Nat.le_of_ble_eq_true rfl⟩) ?_
    refine zf_eq (tgt := 23) hx hb dX8_raised_15 (by decide) (fun c2 => ?_) (fun c2 => ?_)
    · replace hF := (if_neg c2).symm.trans hF
      refine lv_aload_n hx hb dX8_raised_23 rfl (lv_at hl 0 rfl) ?_
      refine gf_X8_19 hx hb hts hown hK hP h0 dX8_raised_24 ?_
      refine lv_iload_n hx hb dX8_raised_27 rfl (lv_at hl 1 rfl) ?_
      refine lv_iload_n hx hb dX8_raised_28 rfl (lv_at hl 2 rfl) ?_
      obtain ⟨x3, hx3, hF⟩ := bd_some hF
      refine rd_i (runVN (As := [.int p1, .int p2]) (rest := []) X cq_X3_upBits lk_X8_171 (c_X3_upBits l D cI cJ cZ a ws0 ro_pupils ro_mood ro_letters ro_needs le_seed le_questions le_rightOnes le_wrongOnes le_isKept le_dares p1 p2 x3 hx3 h3 h4 h8 h10 h11) rfl rfl ⟨Nat.le_of_ble_eq_true rfl, Nat.le_of_ble_eq_true rfl⟩ hP h3 rfl rfl hl.1 rfl (Nat.le_of_ble_eq_true rfl) dX8_raised_29 ⟨Nat.le_of_ble_eq_true rfl, Nat.le_of_ble_eq_true rfl⟩) ?_
      obtain rfl := Option.some.inj hF
      rw [hQ]
      exact rt_i X dX8_raised_32
    · replace hF := (if_pos c2).symm.trans hF
      refine lv_bipush (v := (-2 : Int32)) hx hb dX8_raised_18 (by decide) ?_
      refine lv_goto (tgt := 32) hx hb dX8_raised_20 (by decide) ?_
      obtain rfl := Option.some.inj hF
      rw [hQ]
      exact rt_i X dX8_raised_32
def FX8_silent (ro_pupils : Int32) (ro_mood : Int32) (ro_letters : Nat → Int32) (ro_needs : Nat → Int32) (le_dares : Nat → Int32) (p1 : Int32) (p2 : Int32) : Option (Int32) :=
  if (FX3_noBits ro_pupils p1) = true then (some (-2 : Int32)) else (if (FX8_noSeconds p2) = true then (some (-2 : Int32)) else ((FX3_upBits ro_pupils ro_mood ro_letters ro_needs le_dares p1 p2).bind fun x3 => some (p1 &&& (x3 ^^^ (-1 : Int32)))))
def rm_X8_silent : Room := { frames := 4, cells := 0, slots := 0, locals := 91 }
set_option maxHeartbeats 4000000 in
set_option maxRecDepth 100000 in
theorem c_X8_silent (l : Launch) (D : va_G) (cI cJ cZ : ClassId) (a : Nat → Nat) (ws0 : va_W)  (ro_pupils : Int32) (ro_mood : Int32) (ro_letters : Nat → Int32) (ro_needs : Nat → Int32) (le_seed : Int64) (le_questions : Int32) (le_rightOnes : Int32) (le_wrongOnes : Int32) (le_isKept : Int32) (le_dares : Nat → Int32) (p1 : Int32) (p2 : Int32) (u : Int32) (hF : FX8_silent ro_pupils ro_mood ro_letters ro_needs le_dares p1 p2 = some u) (h0 : ws0[0]? = some (a 0, .inr (8, [.ref (a 1), .ref (a 3), .ref (a 13), .ref (a 16), .ref (a 22), .ref (a 25), .ref (a 28), .ref (a 33)]))) (h3 : ws0[3]? = some (a 3, .inr (3, [.ref (a 4), .ref (a 5), .ref (a 6), .ref (a 7), .ref (a 8), .ref (a 9), .ref (a 10), .int ro_pupils, .int ro_mood]))) (h4 : ws0[4]? = some (a 4, .inl (cI, 12, .inl ro_letters))) (h8 : ws0[8]? = some (a 8, .inl (cI, 12, .inl ro_needs))) (h10 : ws0[10]? = some (a 10, .inr (2, [.ref (a 11), .ref (a 12), .long le_seed, .int le_questions, .int le_rightOnes, .int le_wrongOnes, .int le_isKept]))) (h11 : ws0[11]? = some (a 11, .inl (cI, 12, .inl le_dares))) : Met l yX8_silent (wq yX8_silent cX8_silent 3 (some .int)) rm_X8_silent (Pq [.ref (a 0), .int p1, .int p2] D cI cJ cZ ws0) (Qq (some (.int u))) 0 0 (fun _ => False) := by
  refine mq_of (by decide) (Nat.le_of_ble_eq_true rfl) (fun p e s m args below meth c ls Q hQ X _ hP hl => ?_)
  obtain ⟨hx, hb, hr, hml, hown, hts, hlk, hK, hN⟩ := id X
  have hown : s.vm.findClass RX8 = some m.cls := hown
  have hl : lv_has ls 3 [(0, .ref (a 0)), (1, .int p1), (2, .int p2)] := hl
  unfold FX8_silent at hF
  refine lv_aload_n hx hb dX8_silent_0 rfl (lv_at hl 0 rfl) ?_
  refine gf_X8_19 hx hb hts hown hK hP h0 dX8_silent_1 ?_
  refine lv_iload_n hx hb dX8_silent_4 rfl (lv_at hl 1 rfl) ?_
  refine rd_i (runVN (As := [.int p1]) (rest := []) X cq_X3_noBits lk_X8_168 (c_X3_noBits l D cI cJ cZ a ws0 ro_pupils ro_mood p1 _ rfl h3) rfl rfl ⟨Nat.le_of_ble_eq_true rfl, Nat.le_of_ble_eq_true rfl⟩ hP h3 rfl rfl hl.1 rfl (Nat.le_of_ble_eq_true rfl) dX8_silent_5 ⟨Nat.le_of_ble_eq_true rfl, Nat.le_of_ble_eq_true rfl⟩) ?_
  refine zf_ne (tgt := 18) hx hb dX8_silent_8 (by decide) (fun c1 => ?_) (fun c1 => ?_)
  · replace hF := (if_pos c1).symm.trans hF
    refine lv_bipush (v := (-2 : Int32)) hx hb dX8_silent_18 (by decide) ?_
    refine lv_goto (tgt := 36) hx hb dX8_silent_20 (by decide) ?_
    obtain rfl := Option.some.inj hF
    rw [hQ]
    exact rt_i X dX8_silent_36
  · replace hF := (if_neg c1).symm.trans hF
    refine lv_iload_n hx hb dX8_silent_11 rfl (lv_at hl 2 rfl) ?_
    refine rd_i (runS (As := [.int p2]) (rest := []) X cq_X8_noSeconds lk_X8_99 (c_X8_noSeconds l D cI cJ cZ a ws0 p2 _ rfl ) rfl rfl ⟨Nat.le_of_ble_eq_true rfl, Nat.le_of_ble_eq_true rfl⟩ hP rfl hl.1 rfl (Nat.le_of_ble_eq_true rfl) dX8_silent_12 ⟨Nat.le_of_ble_eq_true rfl, Nat.le_of_ble_eq_true rfl⟩) ?_
    refine zf_eq (tgt := 23) hx hb dX8_silent_15 (by decide) (fun c2 => ?_) (fun c2 => ?_)
    · replace hF := (if_neg c2).symm.trans hF
      refine lv_iload_n hx hb dX8_silent_23 rfl (lv_at hl 1 rfl) ?_
      refine lv_aload_n hx hb dX8_silent_24 rfl (lv_at hl 0 rfl) ?_
      refine gf_X8_19 hx hb hts hown hK hP h0 dX8_silent_25 ?_
      refine lv_iload_n hx hb dX8_silent_28 rfl (lv_at hl 1 rfl) ?_
      refine lv_iload_n hx hb dX8_silent_29 rfl (lv_at hl 2 rfl) ?_
      obtain ⟨x3, hx3, hF⟩ := bd_some hF
      refine rd_i (runVN (As := [.int p1, .int p2]) (rest := [.int p1]) X cq_X3_upBits lk_X8_171 (c_X3_upBits l D cI cJ cZ a ws0 ro_pupils ro_mood ro_letters ro_needs le_seed le_questions le_rightOnes le_wrongOnes le_isKept le_dares p1 p2 x3 hx3 h3 h4 h8 h10 h11) rfl rfl ⟨Nat.le_of_ble_eq_true rfl, Nat.le_of_ble_eq_true rfl⟩ hP h3 rfl rfl hl.1 rfl (Nat.le_of_ble_eq_true rfl) dX8_silent_30 ⟨Nat.le_of_ble_eq_true rfl, Nat.le_of_ble_eq_true rfl⟩) ?_
      refine lv_iconst (v := (-1 : Int32)) hx hb dX8_silent_33 (by decide) ?_
      refine lv_ixor hx hb dX8_silent_34 ?_
      refine lv_iand hx hb dX8_silent_35 ?_
      obtain rfl := Option.some.inj hF
      rw [hQ]
      exact rt_i X dX8_silent_36
    · replace hF := (if_pos c2).symm.trans hF
      refine lv_bipush (v := (-2 : Int32)) hx hb dX8_silent_18 (by decide) ?_
      refine lv_goto (tgt := 36) hx hb dX8_silent_20 (by decide) ?_
      obtain rfl := Option.some.inj hF
      rw [hQ]
      exact rt_i X dX8_silent_36
def FX8_seed (le_seed : Int64) (p1 : Int64) : Int64 × Int64 :=
  (le_seed, p1)
def rm_X8_seed : Room := { frames := 0, cells := 0, slots := 0, locals := 0 }
set_option maxHeartbeats 4000000 in
set_option maxRecDepth 100000 in
theorem c_X8_seed (l : Launch) (D : va_G) (cI cJ cZ : ClassId) (a : Nat → Nat) (ws0 : va_W) (A : Nat → Prop)  (ro_pupils : Int32) (ro_mood : Int32) (le_seed : Int64) (le_questions : Int32) (le_rightOnes : Int32) (le_wrongOnes : Int32) (le_isKept : Int32) (p1 : Int64) (u : Int64 × Int64) (hF : FX8_seed le_seed p1 = u) (z0 : ws0[0]? = some (a 0, .inr (8, [.ref (a 1), .ref (a 3), .ref (a 13), .ref (a 16), .ref (a 22), .ref (a 25), .ref (a 28), .ref (a 33)]))) (z3 : ws0[3]? = some (a 3, .inr (3, [.ref (a 4), .ref (a 5), .ref (a 6), .ref (a 7), .ref (a 8), .ref (a 9), .ref (a 10), .int ro_pupils, .int ro_mood]))) (z10 : ws0[10]? = some (a 10, .inr (2, [.ref (a 11), .ref (a 12), .long le_seed, .int le_questions, .int le_rightOnes, .int le_wrongOnes, .int le_isKept]))) (hD : va_D A ws0) : Met l yX8_seed (wq yX8_seed cX8_seed 5 (some .long)) rm_X8_seed (Pq [.ref (a 0), .long p1] D cI cJ cZ ws0) (Qw D A ws0 [10] (some (.long u.1)) (fun w => w[10]? = some (a 10, .inr (2, [.ref (a 11), .ref (a 12), .long u.2, .int le_questions, .int le_rightOnes, .int le_wrongOnes, .int le_isKept])))) 0 0 A := by
  refine mq_of (by decide) (Nat.le_of_ble_eq_true rfl) (fun p e s m args below meth c ls Q hQ X _ hP hl => ?_)
  obtain ⟨hx, hb, hr, hml, hown, hts, hlk, hK, hN⟩ := id X
  have hown : s.vm.findClass RX8 = some m.cls := hown
  have hl : lv_has ls 5 [(0, .ref (a 0)), (1, .long p1)] := hl
  have hS : va_S A s.heap s.heap [] := va_S.rf
  have hs : ∀ j : Nat, j ∉ [10] → ws0[j]? = ws0[j]? := fun _ _ => rfl
  have h0 := z0
  have h3 := z3
  have h10 := z10
  unfold FX8_seed at hF
  refine lv_aload_n hx hb dX8_seed_0 rfl (lv_at hl 0 rfl) ?_
  refine gf_X8_19 hx hb hts hown hK hP h0 dX8_seed_1 ?_
  refine gf_X8_174 hx hb hts hown hK hN hP h3 dX8_seed_4 ?_
  refine gf_X8_177 hx hb hts hown hK hN hP h10 dX8_seed_7 ?_
  refine lv_lstore_n (lv' := [(3, .long le_seed), (0, .ref (a 0)), (1, .long p1)]) hx hb dX8_seed_10 rfl hl (by decide) rfl (fun ls hl => ?_)
  refine lv_aload_n hx hb dX8_seed_11 rfl (lv_at hl 1 rfl) ?_
  refine gf_X8_19 hx hb hts hown hK hP h0 dX8_seed_12 ?_
  refine gf_X8_174 hx hb hts hown hK hN hP h3 dX8_seed_15 ?_
  refine lv_lload_n hx hb dX8_seed_18 rfl (lv_at hl 2 rfl) ?_
  refine pf_X8_177 hx hb hts hown hK hN hP hD hS h10 rfl rfl dX8_seed_19 (fun w1 H locs hP hD hk hc hS => ?_)
  have h10 : w1[10]? = some (a 10, .inr (2, [.ref (a 11), .ref (a 12), .long p1, .int le_questions, .int le_rightOnes, .int le_wrongOnes, .int le_isKept])) := hc
  have h0 := (hk 0 (by omega)).trans h0
  have h3 := (hk 3 (by omega)).trans h3
  replace hs := sm_k hk (by simp) hs
  refine lv_lload_n hx hb dX8_seed_22 rfl (lv_at hl 0 rfl) ?_
  subst hF
  rw [hQ]
  exact rw_l X hS hP hD hs h10 dX8_seed_23
def FJ6_bitCount_0f7a4 (p1 : Int32) : Int32 :=
  nmb (p1 - (((p1.toUInt32 >>> ((1 : Int32).toUInt32 &&& Int32.toUInt32 31)).toInt32) &&& (1431655765 : Int32))) fun y1 => nmb ((y1 &&& (858993459 : Int32)) + (((y1.toUInt32 >>> ((2 : Int32).toUInt32 &&& Int32.toUInt32 31)).toInt32) &&& (858993459 : Int32))) fun y2 => nmb ((y2 + ((y2.toUInt32 >>> ((4 : Int32).toUInt32 &&& Int32.toUInt32 31)).toInt32)) &&& (252645135 : Int32)) fun y3 => nmb (y3 + ((y3.toUInt32 >>> ((8 : Int32).toUInt32 &&& Int32.toUInt32 31)).toInt32)) fun y4 => nmb (y4 + ((y4.toUInt32 >>> ((16 : Int32).toUInt32 &&& Int32.toUInt32 31)).toInt32)) fun y5 => y5 &&& (63 : Int32)
def rm_J6_bitCount_0f7a4 : Room := { frames := 0, cells := 0, slots := 0, locals := 0 }
set_option maxHeartbeats 4000000 in
set_option maxRecDepth 100000 in
theorem c_J6_bitCount_0f7a4 (l : Launch) (D : va_G) (cI cJ cZ : ClassId) (a : Nat → Nat) (ws0 : va_W)   (p1 : Int32) (u : Int32) (hF : FJ6_bitCount_0f7a4 p1 = u) : Met l yJ6_bitCount_0f7a4 (wq yJ6_bitCount_0f7a4 cJ6_bitCount_0f7a4 1 (some .int)) rm_J6_bitCount_0f7a4 (Pq [.int p1] D cI cJ cZ ws0) (Qq (some (.int u))) 0 0 (fun _ => False) := by
  refine mq_of (by decide) (Nat.le_of_ble_eq_true rfl) (fun p e s m args below meth c ls Q hQ X _ hP hl => ?_)
  obtain ⟨hx, hb, hr, hml, hown, hts, hlk, hK, hN⟩ := id X
  have hown : s.vm.findClass RJ6 = some m.cls := hown
  have hl : lv_has ls 1 [(0, .int p1)] := hl
  unfold FJ6_bitCount_0f7a4 at hF
  refine lv_iload_n hx hb dJ6_bitCount_0f7a4_0 rfl (lv_at hl 0 rfl) ?_
  refine lv_iload_n hx hb dJ6_bitCount_0f7a4_1 rfl (lv_at hl 0 rfl) ?_
  refine lv_iconst (v := (1 : Int32)) hx hb dJ6_bitCount_0f7a4_2 (by decide) ?_
  refine lv_iushr hx hb dJ6_bitCount_0f7a4_3 rfl ?_
  refine lv_ldcw (v := (1431655765 : Int32)) hx hb hown (hts _ ki_J6_265) dJ6_bitCount_0f7a4_4 ?_
  refine lv_iand hx hb dJ6_bitCount_0f7a4_7 ?_
  refine lv_isub hx hb dJ6_bitCount_0f7a4_8 ?_
  refine lv_topi (fun y1 e_y1 => ?_)
  replace hF := nm_at hF e_y1
  refine lv_istore_n (lv' := [(0, .int y1)]) hx hb dJ6_bitCount_0f7a4_9 rfl hl (by decide) rfl (fun ls hl => ?_)
  refine lv_iload_n hx hb dJ6_bitCount_0f7a4_10 rfl (lv_at hl 0 rfl) ?_
  refine lv_ldcw (v := (858993459 : Int32)) hx hb hown (hts _ ki_J6_266) dJ6_bitCount_0f7a4_11 ?_
  refine lv_iand hx hb dJ6_bitCount_0f7a4_14 ?_
  refine lv_iload_n hx hb dJ6_bitCount_0f7a4_15 rfl (lv_at hl 0 rfl) ?_
  refine lv_iconst (v := (2 : Int32)) hx hb dJ6_bitCount_0f7a4_16 (by decide) ?_
  refine lv_iushr hx hb dJ6_bitCount_0f7a4_17 rfl ?_
  refine lv_ldcw (v := (858993459 : Int32)) hx hb hown (hts _ ki_J6_266) dJ6_bitCount_0f7a4_18 ?_
  refine lv_iand hx hb dJ6_bitCount_0f7a4_21 ?_
  refine lv_iadd hx hb dJ6_bitCount_0f7a4_22 ?_
  refine lv_topi (fun y2 e_y2 => ?_)
  replace hF := nm_at hF e_y2
  refine lv_istore_n (lv' := [(0, .int y2)]) hx hb dJ6_bitCount_0f7a4_23 rfl hl (by decide) rfl (fun ls hl => ?_)
  refine lv_iload_n hx hb dJ6_bitCount_0f7a4_24 rfl (lv_at hl 0 rfl) ?_
  refine lv_iload_n hx hb dJ6_bitCount_0f7a4_25 rfl (lv_at hl 0 rfl) ?_
  refine lv_iconst (v := (4 : Int32)) hx hb dJ6_bitCount_0f7a4_26 (by decide) ?_
  refine lv_iushr hx hb dJ6_bitCount_0f7a4_27 rfl ?_
  refine lv_iadd hx hb dJ6_bitCount_0f7a4_28 ?_
  refine lv_ldcw (v := (252645135 : Int32)) hx hb hown (hts _ ki_J6_267) dJ6_bitCount_0f7a4_29 ?_
  refine lv_iand hx hb dJ6_bitCount_0f7a4_32 ?_
  refine lv_topi (fun y3 e_y3 => ?_)
  replace hF := nm_at hF e_y3
  refine lv_istore_n (lv' := [(0, .int y3)]) hx hb dJ6_bitCount_0f7a4_33 rfl hl (by decide) rfl (fun ls hl => ?_)
  refine lv_iload_n hx hb dJ6_bitCount_0f7a4_34 rfl (lv_at hl 0 rfl) ?_
  refine lv_iload_n hx hb dJ6_bitCount_0f7a4_35 rfl (lv_at hl 0 rfl) ?_
  refine lv_bipush (v := (8 : Int32)) hx hb dJ6_bitCount_0f7a4_36 (by decide) ?_
  refine lv_iushr hx hb dJ6_bitCount_0f7a4_38 rfl ?_
  refine lv_iadd hx hb dJ6_bitCount_0f7a4_39 ?_
  refine lv_topi (fun y4 e_y4 => ?_)
  replace hF := nm_at hF e_y4
  refine lv_istore_n (lv' := [(0, .int y4)]) hx hb dJ6_bitCount_0f7a4_40 rfl hl (by decide) rfl (fun ls hl => ?_)
  refine lv_iload_n hx hb dJ6_bitCount_0f7a4_41 rfl (lv_at hl 0 rfl) ?_
  refine lv_iload_n hx hb dJ6_bitCount_0f7a4_42 rfl (lv_at hl 0 rfl) ?_
  refine lv_bipush (v := (16 : Int32)) hx hb dJ6_bitCount_0f7a4_43 (by decide) ?_
  refine lv_iushr hx hb dJ6_bitCount_0f7a4_45 rfl ?_
  refine lv_iadd hx hb dJ6_bitCount_0f7a4_46 ?_
  refine lv_topi (fun y5 e_y5 => ?_)
  replace hF := nm_at hF e_y5
  refine lv_istore_n (lv' := [(0, .int y5)]) hx hb dJ6_bitCount_0f7a4_47 rfl hl (by decide) rfl (fun ls hl => ?_)
  refine lv_iload_n hx hb dJ6_bitCount_0f7a4_48 rfl (lv_at hl 0 rfl) ?_
  refine lv_bipush (v := (63 : Int32)) hx hb dJ6_bitCount_0f7a4_49 (by decide) ?_
  refine lv_iand hx hb dJ6_bitCount_0f7a4_51 ?_
  subst hF
  rw [hQ]
  exact rt_i X dJ6_bitCount_0f7a4_52
def FX2_draw (p_seed : Int64) (p1 : Int32) : Option (Int32 × Int64) :=
  if (1 : Int32) ≤ p1 then (if p1.toInt64 = 0 then none else some ((((((p_seed * (6364136223846793005 : Int64)) + (1442695040888963407 : Int64)).toUInt64 >>> ((33 : Int32).toInt64.toUInt64 &&& Int64.toUInt64 63)).toInt64) - ((((p_seed * (6364136223846793005 : Int64)) + (1442695040888963407 : Int64)).toUInt64 >>> ((33 : Int32).toInt64.toUInt64 &&& Int64.toUInt64 63)).toInt64) / p1.toInt64 * p1.toInt64).toInt32, (p_seed * (6364136223846793005 : Int64)) + (1442695040888963407 : Int64))) else (some ((0 : Int32), p_seed))
def gstep (x : Int64) : Int64 := (x * (6364136223846793005 : Int64)) + (1442695040888963407 : Int64)
def gup (x : Int64) : Int64 := (x.toUInt64 >>> ((33 : Int32).toInt64.toUInt64 &&& Int64.toUInt64 63)).toInt64
def gdraw (x : Int64) (n : Int32) : Int32 × Int64 := if (1 : Int32) ≤ n then ((gup (gstep x) - gup (gstep x) / n.toInt64 * n.toInt64).toInt32, gstep x) else (0, x)
theorem FX2_draw_eq (x : Int64) (n : Int32) : FX2_draw x n = some (gdraw x n) := by
  unfold FX2_draw gdraw
  by_cases h : (1 : Int32) ≤ n
  · have h0 : ¬ n.toInt64 = 0 := by
      intro e
      have e2 : n.toInt64.toInt = 0 := by rw [e]; rfl
      rw [Int32.toInt_toInt64] at e2
      have h2 := Int32.le_iff_toInt_le.mp h
      rw [e2] at h2
      exact absurd h2 (by decide)
    rw [if_pos h, if_pos h, if_neg h0]
    rfl
  · rw [if_neg h, if_neg h]
def rm_X2_draw : Room := { frames := 0, cells := 0, slots := 0, locals := 0 }
set_option maxHeartbeats 4000000 in
set_option maxRecDepth 100000 in
theorem c_X2_draw (l : Launch) (D : va_G) (cI cJ cZ : ClassId) (a : Nat → Nat) (ws0 : va_W) (A : Nat → Prop) (k : Nat) (p_seed : Int64) (p_questions : Int32) (p_rightOnes : Int32) (p_wrongOnes : Int32) (p_isKept : Int32) (p1 : Int32) (u : Int32 × Int64) (hF : FX2_draw p_seed p1 = some u) (z_k0 : ws0[k]? = some (a k, .inr (2, [.ref (a (k + 1)), .ref (a (k + 2)), .long p_seed, .int p_questions, .int p_rightOnes, .int p_wrongOnes, .int p_isKept]))) (hD : va_D A ws0) : Met l yX2_draw (wq yX2_draw cX2_draw 2 (some .int)) rm_X2_draw (Pq [.ref (a k), .int p1] D cI cJ cZ ws0) (Qw D A ws0 [k] (some (.int u.1)) (fun w => w[k]? = some (a k, .inr (2, [.ref (a (k + 1)), .ref (a (k + 2)), .long u.2, .int p_questions, .int p_rightOnes, .int p_wrongOnes, .int p_isKept])))) 0 0 A := by
  refine mq_of (by decide) (Nat.le_of_ble_eq_true rfl) (fun p e s m args below meth c ls Q hQ X _ hP hl => ?_)
  obtain ⟨hx, hb, hr, hml, hown, hts, hlk, hK, hN⟩ := id X
  have hown : s.vm.findClass RX2 = some m.cls := hown
  have hl : lv_has ls 2 [(0, .ref (a k)), (1, .int p1)] := hl
  have hS : va_S A s.heap s.heap [] := va_S.rf
  have hs : ∀ j : Nat, j ∉ [k] → ws0[j]? = ws0[j]? := fun _ _ => rfl
  have h_k0 := z_k0
  unfold FX2_draw at hF
  refine lv_iload_n hx hb dX2_draw_0 rfl (lv_at hl 1 rfl) ?_
  refine lv_iconst (v := (1 : Int32)) hx hb dX2_draw_1 (by decide) ?_
  refine lv_icmp_ge (tgt := 7) hx hb dX2_draw_2 (by decide) (fun c1 => ?_) (fun c1 => ?_)
  · replace hF := (if_pos c1).symm.trans hF
    refine lv_aload_n hx hb dX2_draw_7 rfl (lv_at hl 0 rfl) ?_
    refine lv_aload_n hx hb dX2_draw_8 rfl (lv_at hl 0 rfl) ?_
    refine gf_X2_24 hx hb hts hown hK hP h_k0 dX2_draw_9 ?_
    refine lv_ldc2 (v := (6364136223846793005 : Int64)) hx hb hown (hts _ kl_X2_46) dX2_draw_12 ?_
    refine lv_lmul hx hb dX2_draw_15 ?_
    refine lv_ldc2 (v := (1442695040888963407 : Int64)) hx hb hown (hts _ kl_X2_48) dX2_draw_16 ?_
    refine lv_ladd hx hb dX2_draw_19 ?_
    refine pf_X2_24 hx hb hts hown hK hP hD hS h_k0 rfl rfl dX2_draw_20 (fun w2 H locs hP hD hk hc hS => ?_)
    have h_k0 : w2[k]? = some (a k, .inr (2, [.ref (a (k + 1)), .ref (a (k + 2)), .long ((p_seed * (6364136223846793005 : Int64)) + (1442695040888963407 : Int64)), .int p_questions, .int p_rightOnes, .int p_wrongOnes, .int p_isKept])) := hc
    replace hs := sm_k hk (by simp) hs
    refine lv_aload_n hx hb dX2_draw_23 rfl (lv_at hl 0 rfl) ?_
    refine gf_X2_24 hx hb hts hown hK hP h_k0 dX2_draw_24 ?_
    refine lv_bipush (v := (33 : Int32)) hx hb dX2_draw_27 (by decide) ?_
    refine lv_lushr hx hb dX2_draw_29 rfl ?_
    refine lv_iload_n hx hb dX2_draw_30 rfl (lv_at hl 1 rfl) ?_
    refine lv_i2l hx hb dX2_draw_31 rfl ?_
    obtain ⟨hg3, hF⟩ := gd_some hF
    refine lv_lrem hx hb dX2_draw_32 hg3 ?_
    refine lv_l2i hx hb dX2_draw_33 rfl ?_
    obtain rfl := Option.some.inj hF
    rw [hQ]
    exact rw_i X hS hP hD hs h_k0 dX2_draw_34
  · replace hF := (if_neg c1).symm.trans hF
    refine lv_iconst (v := (0 : Int32)) hx hb dX2_draw_5 (by decide) ?_
    obtain rfl := Option.some.inj hF
    rw [hQ]
    exact rw_i X hS hP hD hs h_k0 dX2_draw_6
theorem t_X2_draw (l : Launch) (D : va_G) (cI cJ cZ : ClassId) (a : Nat → Nat) (ws0 : va_W) (A : Nat → Prop) (k : Nat) (p_seed : Int64) (p_questions : Int32) (p_rightOnes : Int32) (p_wrongOnes : Int32) (p_isKept : Int32) (p1 : Int32) (u : Int32 × Int64) (hF : gdraw p_seed p1 = u) (z_k0 : ws0[k]? = some (a k, .inr (2, [.ref (a (k + 1)), .ref (a (k + 2)), .long p_seed, .int p_questions, .int p_rightOnes, .int p_wrongOnes, .int p_isKept]))) (hD : va_D A ws0)  : Met l yX2_draw (wq yX2_draw cX2_draw 2 (some .int)) rm_X2_draw (Pq [.ref (a k), .int p1] D cI cJ cZ ws0) (Qw D A ws0 [k] (some (.int u.1)) (fun w => w[k]? = some (a k, .inr (2, [.ref (a (k + 1)), .ref (a (k + 2)), .long u.2, .int p_questions, .int p_rightOnes, .int p_wrongOnes, .int p_isKept])))) 0 0 A :=
  c_X2_draw l D cI cJ cZ a ws0 A k p_seed p_questions p_rightOnes p_wrongOnes p_isKept p1 u ((FX2_draw_eq p_seed p1).trans (congrArg some hF)) z_k0 hD
def FX3_member_S5 (ro_pupils : Int32) (p1 : Int32) (p2 : Int32) (x1 : Int32) (x2 : Int32) : Option ((Int32 × Int32) ⊕ ((Unit) ⊕ Int32)) :=
  if ro_pupils ≤ x2 then (some (.inr (.inl ()))) else (if (FX8_isIn p1 x2) = true then (if x1 = p2 then (some (.inr (.inr x2))) else (some (.inl (x1 + (1 : Int32), x2 + (1 : Int32))))) else (some (.inl (x1, x2 + (1 : Int32)))))
def FX3_member (ro_pupils : Int32) (p1 : Int32) (p2 : Int32) : Option (Int32) :=
  (itr (fun v => FX3_member_S5 ro_pupils p1 p2 v.1 v.2) fu ((0 : Int32), (0 : Int32))).bind fun o6 => Sum.elim (fun o7 => (some (-9 : Int32))) (fun q => some q) o6
def rm_X3_member : Room := { frames := 1, cells := 0, slots := 0, locals := 21 }
set_option maxHeartbeats 4000000 in
set_option maxRecDepth 100000 in
theorem c_X3_member (l : Launch) (D : va_G) (cI cJ cZ : ClassId) (a : Nat → Nat) (ws0 : va_W)  (ro_pupils : Int32) (ro_mood : Int32) (p1 : Int32) (p2 : Int32) (u : Int32) (hF : FX3_member ro_pupils p1 p2 = some u) (h3 : ws0[3]? = some (a 3, .inr (3, [.ref (a 4), .ref (a 5), .ref (a 6), .ref (a 7), .ref (a 8), .ref (a 9), .ref (a 10), .int ro_pupils, .int ro_mood]))) : Met l yX3_member (wq yX3_member cX3_member 5 (some .int)) rm_X3_member (Pq [.ref (a 3), .int p1, .int p2] D cI cJ cZ ws0) (Qq (some (.int u))) 0 0 (fun _ => False) := by
  refine mq_of (by decide) (Nat.le_of_ble_eq_true rfl) (fun p e s m args below meth c ls Q hQ X _ hP hl => ?_)
  obtain ⟨hx, hb, hr, hml, hown, hts, hlk, hK, hN⟩ := id X
  have hown : s.vm.findClass RX3 = some m.cls := hown
  have hl : lv_has ls 5 [(0, .ref (a 3)), (1, .int p1), (2, .int p2)] := hl
  unfold FX3_member at hF
  refine lv_iconst (v := (0 : Int32)) hx hb dX3_member_0 (by decide) ?_
  refine lv_istore_n (lv' := [(3, .int (0 : Int32)), (0, .ref (a 3)), (1, .int p1), (2, .int p2)]) hx hb dX3_member_1 rfl hl (by decide) rfl (fun ls hl => ?_)
  refine lv_iconst (v := (0 : Int32)) hx hb dX3_member_2 (by decide) ?_
  refine lv_istore (lv' := [(4, .int (0 : Int32)), (3, .int (0 : Int32)), (0, .ref (a 3)), (1, .int p1), (2, .int p2)]) hx hb dX3_member_3 hl (by decide) rfl (fun ls hl => ?_)
  have hL5 : ∀ (nf : Nat) (x1 : Int32) (x2 : Int32) (r : (Unit) ⊕ Int32), itr (fun v => FX3_member_S5 ro_pupils p1 p2 v.1 v.2) nf (x1, x2) = some r → ∀ ls, lv_has ls 5 [(4, .int x2), (3, .int x1), (0, .ref (a 3)), (1, .int p1), (2, .int p2)] → (∀ o : Unit, r = .inl o → ∀ ls, lv_has ls 5 [] → W p l e rm_X3_member s m args below meth c s.heap [] 0 0 Q (F0 m 40 ls [])) → (∀ o : Int32, r = .inr o → ∀ ls, ls.size = 5 → W p l e rm_X3_member s m args below meth c s.heap [] 0 0 Q (F0 m 30 ls [.int o])) → W p l e rm_X3_member s m args below meth c s.heap [] 0 0 Q (F0 m 5 ls []) := by
    intro nf
    induction nf with
    | zero => intro _ _ r hF; exact (itr_0 hF).elim
    | succ nf ih =>
      intro x1 x2 r hF ls hl hE hE2
      obtain ⟨wo, hF, hw⟩ := itr_s hF
      replace hF : FX3_member_S5 ro_pupils p1 p2 x1 x2 = some wo := hF
      unfold FX3_member_S5 at hF
      refine lv_iload hx hb dX3_member_5 (lv_at hl 0 rfl) ?_
      refine lv_aload_n hx hb dX3_member_7 rfl (lv_at hl 2 rfl) ?_
      refine gf_X3_46 hx hb hts hown hK hP h3 dX3_member_8 ?_
      refine lv_icmp_ge (tgt := 40) hx hb dX3_member_11 (by decide) (fun c3 => ?_) (fun c3 => ?_)
      · replace hF := (if_pos c3).symm.trans hF
        obtain rfl := Option.some.inj hF
        obtain rfl := hw
        exact hE _ rfl ls (lv_sub hl [] rfl)
      · replace hF := (if_neg c3).symm.trans hF
        refine lv_iload_n hx hb dX3_member_14 rfl (lv_at hl 3 rfl) ?_
        refine lv_iload hx hb dX3_member_15 (lv_at hl 0 rfl) ?_
        refine rd_i (runSN (As := [.int p1, .int x2]) (rest := []) X cq_X8_isIn lk_X3_99 (c_X8_isIn l D cI cJ cZ a ws0 p1 x2 _ rfl ) rfl rfl ⟨Nat.le_of_ble_eq_true rfl, Nat.le_of_ble_eq_true rfl⟩ hP rfl hl.1 rfl (Nat.le_of_ble_eq_true rfl) dX3_member_17 ⟨Nat.le_of_ble_eq_true rfl, Nat.le_of_ble_eq_true rfl⟩) ?_
        refine zf_eq (tgt := 34) hx hb dX3_member_20 (by decide) (fun c4 => ?_) (fun c4 => ?_)
        · replace hF := (if_neg c4).symm.trans hF
          refine lv_iinc (v := x2 + (1 : Int32)) (lv' := [(4, .int (x2 + (1 : Int32))), (3, .int x1), (0, .ref (a 3)), (1, .int p1), (2, .int p2)]) hx hb dX3_member_34 hl (k := 0) rfl rfl (by decide) rfl (fun ls hl => ?_)
          refine lv_goto (tgt := 5) hx hb dX3_member_37 (by decide) ?_
          obtain rfl := Option.some.inj hF
          exact ih _ _ _ hw ls (lv_sub hl [0, 1, 2, 3, 4] rfl) hE hE2
        · replace hF := (if_pos c4).symm.trans hF
          refine lv_iload_n hx hb dX3_member_23 rfl (lv_at hl 1 rfl) ?_
          refine lv_iload_n hx hb dX3_member_24 rfl (lv_at hl 4 rfl) ?_
          refine lv_icmp_ne (tgt := 31) hx hb dX3_member_25 (by decide) (fun c5 => ?_) (fun c5 => ?_)
          · replace hF := (if_neg c5).symm.trans hF
            refine lv_iinc (v := x1 + (1 : Int32)) (lv' := [(3, .int (x1 + (1 : Int32))), (4, .int x2), (0, .ref (a 3)), (1, .int p1), (2, .int p2)]) hx hb dX3_member_31 hl (k := 1) rfl rfl (by decide) rfl (fun ls hl => ?_)
            refine lv_iinc (v := x2 + (1 : Int32)) (lv' := [(4, .int (x2 + (1 : Int32))), (3, .int (x1 + (1 : Int32))), (0, .ref (a 3)), (1, .int p1), (2, .int p2)]) hx hb dX3_member_34 hl (k := 1) rfl rfl (by decide) rfl (fun ls hl => ?_)
            refine lv_goto (tgt := 5) hx hb dX3_member_37 (by decide) ?_
            obtain rfl := Option.some.inj hF
            exact ih _ _ _ hw ls (lv_sub hl [0, 1, 2, 3, 4] rfl) hE hE2
          · replace hF := (if_pos c5).symm.trans hF
            refine lv_iload hx hb dX3_member_28 (lv_at hl 0 rfl) ?_
            obtain rfl := Option.some.inj hF
            obtain rfl := hw
            exact hE2 _ rfl ls hl.1
  obtain ⟨o6, ho6, hF⟩ := bd_some hF
  refine hL5 fu (0 : Int32) (0 : Int32) o6 ho6 ls (lv_sub hl [0, 1, 2, 3, 4] rfl) ?_ ?_
  · intro o7 q_o6 ls hl
    subst q_o6
    refine lv_bipush (v := (-9 : Int32)) hx hb dX3_member_40 (by decide) ?_
    obtain rfl := Option.some.inj hF
    rw [hQ]
    exact rt_i X dX3_member_42
  · intro o q_o6 ls hls
    subst q_o6
    obtain rfl := Option.some.inj hF
    rw [hQ]
    exact rt_i X dX3_member_30
def FX3_foremost_J46L6 (x6 : Int32) : Option ((Int32 × Int32) ⊕ (Int32)) :=
  some (.inl (x6, x6 + (1 : Int32)))
def FX3_foremost_S6 (ro_pupils : Int32) (ro_rows : Nat → Int32) (ro_columns : Nat → Int32) (ro_needs : Nat → Int32) (le_times : Nat → Int32) (p1 : Int32) (p2 : Int32) (x1 : Int32) (x2 : Int32) : Option ((Int32 × Int32) ⊕ (Int32)) :=
  if ro_pupils ≤ x2 then (some (.inr x1)) else (if (FX8_isIn p1 x2) = true then (if x1 = (-9 : Int32) then (FX3_foremost_J46L6 x2) else (if (FX3_rank ro_rows ro_columns ro_needs le_times x1 p2) ≤ (FX3_rank ro_rows ro_columns ro_needs le_times x2 p2) then (some (.inl (x1, x2 + (1 : Int32)))) else (FX3_foremost_J46L6 x2))) else (some (.inl (x1, x2 + (1 : Int32)))))
def FX3_foremost (ro_pupils : Int32) (ro_rows : Nat → Int32) (ro_columns : Nat → Int32) (ro_needs : Nat → Int32) (le_times : Nat → Int32) (p1 : Int32) (p2 : Int32) : Option (Int32) :=
  (itr (fun v => FX3_foremost_S6 ro_pupils ro_rows ro_columns ro_needs le_times p1 p2 v.1 v.2) fu ((-9 : Int32), (0 : Int32))).bind fun o8 => some o8
def rm_X3_foremost : Room := { frames := 4, cells := 0, slots := 0, locals := 86 }
set_option maxHeartbeats 4000000 in
set_option maxRecDepth 100000 in
theorem c_X3_foremost (l : Launch) (D : va_G) (cI cJ cZ : ClassId) (a : Nat → Nat) (ws0 : va_W)  (ro_pupils : Int32) (ro_mood : Int32) (ro_rows : Nat → Int32) (ro_columns : Nat → Int32) (ro_needs : Nat → Int32) (le_seed : Int64) (le_questions : Int32) (le_rightOnes : Int32) (le_wrongOnes : Int32) (le_isKept : Int32) (le_times : Nat → Int32) (p1 : Int32) (p2 : Int32) (u : Int32) (hF : FX3_foremost ro_pupils ro_rows ro_columns ro_needs le_times p1 p2 = some u) (h3 : ws0[3]? = some (a 3, .inr (3, [.ref (a 4), .ref (a 5), .ref (a 6), .ref (a 7), .ref (a 8), .ref (a 9), .ref (a 10), .int ro_pupils, .int ro_mood]))) (h5 : ws0[5]? = some (a 5, .inl (cI, 12, .inl ro_rows))) (h6 : ws0[6]? = some (a 6, .inl (cI, 12, .inl ro_columns))) (h8 : ws0[8]? = some (a 8, .inl (cI, 12, .inl ro_needs))) (h10 : ws0[10]? = some (a 10, .inr (2, [.ref (a 11), .ref (a 12), .long le_seed, .int le_questions, .int le_rightOnes, .int le_wrongOnes, .int le_isKept]))) (h12 : ws0[12]? = some (a 12, .inl (cI, 12, .inl le_times))) : Met l yX3_foremost (wq yX3_foremost cX3_foremost 5 (some .int)) rm_X3_foremost (Pq [.ref (a 3), .int p1, .int p2] D cI cJ cZ ws0) (Qq (some (.int u))) 0 0 (fun _ => False) := by
  refine mq_of (by decide) (Nat.le_of_ble_eq_true rfl) (fun p e s m args below meth c ls Q hQ X _ hP hl => ?_)
  obtain ⟨hx, hb, hr, hml, hown, hts, hlk, hK, hN⟩ := id X
  have hown : s.vm.findClass RX3 = some m.cls := hown
  have hl : lv_has ls 5 [(0, .ref (a 3)), (1, .int p1), (2, .int p2)] := hl
  unfold FX3_foremost at hF
  refine lv_bipush (v := (-9 : Int32)) hx hb dX3_foremost_0 (by decide) ?_
  refine lv_istore_n (lv' := [(3, .int (-9 : Int32)), (0, .ref (a 3)), (1, .int p1), (2, .int p2)]) hx hb dX3_foremost_2 rfl hl (by decide) rfl (fun ls hl => ?_)
  refine lv_iconst (v := (0 : Int32)) hx hb dX3_foremost_3 (by decide) ?_
  refine lv_istore (lv' := [(4, .int (0 : Int32)), (3, .int (-9 : Int32)), (0, .ref (a 3)), (1, .int p1), (2, .int p2)]) hx hb dX3_foremost_4 hl (by decide) rfl (fun ls hl => ?_)
  have hL6 : ∀ (nf : Nat) (x1 : Int32) (x2 : Int32) (r : Int32), itr (fun v => FX3_foremost_S6 ro_pupils ro_rows ro_columns ro_needs le_times p1 p2 v.1 v.2) nf (x1, x2) = some r → ∀ ls, lv_has ls 5 [(4, .int x2), (3, .int x1), (0, .ref (a 3)), (1, .int p1), (2, .int p2)] → (∀ o : Int32, r = o → ∀ ls, lv_has ls 5 [(3, .int o)] → W p l e rm_X3_foremost s m args below meth c s.heap [] 0 0 Q (F0 m 55 ls [])) → W p l e rm_X3_foremost s m args below meth c s.heap [] 0 0 Q (F0 m 6 ls []) := by
    intro nf
    induction nf with
    | zero => intro _ _ r hF; exact (itr_0 hF).elim
    | succ nf ih =>
      intro x1 x2 r hF ls hl hE
      obtain ⟨wo, hF, hw⟩ := itr_s hF
      replace hF : FX3_foremost_S6 ro_pupils ro_rows ro_columns ro_needs le_times p1 p2 x1 x2 = some wo := hF
      have hJ46 : ∀ (x6 : Int32), ∀ ls, lv_has ls 5 [(4, .int x6), (0, .ref (a 3)), (1, .int p1), (2, .int p2)] → FX3_foremost_J46L6 x6 = some wo → W p l e rm_X3_foremost s m args below meth c s.heap [] 0 0 Q (F0 m 46 ls []) := by
        intro x6 ls hl hF
        unfold FX3_foremost_J46L6 at hF
        refine lv_iload hx hb dX3_foremost_46 (lv_at hl 0 rfl) ?_
        refine lv_istore_n (lv' := [(3, .int x6), (4, .int x6), (0, .ref (a 3)), (1, .int p1), (2, .int p2)]) hx hb dX3_foremost_48 rfl hl (by decide) rfl (fun ls hl => ?_)
        refine lv_iinc (v := x6 + (1 : Int32)) (lv' := [(4, .int (x6 + (1 : Int32))), (3, .int x6), (0, .ref (a 3)), (1, .int p1), (2, .int p2)]) hx hb dX3_foremost_49 hl (k := 1) rfl rfl (by decide) rfl (fun ls hl => ?_)
        refine lv_goto (tgt := 6) hx hb dX3_foremost_52 (by decide) ?_
        obtain rfl := Option.some.inj hF
        exact ih _ _ _ hw ls (lv_sub hl [0, 1, 2, 3, 4] rfl) hE
      unfold FX3_foremost_S6 at hF
      refine lv_iload hx hb dX3_foremost_6 (lv_at hl 0 rfl) ?_
      refine lv_aload_n hx hb dX3_foremost_8 rfl (lv_at hl 2 rfl) ?_
      refine gf_X3_46 hx hb hts hown hK hP h3 dX3_foremost_9 ?_
      refine lv_icmp_ge (tgt := 55) hx hb dX3_foremost_12 (by decide) (fun c3 => ?_) (fun c3 => ?_)
      · replace hF := (if_pos c3).symm.trans hF
        obtain rfl := Option.some.inj hF
        obtain rfl := hw
        exact hE _ rfl ls (lv_sub hl [1] rfl)
      · replace hF := (if_neg c3).symm.trans hF
        refine lv_iload_n hx hb dX3_foremost_15 rfl (lv_at hl 3 rfl) ?_
        refine lv_iload hx hb dX3_foremost_16 (lv_at hl 0 rfl) ?_
        refine rd_i (runSN (As := [.int p1, .int x2]) (rest := []) X cq_X8_isIn lk_X3_99 (c_X8_isIn l D cI cJ cZ a ws0 p1 x2 _ rfl ) rfl rfl ⟨Nat.le_of_ble_eq_true rfl, Nat.le_of_ble_eq_true rfl⟩ hP rfl hl.1 rfl (Nat.le_of_ble_eq_true rfl) dX3_foremost_18 ⟨Nat.le_of_ble_eq_true rfl, Nat.le_of_ble_eq_true rfl⟩) ?_
        refine zf_eq (tgt := 49) hx hb dX3_foremost_21 (by decide) (fun c4 => ?_) (fun c4 => ?_)
        · replace hF := (if_neg c4).symm.trans hF
          refine lv_iinc (v := x2 + (1 : Int32)) (lv' := [(4, .int (x2 + (1 : Int32))), (3, .int x1), (0, .ref (a 3)), (1, .int p1), (2, .int p2)]) hx hb dX3_foremost_49 hl (k := 0) rfl rfl (by decide) rfl (fun ls hl => ?_)
          refine lv_goto (tgt := 6) hx hb dX3_foremost_52 (by decide) ?_
          obtain rfl := Option.some.inj hF
          exact ih _ _ _ hw ls (lv_sub hl [0, 1, 2, 3, 4] rfl) hE
        · replace hF := (if_pos c4).symm.trans hF
          refine lv_iload_n hx hb dX3_foremost_24 rfl (lv_at hl 1 rfl) ?_
          refine lv_bipush (v := (-9 : Int32)) hx hb dX3_foremost_25 (by decide) ?_
          refine lv_icmp_eq (tgt := 46) hx hb dX3_foremost_27 (by decide) (fun c5 => ?_) (fun c5 => ?_)
          · replace hF := (if_pos c5).symm.trans hF
            exact hJ46 x2 ls (lv_sub hl [0, 2, 3, 4] rfl) hF
          · replace hF := (if_neg c5).symm.trans hF
            refine lv_aload_n hx hb dX3_foremost_30 rfl (lv_at hl 2 rfl) ?_
            refine lv_iload hx hb dX3_foremost_31 (lv_at hl 0 rfl) ?_
            refine lv_iload_n hx hb dX3_foremost_33 rfl (lv_at hl 4 rfl) ?_
            refine rd_i (runV (As := [.int x2, .int p2]) (rest := []) X cq_X3_rank lk_X3_131 (c_X3_rank l D cI cJ cZ a ws0 ro_pupils ro_mood ro_rows ro_columns ro_needs le_seed le_questions le_rightOnes le_wrongOnes le_isKept le_times x2 p2 _ rfl h3 h5 h6 h8 h10 h12) rfl rfl ⟨Nat.le_of_ble_eq_true rfl, Nat.le_of_ble_eq_true rfl⟩ hP h3 rfl rfl hl.1 rfl (Nat.le_of_ble_eq_true rfl) dX3_foremost_34 ⟨Nat.le_of_ble_eq_true rfl, Nat.le_of_ble_eq_true rfl⟩) ?_
            refine lv_aload_n hx hb dX3_foremost_37 rfl (lv_at hl 2 rfl) ?_
            refine lv_iload_n hx hb dX3_foremost_38 rfl (lv_at hl 1 rfl) ?_
            refine lv_iload_n hx hb dX3_foremost_39 rfl (lv_at hl 4 rfl) ?_
            refine rd_i (runV (As := [.int x1, .int p2]) (rest := [.int (FX3_rank ro_rows ro_columns ro_needs le_times x2 p2)]) X cq_X3_rank lk_X3_131 (c_X3_rank l D cI cJ cZ a ws0 ro_pupils ro_mood ro_rows ro_columns ro_needs le_seed le_questions le_rightOnes le_wrongOnes le_isKept le_times x1 p2 _ rfl h3 h5 h6 h8 h10 h12) rfl rfl ⟨Nat.le_of_ble_eq_true rfl, Nat.le_of_ble_eq_true rfl⟩ hP h3 rfl rfl hl.1 rfl (Nat.le_of_ble_eq_true rfl) dX3_foremost_40 ⟨Nat.le_of_ble_eq_true rfl, Nat.le_of_ble_eq_true rfl⟩) ?_
            refine lv_icmp_ge (tgt := 49) hx hb dX3_foremost_43 (by decide) (fun c7 => ?_) (fun c7 => ?_)
            · replace hF := (if_pos c7).symm.trans hF
              refine lv_iinc (v := x2 + (1 : Int32)) (lv' := [(4, .int (x2 + (1 : Int32))), (3, .int x1), (0, .ref (a 3)), (1, .int p1), (2, .int p2)]) hx hb dX3_foremost_49 hl (k := 0) rfl rfl (by decide) rfl (fun ls hl => ?_)
              refine lv_goto (tgt := 6) hx hb dX3_foremost_52 (by decide) ?_
              obtain rfl := Option.some.inj hF
              exact ih _ _ _ hw ls (lv_sub hl [0, 1, 2, 3, 4] rfl) hE
            · replace hF := (if_neg c7).symm.trans hF
              exact hJ46 x2 ls (lv_sub hl [0, 2, 3, 4] rfl) hF
  obtain ⟨o8, ho8, hF⟩ := bd_some hF
  refine hL6 fu (-9 : Int32) (0 : Int32) o8 ho8 ls (lv_sub hl [0, 1, 2, 3, 4] rfl) ?_
  intro _ q_o8 ls hl
  subst q_o8
  refine lv_iload_n hx hb dX3_foremost_55 rfl (lv_at hl 0 rfl) ?_
  obtain rfl := Option.some.inj hF
  rw [hQ]
  exact rt_i X dX3_foremost_56
def FX3_choose_J30 (ro_pupils : Int32) (x6 : Int32) (x7 : Int64) : Option (Int32 × Int64) :=
  nmb (gdraw x7 (FJ6_bitCount_0f7a4 x6)) fun u8 => (FX3_member ro_pupils x6 u8.1).bind fun x10 => some (x10, u8.2)
def FX3_choose_J18 (ro_pupils : Int32) (ro_needs : Nat → Int32) (ro_rows : Nat → Int32) (ro_columns : Nat → Int32) (le_times : Nat → Int32) (p3 : Int32) (x3 : Int32) (x4 : Int64) : Option (Int32 × Int64) :=
  if p3 = (2 : Int32) then (FX3_choose_J30 ro_pupils x3 x4) else (if p3 = (3 : Int32) then (FX3_choose_J30 ro_pupils x3 x4) else ((FX3_foremost ro_pupils ro_rows ro_columns ro_needs le_times x3 p3).bind fun x12 => some (x12, x4)))
def FX3_choose (ro_pupils : Int32) (ro_mood : Int32) (ro_letters : Nat → Int32) (ro_needs : Nat → Int32) (le_seed : Int64) (le_dares : Nat → Int32) (ro_rows : Nat → Int32) (ro_columns : Nat → Int32) (le_times : Nat → Int32) (p1 : Int32) (p2 : Int32) (p3 : Int32) : Option (Int32 × Int64) :=
  if p3 = (3 : Int32) then (FX3_choose_J18 ro_pupils ro_needs ro_rows ro_columns le_times p3 (FX3_everyone ro_pupils) le_seed) else ((FX3_upBits ro_pupils ro_mood ro_letters ro_needs le_dares p1 p2).bind fun x2 => FX3_choose_J18 ro_pupils ro_needs ro_rows ro_columns le_times p3 x2 le_seed)
def rm_X3_choose : Room := { frames := 5, cells := 0, slots := 0, locals := 110 }
set_option maxHeartbeats 4000000 in
set_option maxRecDepth 100000 in
theorem c_X3_choose (l : Launch) (D : va_G) (cI cJ cZ : ClassId) (a : Nat → Nat) (ws0 : va_W) (A : Nat → Prop)  (ro_pupils : Int32) (ro_mood : Int32) (ro_letters : Nat → Int32) (ro_needs : Nat → Int32) (le_seed : Int64) (le_questions : Int32) (le_rightOnes : Int32) (le_wrongOnes : Int32) (le_isKept : Int32) (le_dares : Nat → Int32) (ro_rows : Nat → Int32) (ro_columns : Nat → Int32) (le_times : Nat → Int32) (p1 : Int32) (p2 : Int32) (p3 : Int32) (u : Int32 × Int64) (hF : FX3_choose ro_pupils ro_mood ro_letters ro_needs le_seed le_dares ro_rows ro_columns le_times p1 p2 p3 = some u) (z3 : ws0[3]? = some (a 3, .inr (3, [.ref (a 4), .ref (a 5), .ref (a 6), .ref (a 7), .ref (a 8), .ref (a 9), .ref (a 10), .int ro_pupils, .int ro_mood]))) (z4 : ws0[4]? = some (a 4, .inl (cI, 12, .inl ro_letters))) (z5 : ws0[5]? = some (a 5, .inl (cI, 12, .inl ro_rows))) (z6 : ws0[6]? = some (a 6, .inl (cI, 12, .inl ro_columns))) (z8 : ws0[8]? = some (a 8, .inl (cI, 12, .inl ro_needs))) (z10 : ws0[10]? = some (a 10, .inr (2, [.ref (a 11), .ref (a 12), .long le_seed, .int le_questions, .int le_rightOnes, .int le_wrongOnes, .int le_isKept]))) (z11 : ws0[11]? = some (a 11, .inl (cI, 12, .inl le_dares))) (z12 : ws0[12]? = some (a 12, .inl (cI, 12, .inl le_times))) (hD : va_D A ws0) : Met l yX3_choose (wq yX3_choose cX3_choose 5 (some .int)) rm_X3_choose (Pq [.ref (a 3), .int p1, .int p2, .int p3] D cI cJ cZ ws0) (Qw D A ws0 [10] (some (.int u.1)) (fun w => w[10]? = some (a 10, .inr (2, [.ref (a 11), .ref (a 12), .long u.2, .int le_questions, .int le_rightOnes, .int le_wrongOnes, .int le_isKept])))) 0 0 A := by
  refine mq_of (by decide) (Nat.le_of_ble_eq_true rfl) (fun p e s m args below meth c ls Q hQ X _ hP hl => ?_)
  obtain ⟨hx, hb, hr, hml, hown, hts, hlk, hK, hN⟩ := id X
  have hown : s.vm.findClass RX3 = some m.cls := hown
  have hl : lv_has ls 5 [(0, .ref (a 3)), (1, .int p1), (2, .int p2), (3, .int p3)] := hl
  have hS : va_S A s.heap s.heap [] := va_S.rf
  have hs : ∀ j : Nat, j ∉ [10] → ws0[j]? = ws0[j]? := fun _ _ => rfl
  have h3 := z3
  have h4 := z4
  have h5 := z5
  have h6 := z6
  have h8 := z8
  have h10 := z10
  have h11 := z11
  have h12 := z12
  have hJ30 : ∀ (x6 : Int32) (x7 : Int64), ∀ (wJ : va_W) (HJ : Heap) (lJ : List Loc), va_P D vwCl wJ HJ → va_D A wJ → va_S A s.heap HJ lJ → (∀ j : Nat, j ∉ [10] → wJ[j]? = ws0[j]?) → wJ[10]? = some (a 10, .inr (2, [.ref (a 11), .ref (a 12), .long x7, .int le_questions, .int le_rightOnes, .int le_wrongOnes, .int le_isKept])) → ∀ ls, lv_has ls 5 [(4, .int x6), (0, .ref (a 3))] → FX3_choose_J30 ro_pupils x6 x7 = some u → W p l e rm_X3_choose s m args below meth c HJ lJ 0 0 Q (F0 m 30 ls []) := by
    intro x6 x7 w H locs hP hD hS hs h10 ls hl hF
    have h3 := (hs 3 (by simp only [List.mem_cons, List.not_mem_nil, or_false, not_or]; omega)).trans z3
    have h4 := (hs 4 (by simp only [List.mem_cons, List.not_mem_nil, or_false, not_or]; omega)).trans z4
    have h8 := (hs 8 (by simp only [List.mem_cons, List.not_mem_nil, or_false, not_or]; omega)).trans z8
    have h11 := (hs 11 (by simp only [List.mem_cons, List.not_mem_nil, or_false, not_or]; omega)).trans z11
    have h5 := (hs 5 (by simp only [List.mem_cons, List.not_mem_nil, or_false, not_or]; omega)).trans z5
    have h6 := (hs 6 (by simp only [List.mem_cons, List.not_mem_nil, or_false, not_or]; omega)).trans z6
    have h12 := (hs 12 (by simp only [List.mem_cons, List.not_mem_nil, or_false, not_or]; omega)).trans z12
    unfold FX3_choose_J30 at hF
    refine lv_aload_n hx hb dX3_choose_30 rfl (lv_at hl 1 rfl) ?_
    refine lv_iload hx hb dX3_choose_31 (lv_at hl 0 rfl) ?_
    refine lv_aload_n hx hb dX3_choose_33 rfl (lv_at hl 1 rfl) ?_
    refine gf_X3_33 hx hb hts hown hK hP h3 dX3_choose_34 ?_
    refine lv_iload hx hb dX3_choose_37 (lv_at hl 0 rfl) ?_
    refine rd_i (runS (As := [.int x6]) (rest := [.ref (a 10), .int x6, .ref (a 3)]) X cq_J6_bitCount_0f7a4 lk_X3_117 (c_J6_bitCount_0f7a4 l D cI cJ cZ a w x6 _ rfl ) rfl rfl ⟨Nat.le_of_ble_eq_true rfl, Nat.le_of_ble_eq_true rfl⟩ hP rfl hl.1 rfl (Nat.le_of_ble_eq_true rfl) dX3_choose_39 ⟨Nat.le_of_ble_eq_true rfl, Nat.le_of_ble_eq_true rfl⟩) ?_
    obtain ⟨u8, e_u8⟩ : ∃ q, q = gdraw x7 (FJ6_bitCount_0f7a4 x6) := ⟨_, rfl⟩
    replace hF := nm_at hF e_u8
    refine wr_i (runVN (As := [.int (FJ6_bitCount_0f7a4 x6)]) (rest := [.int x6, .ref (a 3)]) X cq_X2_draw lk_X3_122 (t_X2_draw l D cI cJ cZ a w A 10 x7 le_questions le_rightOnes le_wrongOnes le_isKept (FJ6_bitCount_0f7a4 x6) u8 e_u8.symm h10 hD) rfl rfl ⟨Nat.le_of_ble_eq_true rfl, Nat.le_of_ble_eq_true rfl⟩ hP h10 rfl rfl hl.1 rfl (Nat.le_of_ble_eq_true rfl) dX3_choose_42 ⟨Nat.le_of_ble_eq_true rfl, Nat.le_of_ble_eq_true rfl⟩) hS (fun w9 H locs hP hD hk hB hS => ?_)
    have h10 : w9[10]? = some (a 10, .inr (2, [.ref (a 11), .ref (a 12), .long u8.2, .int le_questions, .int le_rightOnes, .int le_wrongOnes, .int le_isKept])) := hB
    have h3 := (hk 3 (by simp only [List.mem_cons, List.not_mem_nil, or_false, not_or]; omega)).trans h3
    have h4 := (hk 4 (by simp only [List.mem_cons, List.not_mem_nil, or_false, not_or]; omega)).trans h4
    have h8 := (hk 8 (by simp only [List.mem_cons, List.not_mem_nil, or_false, not_or]; omega)).trans h8
    have h11 := (hk 11 (by simp only [List.mem_cons, List.not_mem_nil, or_false, not_or]; omega)).trans h11
    have h5 := (hk 5 (by simp only [List.mem_cons, List.not_mem_nil, or_false, not_or]; omega)).trans h5
    have h6 := (hk 6 (by simp only [List.mem_cons, List.not_mem_nil, or_false, not_or]; omega)).trans h6
    have h12 := (hk 12 (by simp only [List.mem_cons, List.not_mem_nil, or_false, not_or]; omega)).trans h12
    replace hs := st_tr hk (fun j hj => by simp only [List.mem_cons, List.not_mem_nil, or_false] at hj ⊢; omega) hs
    obtain ⟨x10, hx10, hF⟩ := bd_some hF
    refine rd_i (runV (As := [.int x6, .int u8.1]) (rest := []) X cq_X3_member lk_X3_125 (c_X3_member l D cI cJ cZ a w9 ro_pupils ro_mood x6 u8.1 x10 hx10 h3) rfl rfl ⟨Nat.le_of_ble_eq_true rfl, Nat.le_of_ble_eq_true rfl⟩ hP h3 rfl rfl hl.1 rfl (Nat.le_of_ble_eq_true rfl) dX3_choose_45 ⟨Nat.le_of_ble_eq_true rfl, Nat.le_of_ble_eq_true rfl⟩) ?_
    obtain rfl := Option.some.inj hF
    rw [hQ]
    exact rw_i X hS hP hD hs h10 dX3_choose_48
  have hJ18 : ∀ (x3 : Int32) (x4 : Int64), ∀ (wJ : va_W) (HJ : Heap) (lJ : List Loc), va_P D vwCl wJ HJ → va_D A wJ → va_S A s.heap HJ lJ → (∀ j : Nat, j ∉ [10] → wJ[j]? = ws0[j]?) → wJ[10]? = some (a 10, .inr (2, [.ref (a 11), .ref (a 12), .long x4, .int le_questions, .int le_rightOnes, .int le_wrongOnes, .int le_isKept])) → ∀ ls, lv_has ls 5 [(0, .ref (a 3)), (3, .int p3)] → FX3_choose_J18 ro_pupils ro_needs ro_rows ro_columns le_times p3 x3 x4 = some u → W p l e rm_X3_choose s m args below meth c HJ lJ 0 0 Q (F0 m 18 ls [.int x3]) := by
    intro x3 x4 w H locs hP hD hS hs h10 ls hl hF
    have h3 := (hs 3 (by simp only [List.mem_cons, List.not_mem_nil, or_false, not_or]; omega)).trans z3
    have h4 := (hs 4 (by simp only [List.mem_cons, List.not_mem_nil, or_false, not_or]; omega)).trans z4
    have h8 := (hs 8 (by simp only [List.mem_cons, List.not_mem_nil, or_false, not_or]; omega)).trans z8
    have h11 := (hs 11 (by simp only [List.mem_cons, List.not_mem_nil, or_false, not_or]; omega)).trans z11
    have h5 := (hs 5 (by simp only [List.mem_cons, List.not_mem_nil, or_false, not_or]; omega)).trans z5
    have h6 := (hs 6 (by simp only [List.mem_cons, List.not_mem_nil, or_false, not_or]; omega)).trans z6
    have h12 := (hs 12 (by simp only [List.mem_cons, List.not_mem_nil, or_false, not_or]; omega)).trans z12
    unfold FX3_choose_J18 at hF
    refine lv_istore (lv' := [(4, .int x3), (0, .ref (a 3)), (3, .int p3)]) hx hb dX3_choose_18 hl (by decide) rfl (fun ls hl => ?_)
    refine lv_iload_n hx hb dX3_choose_20 rfl (lv_at hl 2 rfl) ?_
    refine lv_iconst (v := (2 : Int32)) hx hb dX3_choose_21 (by decide) ?_
    refine lv_icmp_eq (tgt := 30) hx hb dX3_choose_22 (by decide) (fun c5 => ?_) (fun c5 => ?_)
    · replace hF := (if_pos c5).symm.trans hF
      exact hJ30 x3 x4 _ _ _ hP hD hS hs h10 ls (lv_sub hl [0, 1] rfl) hF
    · replace hF := (if_neg c5).symm.trans hF
      refine lv_iload_n hx hb dX3_choose_25 rfl (lv_at hl 2 rfl) ?_
      refine lv_iconst (v := (3 : Int32)) hx hb dX3_choose_26 (by decide) ?_
      refine lv_icmp_ne (tgt := 49) hx hb dX3_choose_27 (by decide) (fun c11 => ?_) (fun c11 => ?_)
      · replace hF := (if_neg c11).symm.trans hF
        refine lv_aload_n hx hb dX3_choose_49 rfl (lv_at hl 1 rfl) ?_
        refine lv_iload hx hb dX3_choose_50 (lv_at hl 0 rfl) ?_
        refine lv_iload_n hx hb dX3_choose_52 rfl (lv_at hl 2 rfl) ?_
        obtain ⟨x12, hx12, hF⟩ := bd_some hF
        refine rd_i (runV (As := [.int x3, .int p3]) (rest := []) X cq_X3_foremost lk_X3_128 (c_X3_foremost l D cI cJ cZ a w ro_pupils ro_mood ro_rows ro_columns ro_needs x4 le_questions le_rightOnes le_wrongOnes le_isKept le_times x3 p3 x12 hx12 h3 h5 h6 h8 h10 h12) rfl rfl ⟨Nat.le_of_ble_eq_true rfl, Nat.le_of_ble_eq_true rfl⟩ hP h3 rfl rfl hl.1 rfl (Nat.le_of_ble_eq_true rfl) dX3_choose_53 ⟨Nat.le_of_ble_eq_true rfl, Nat.le_of_ble_eq_true rfl⟩) ?_
        obtain rfl := Option.some.inj hF
        rw [hQ]
        exact rw_i X hS hP hD hs h10 dX3_choose_56
      · replace hF := (if_pos c11).symm.trans hF
        exact hJ30 x3 x4 _ _ _ hP hD hS hs h10 ls (lv_sub hl [0, 1] rfl) hF
  unfold FX3_choose at hF
  refine lv_iload_n hx hb dX3_choose_0 rfl (lv_at hl 3 rfl) ?_
  refine lv_iconst (v := (3 : Int32)) hx hb dX3_choose_1 (by decide) ?_
  refine lv_icmp_ne (tgt := 12) hx hb dX3_choose_2 (by decide) (fun c1 => ?_) (fun c1 => ?_)
  · replace hF := (if_neg c1).symm.trans hF
    refine lv_aload_n hx hb dX3_choose_12 rfl (lv_at hl 0 rfl) ?_
    refine lv_iload_n hx hb dX3_choose_13 rfl (lv_at hl 1 rfl) ?_
    refine lv_iload_n hx hb dX3_choose_14 rfl (lv_at hl 2 rfl) ?_
    obtain ⟨x2, hx2, hF⟩ := bd_some hF
    refine rd_i (runV (As := [.int p1, .int p2]) (rest := []) X cq_X3_upBits lk_X3_114 (c_X3_upBits l D cI cJ cZ a ws0 ro_pupils ro_mood ro_letters ro_needs le_seed le_questions le_rightOnes le_wrongOnes le_isKept le_dares p1 p2 x2 hx2 h3 h4 h8 h10 h11) rfl rfl ⟨Nat.le_of_ble_eq_true rfl, Nat.le_of_ble_eq_true rfl⟩ hP h3 rfl rfl hl.1 rfl (Nat.le_of_ble_eq_true rfl) dX3_choose_15 ⟨Nat.le_of_ble_eq_true rfl, Nat.le_of_ble_eq_true rfl⟩) ?_
    exact hJ18 x2 le_seed _ _ _ hP hD hS hs h10 ls (lv_sub hl [0, 3] rfl) hF
  · replace hF := (if_pos c1).symm.trans hF
    refine lv_aload_n hx hb dX3_choose_5 rfl (lv_at hl 0 rfl) ?_
    refine rd_i (runV (As := []) (rest := []) X cq_X3_everyone lk_X3_70 (c_X3_everyone l D cI cJ cZ a ws0 ro_pupils ro_mood _ rfl h3) rfl rfl ⟨Nat.le_of_ble_eq_true rfl, Nat.le_of_ble_eq_true rfl⟩ hP h3 rfl rfl hl.1 rfl (Nat.le_of_ble_eq_true rfl) dX3_choose_6 ⟨Nat.le_of_ble_eq_true rfl, Nat.le_of_ble_eq_true rfl⟩) ?_
    refine lv_goto (tgt := 18) hx hb dX3_choose_9 (by decide) ?_
    exact hJ18 (FX3_everyone ro_pupils) le_seed _ _ _ hP hD hS hs h10 ls (lv_sub hl [0, 3] rfl) hF
