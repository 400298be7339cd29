def FX9_raisedOf_J91L5 (x14 : Int32) (x15 : Int32) (x16 : Int32) : Option ((Int32 × Int32) ⊕ (Int32)) :=
  some (.inl (x15 ||| x16, x14 + (1 : Int32)))
def FX9_raisedOf_J90L5 (x12 : Int32) (x13 : Int32) : Option ((Int32 × Int32) ⊕ (Int32)) :=
  FX9_raisedOf_J91L5 x12 x13 (0 : Int32)
def FX9_raisedOf_J61L5 (m_mood : Int32) (m_dares : Nat → Int32) (x8 : Int32) (x9 : Int32) (x10 : Int32) : Option ((Int32 × Int32) ⊕ (Int32)) :=
  if x10 = 0 then (FX9_raisedOf_J90L5 x8 x9) else (if x8 < 0 ∨ 12 ≤ x8.toNatClampNeg then none else if (m_dares x8.toNatClampNeg) < m_mood then (FX9_raisedOf_J90L5 x8 x9) else (FX9_raisedOf_J91L5 x8 x9 ((1 : Int32) <<< (x8 &&& 31))))
def FX9_raisedOf_J56L5 (m_mood : Int32) (m_dares : Nat → Int32) (x6 : Int32) (x7 : Int32) : Option ((Int32 × Int32) ⊕ (Int32)) :=
  FX9_raisedOf_J61L5 m_mood m_dares x6 x7 (1 : Int32)
def FX9_raisedOf_J60L5 (m_mood : Int32) (m_dares : Nat → Int32) (x20 : Int32) (x21 : Int32) : Option ((Int32 × Int32) ⊕ (Int32)) :=
  FX9_raisedOf_J61L5 m_mood m_dares x20 x21 (0 : Int32)
def FX9_raisedOf_S5 (m_pupils : Int32) (m_mood : Int32) (m_pupil : Nat → Int32) (m_dares : Nat → Int32) (p1 : Int32) (p2 : Int32) (x1 : Int32) (x2 : Int32) : Option ((Int32 × Int32) ⊕ (Int32)) :=
  if m_pupils ≤ x2 then (some (.inr x1)) else (if (((6 : Int32) * x2) + (5 : Int32)) < 0 ∨ 72 ≤ (((6 : Int32) * x2) + (5 : Int32)).toNatClampNeg then none else if (m_pupil (((6 : Int32) * x2) + (5 : Int32)).toNatClampNeg) = (1 : Int32) then (FX9_raisedOf_J56L5 m_mood m_dares x2 x1) else (if ((p1 >>> (x2 &&& 31)) &&& (1 : Int32)) = (1 : Int32) then (if (((6 : Int32) * x2) + (3 : Int32)) < 0 ∨ 72 ≤ (((6 : Int32) * x2) + (3 : Int32)).toNatClampNeg then none else if p2 < (m_pupil (((6 : Int32) * x2) + (3 : Int32)).toNatClampNeg) then (FX9_raisedOf_J60L5 m_mood m_dares x2 x1) else (FX9_raisedOf_J56L5 m_mood m_dares x2 x1)) else (FX9_raisedOf_J60L5 m_mood m_dares x2 x1)))
def FX9_raisedOf (m_pupils : Int32) (m_mood : Int32) (m_pupil : Nat → Int32) (m_dares : Nat → Int32) (p1 : Int32) (p2 : Int32) : Option (Int32) :=
  (itr (fun v => FX9_raisedOf_S5 m_pupils m_mood m_pupil m_dares p1 p2 v.1 v.2) fu ((0 : Int32), (0 : Int32))).bind fun o24 => some o24
def rm_X9_raisedOf : Room := { frames := 0, cells := 0, slots := 0, locals := 0 }
set_option maxHeartbeats 4000000 in
set_option maxRecDepth 100000 in
theorem c_X9_raisedOf (l : Launch) (D : va_G) (cI cJ cZ : ClassId) (a : Nat → Nat) (ws0 : va_W)  (m_readMany : Int32) (m_pupils : Int32) (m_mood : Int32) (m_length : Int32) (m_at : Int32) (m_faultAt : Int32) (m_drawn : Int64) (m_questions : Int32) (m_rights : Int32) (m_wrongs : Int32) (m_tapes : Int32) (m_trials : Int32) (m_pupil : Nat → Int32) (m_dares : Nat → Int32) (p1 : Int32) (p2 : Int32) (u : Int32) (hF : FX9_raisedOf m_pupils m_mood m_pupil m_dares p1 p2 = some u) (h35 : ws0[35]? = some (a 35, .inr (9, [.ref (a 36), .int m_readMany, .ref (a 37), .int m_pupils, .ref (a 38), .ref (a 39), .int m_mood, .ref (a 40), .int m_length, .int m_at, .int m_faultAt, .ref (a 41), .ref (a 42), .long m_drawn, .int m_questions, .int m_rights, .int m_wrongs, .int m_tapes, .ref (a 43), .ref (a 44), .int m_trials, .ref (a 45), .ref (a 46), .ref (a 47), .ref (a 48), .ref (a 49), .ref (a 50), .ref (a 51)]))) (h37 : ws0[37]? = some (a 37, .inl (cI, 72, .inl m_pupil))) (h38 : ws0[38]? = some (a 38, .inl (cI, 12, .inl m_dares))) : Met l yX9_raisedOf (wq yX9_raisedOf cX9_raisedOf 6 (some .int)) rm_X9_raisedOf (Pq [.ref (a 35), .int p1, .int p2] D cI cJ cZ ws0) (Qq (some (.int u))) 0 0 (fun _ => False) := by
  refine mq_of (by decide) (Nat.le_of_ble_eq_true rfl) (fun p e s m args below meth c ls Q hQ X _ hP hl => ?_)
  obtain ⟨hx, hb, hr, hml, hown, hts, hlk, hK, hN⟩ := id X
  have hown : s.vm.findClass RX9 = some m.cls := hown
  have hl : lv_has ls 6 [(0, .ref (a 35)), (1, .int p1), (2, .int p2)] := hl
  unfold FX9_raisedOf at hF
  refine lv_iconst (v := (0 : Int32)) hx hb dX9_raisedOf_0 (by decide) ?_
  refine lv_istore_n (lv' := [(3, .int (0 : Int32)), (0, .ref (a 35)), (1, .int p1), (2, .int p2)]) hx hb dX9_raisedOf_1 rfl hl (by decide) rfl (fun ls hl => ?_)
  refine lv_iconst (v := (0 : Int32)) hx hb dX9_raisedOf_2 (by decide) ?_
  refine lv_istore (lv' := [(4, .int (0 : Int32)), (3, .int (0 : Int32)), (0, .ref (a 35)), (1, .int p1), (2, .int p2)]) hx hb dX9_raisedOf_3 hl (by decide) rfl (fun ls hl => ?_)
  have hL5 : ∀ (nf : Nat) (x1 : Int32) (x2 : Int32) (r : Int32), itr (fun v => FX9_raisedOf_S5 m_pupils m_mood m_pupil m_dares p1 p2 v.1 v.2) nf (x1, x2) = some r → ∀ ls, lv_has ls 6 [(4, .int x2), (3, .int x1), (0, .ref (a 35)), (1, .int p1), (2, .int p2)] → (∀ o : Int32, r = o → ∀ ls, lv_has ls 6 [(3, .int o)] → W p l e rm_X9_raisedOf s m args below meth c s.heap [] 0 0 Q (F0 m 99 ls [])) → W p l e rm_X9_raisedOf s m args below meth c s.heap [] 0 0 Q (F0 m 5 ls []) := by
    intro nf
    induction nf with
    | zero => intro _ _ r hF; exact (itr_0 hF).elim
    | succ nf ih =>
      intro x1 x2 r hF ls hl hE
      obtain ⟨wo, hF, hw⟩ := itr_s hF
      replace hF : FX9_raisedOf_S5 m_pupils m_mood m_pupil m_dares p1 p2 x1 x2 = some wo := hF
      have hJ91 : ∀ (x14 : Int32) (x15 : Int32) (x16 : Int32), ∀ ls, lv_has ls 6 [(4, .int x14), (0, .ref (a 35)), (1, .int p1), (2, .int p2)] → FX9_raisedOf_J91L5 x14 x15 x16 = some wo → W p l e rm_X9_raisedOf s m args below meth c s.heap [] 0 0 Q (F0 m 91 ls [.int x16, .int x15]) := by
        intro x14 x15 x16 ls hl hF
        unfold FX9_raisedOf_J91L5 at hF
        refine lv_ior hx hb dX9_raisedOf_91 ?_
        refine lv_istore_n (lv' := [(3, .int (x15 ||| x16)), (4, .int x14), (0, .ref (a 35)), (1, .int p1), (2, .int p2)]) hx hb dX9_raisedOf_92 rfl hl (by decide) rfl (fun ls hl => ?_)
        refine lv_iinc (v := x14 + (1 : Int32)) (lv' := [(4, .int (x14 + (1 : Int32))), (3, .int (x15 ||| x16)), (0, .ref (a 35)), (1, .int p1), (2, .int p2)]) hx hb dX9_raisedOf_93 hl (k := 1) rfl rfl (by decide) rfl (fun ls hl => ?_)
        refine lv_goto (tgt := 5) hx hb dX9_raisedOf_96 (by decide) ?_
        obtain rfl := Option.some.inj hF
        exact ih _ _ _ hw ls (lv_sub hl [0, 1, 2, 3, 4] rfl) hE
      have hJ90 : ∀ (x12 : Int32) (x13 : Int32), ∀ ls, lv_has ls 6 [(4, .int x12), (0, .ref (a 35)), (1, .int p1), (2, .int p2)] → FX9_raisedOf_J90L5 x12 x13 = some wo → W p l e rm_X9_raisedOf s m args below meth c s.heap [] 0 0 Q (F0 m 90 ls [.int x13]) := by
        intro x12 x13 ls hl hF
        unfold FX9_raisedOf_J90L5 at hF
        refine lv_iconst (v := (0 : Int32)) hx hb dX9_raisedOf_90 (by decide) ?_
        exact hJ91 x12 x13 (0 : Int32) ls (lv_sub hl [0, 1, 2, 3] rfl) hF
      have hJ61 : ∀ (x8 : Int32) (x9 : Int32) (x10 : Int32), ∀ ls, lv_has ls 6 [(4, .int x8), (3, .int x9), (0, .ref (a 35)), (1, .int p1), (2, .int p2)] → FX9_raisedOf_J61L5 m_mood m_dares x8 x9 x10 = some wo → W p l e rm_X9_raisedOf s m args below meth c s.heap [] 0 0 Q (F0 m 61 ls [.int x10]) := by
        intro x8 x9 x10 ls hl hF
        unfold FX9_raisedOf_J61L5 at hF
        refine lv_istore (lv' := [(5, .int x10), (4, .int x8), (3, .int x9), (0, .ref (a 35)), (1, .int p1), (2, .int p2)]) hx hb dX9_raisedOf_61 hl (by decide) rfl (fun ls hl => ?_)
        refine lv_iload_n hx hb dX9_raisedOf_63 rfl (lv_at hl 2 rfl) ?_
        refine lv_iload hx hb dX9_raisedOf_64 (lv_at hl 0 rfl) ?_
        refine lv_if_eq (tgt := 90) hx hb dX9_raisedOf_66 (by decide) (fun c11 => ?_) (fun c11 => ?_)
        · replace hF := (if_pos c11).symm.trans hF
          exact hJ90 x8 x9 ls (lv_sub hl [1, 3, 4, 5] rfl) hF
        · replace hF := (if_neg c11).symm.trans hF
          refine lv_aload_n hx hb dX9_raisedOf_69 rfl (lv_at hl 3 rfl) ?_
          refine gf_X9_16 hx hb hts hown hK hP h35 dX9_raisedOf_70 ?_
          refine lv_iload hx hb dX9_raisedOf_73 (lv_at hl 1 rfl) ?_
          obtain ⟨hg17, hF⟩ := gd_some hF
          refine va_iald hx hb hK hP 38 0 h38 rfl hg17 dX9_raisedOf_75 ?_
          refine lv_aload_n hx hb dX9_raisedOf_76 rfl (lv_at hl 3 rfl) ?_
          refine gf_X9_60 hx hb hts hown hK hP h35 dX9_raisedOf_77 ?_
          refine lv_icmp_lt (tgt := 90) hx hb dX9_raisedOf_80 (by decide) (fun c18 => ?_) (fun c18 => ?_)
          · replace hF := (if_pos c18).symm.trans hF
            exact hJ90 x8 x9 ls (lv_sub hl [1, 3, 4, 5] rfl) hF
          · replace hF := (if_neg c18).symm.trans hF
            refine lv_iconst (v := (1 : Int32)) hx hb dX9_raisedOf_83 (by decide) ?_
            refine lv_iload hx hb dX9_raisedOf_84 (lv_at hl 1 rfl) ?_
            refine lv_ishl hx hb dX9_raisedOf_86 ?_
            refine lv_goto (tgt := 91) hx hb dX9_raisedOf_87 (by decide) ?_
            exact hJ91 x8 x9 ((1 : Int32) <<< (x8 &&& 31)) ls (lv_sub hl [1, 3, 4, 5] rfl) hF
      have hJ56 : ∀ (x6 : Int32) (x7 : Int32), ∀ ls, lv_has ls 6 [(4, .int x6), (3, .int x7), (0, .ref (a 35)), (1, .int p1), (2, .int p2)] → FX9_raisedOf_J56L5 m_mood m_dares x6 x7 = some wo → W p l e rm_X9_raisedOf s m args below meth c s.heap [] 0 0 Q (F0 m 56 ls []) := by
        intro x6 x7 ls hl hF
        unfold FX9_raisedOf_J56L5 at hF
        refine lv_iconst (v := (1 : Int32)) hx hb dX9_raisedOf_56 (by decide) ?_
        refine lv_goto (tgt := 61) hx hb dX9_raisedOf_57 (by decide) ?_
        exact hJ61 x6 x7 (1 : Int32) ls (lv_sub hl [0, 1, 2, 3, 4] rfl) hF
      have hJ60 : ∀ (x20 : Int32) (x21 : Int32), ∀ ls, lv_has ls 6 [(4, .int x20), (3, .int x21), (0, .ref (a 35)), (1, .int p1), (2, .int p2)] → FX9_raisedOf_J60L5 m_mood m_dares x20 x21 = some wo → W p l e rm_X9_raisedOf s m args below meth c s.heap [] 0 0 Q (F0 m 60 ls []) := by
        intro x20 x21 ls hl hF
        unfold FX9_raisedOf_J60L5 at hF
        refine lv_iconst (v := (0 : Int32)) hx hb dX9_raisedOf_60 (by decide) ?_
        exact hJ61 x20 x21 (0 : Int32) ls (lv_sub hl [0, 1, 2, 3, 4] rfl) hF
      unfold FX9_raisedOf_S5 at hF
      refine lv_iload hx hb dX9_raisedOf_5 (lv_at hl 0 rfl) ?_
      refine lv_aload_n hx hb dX9_raisedOf_7 rfl (lv_at hl 2 rfl) ?_
      refine gf_X9_97 hx hb hts hown hK hP h35 dX9_raisedOf_8 ?_
      refine lv_icmp_ge (tgt := 99) hx hb dX9_raisedOf_11 (by decide) (fun c3 => ?_) (fun c3 => ?_)
      · replace hF := (if_pos c3).symm.trans hF
        obtain rfl := Option.some.inj hF
        obtain rfl := hw
        exact hE _ rfl ls (lv_sub hl [1] rfl)
      · replace hF := (if_neg c3).symm.trans hF
        refine lv_aload_n hx hb dX9_raisedOf_14 rfl (lv_at hl 2 rfl) ?_
        refine gf_X9_13 hx hb hts hown hK hP h35 dX9_raisedOf_15 ?_
        refine lv_bipush (v := (6 : Int32)) hx hb dX9_raisedOf_18 (by decide) ?_
        refine lv_iload hx hb dX9_raisedOf_20 (lv_at hl 0 rfl) ?_
        refine lv_imul hx hb dX9_raisedOf_22 ?_
        refine lv_iconst (v := (5 : Int32)) hx hb dX9_raisedOf_23 (by decide) ?_
        refine lv_iadd hx hb dX9_raisedOf_24 ?_
        obtain ⟨hg4, hF⟩ := gd_some hF
        refine va_iald hx hb hK hP 37 0 h37 rfl hg4 dX9_raisedOf_25 ?_
        refine lv_iconst (v := (1 : Int32)) hx hb dX9_raisedOf_26 (by decide) ?_
        refine lv_icmp_eq (tgt := 56) hx hb dX9_raisedOf_27 (by decide) (fun c5 => ?_) (fun c5 => ?_)
        · replace hF := (if_pos c5).symm.trans hF
          exact hJ56 x2 x1 ls (lv_sub hl [0, 1, 2, 3, 4] rfl) hF
        · replace hF := (if_neg c5).symm.trans hF
          refine lv_iload_n hx hb dX9_raisedOf_30 rfl (lv_at hl 3 rfl) ?_
          refine lv_iload hx hb dX9_raisedOf_31 (lv_at hl 0 rfl) ?_
          refine lv_ishr hx hb dX9_raisedOf_33 ?_
          refine lv_iconst (v := (1 : Int32)) hx hb dX9_raisedOf_34 (by decide) ?_
          refine lv_iand hx hb dX9_raisedOf_35 ?_
          refine lv_iconst (v := (1 : Int32)) hx hb dX9_raisedOf_36 (by decide) ?_
          refine lv_icmp_ne (tgt := 60) hx hb dX9_raisedOf_37 (by decide) (fun c19 => ?_) (fun c19 => ?_)
          · replace hF := (if_neg c19).symm.trans hF
            exact hJ60 x2 x1 ls (lv_sub hl [0, 1, 2, 3, 4] rfl) hF
          · replace hF := (if_pos c19).symm.trans hF
            refine lv_aload_n hx hb dX9_raisedOf_40 rfl (lv_at hl 2 rfl) ?_
            refine gf_X9_13 hx hb hts hown hK hP h35 dX9_raisedOf_41 ?_
            refine lv_bipush (v := (6 : Int32)) hx hb dX9_raisedOf_44 (by decide) ?_
            refine lv_iload hx hb dX9_raisedOf_46 (lv_at hl 0 rfl) ?_
            refine lv_imul hx hb dX9_raisedOf_48 ?_
            refine lv_iconst (v := (3 : Int32)) hx hb dX9_raisedOf_49 (by decide) ?_
            refine lv_iadd hx hb dX9_raisedOf_50 ?_
            obtain ⟨hg22, hF⟩ := gd_some hF
            refine va_iald hx hb hK hP 37 0 h37 rfl hg22 dX9_raisedOf_51 ?_
            refine lv_iload_n hx hb dX9_raisedOf_52 rfl (lv_at hl 4 rfl) ?_
            refine lv_icmp_gt (tgt := 60) hx hb dX9_raisedOf_53 (by decide) (fun c23 => ?_) (fun c23 => ?_)
            · replace hF := (if_pos c23).symm.trans hF
              exact hJ60 x2 x1 ls (lv_sub hl [0, 1, 2, 3, 4] rfl) hF
            · replace hF := (if_neg c23).symm.trans hF
              exact hJ56 x2 x1 ls (lv_sub hl [0, 1, 2, 3, 4] rfl) hF
  obtain ⟨o24, ho24, hF⟩ := bd_some hF
  refine hL5 fu (0 : Int32) (0 : Int32) o24 ho24 ls (lv_sub hl [0, 1, 2, 3, 4] rfl) ?_
  intro _ q_o24 ls hl
  subst q_o24
  refine lv_iload_n hx hb dX9_raisedOf_99 rfl (lv_at hl 0 rfl) ?_
  obtain rfl := Option.some.inj hF
  rw [hQ]
  exact rt_i X dX9_raisedOf_100
def FX9_raised (m_pupils : Int32) (m_mood : Int32) (m_pupil : Nat → Int32) (m_dares : Nat → Int32) (p1 : Int32) (p2 : Int32) : Option (Int32) :=
  if (FX9_isKnown m_pupils p1) = true then (if (FX9_isWait p2) = true then ((FX9_raisedOf m_pupils m_mood m_pupil m_dares p1 p2).bind fun x3 => some x3) else (some (-2 : Int32))) else (some (-2 : Int32))
def rm_X9_raised : Room := { frames := 2, cells := 0, slots := 0, locals := 46 }
set_option maxHeartbeats 4000000 in
set_option maxRecDepth 100000 in
theorem c_X9_raised (l : Launch) (D : va_G) (cI cJ cZ : ClassId) (a : Nat → Nat) (ws0 : va_W)  (m_readMany : Int32) (m_pupils : Int32) (m_mood : Int32) (m_length : Int32) (m_at : Int32) (m_faultAt : Int32) (m_drawn : Int64) (m_questions : Int32) (m_rights : Int32) (m_wrongs : Int32) (m_tapes : Int32) (m_trials : Int32) (m_pupil : Nat → Int32) (m_dares : Nat → Int32) (p1 : Int32) (p2 : Int32) (u : Int32) (hF : FX9_raised m_pupils m_mood m_pupil m_dares p1 p2 = some u) (h35 : ws0[35]? = some (a 35, .inr (9, [.ref (a 36), .int m_readMany, .ref (a 37), .int m_pupils, .ref (a 38), .ref (a 39), .int m_mood, .ref (a 40), .int m_length, .int m_at, .int m_faultAt, .ref (a 41), .ref (a 42), .long m_drawn, .int m_questions, .int m_rights, .int m_wrongs, .int m_tapes, .ref (a 43), .ref (a 44), .int m_trials, .ref (a 45), .ref (a 46), .ref (a 47), .ref (a 48), .ref (a 49), .ref (a 50), .ref (a 51)]))) (h37 : ws0[37]? = some (a 37, .inl (cI, 72, .inl m_pupil))) (h38 : ws0[38]? = some (a 38, .inl (cI, 12, .inl m_dares))) : Met l yX9_raised (wq yX9_raised cX9_raised 3 (some .int)) rm_X9_raised (Pq [.ref (a 35), .int p1, .int p2] D cI cJ cZ ws0) (Qq (some (.int u))) 0 0 (fun _ => False) := by
  refine mq_of (by decide) (Nat.le_of_ble_eq_true rfl) (fun p e s m args below meth c ls Q hQ X _ hP hl => ?_)
  obtain ⟨hx, hb, hr, hml, hown, hts, hlk, hK, hN⟩ := id X
  have hown : s.vm.findClass RX9 = some m.cls := hown
  have hl : lv_has ls 3 [(0, .ref (a 35)), (1, .int p1), (2, .int p2)] := hl
  unfold FX9_raised at hF
  refine lv_aload_n hx hb dX9_raised_0 rfl (lv_at hl 0 rfl) ?_
  refine lv_iload_n hx hb dX9_raised_1 rfl (lv_at hl 1 rfl) ?_
  refine rd_i (runV (As := [.int p1]) (rest := []) X cq_X9_isKnown lk_X9_175 (c_X9_isKnown l D cI cJ cZ a ws0 m_readMany m_pupils m_mood m_length m_at m_faultAt m_drawn m_questions m_rights m_wrongs m_tapes m_trials p1 _ rfl h35) rfl rfl ⟨Nat.le_of_ble_eq_true rfl, Nat.le_of_ble_eq_true rfl⟩ hP h35 rfl rfl hl.1 rfl (Nat.le_of_ble_eq_true rfl) dX9_raised_2 ⟨Nat.le_of_ble_eq_true rfl, Nat.le_of_ble_eq_true rfl⟩) ?_
  refine zf_eq (tgt := 24) hx hb dX9_raised_5 (by decide) (fun c1 => ?_) (fun c1 => ?_)
  · replace hF := (if_neg c1).symm.trans hF
    refine lv_bipush (v := (-2 : Int32)) hx hb dX9_raised_24 (by decide) ?_
    obtain rfl := Option.some.inj hF
    rw [hQ]
    exact rt_i X dX9_raised_26
  · replace hF := (if_pos c1).symm.trans hF
    refine lv_iload_n hx hb dX9_raised_8 rfl (lv_at hl 2 rfl) ?_
    refine rd_i (runS (As := [.int p2]) (rest := []) X cq_X9_isWait lk_X9_121 (c_X9_isWait l D cI cJ cZ a ws0 p2 _ rfl ) rfl rfl ⟨Nat.le_of_ble_eq_true rfl, Nat.le_of_ble_eq_true rfl⟩ hP rfl hl.1 rfl (Nat.le_of_ble_eq_true rfl) dX9_raised_9 ⟨Nat.le_of_ble_eq_true rfl, Nat.le_of_ble_eq_true rfl⟩) ?_
    refine zf_eq (tgt := 24) hx hb dX9_raised_12 (by decide) (fun c2 => ?_) (fun c2 => ?_)
    · replace hF := (if_neg c2).symm.trans hF
      refine lv_bipush (v := (-2 : Int32)) hx hb dX9_raised_24 (by decide) ?_
      obtain rfl := Option.some.inj hF
      rw [hQ]
      exact rt_i X dX9_raised_26
    · replace hF := (if_pos c2).symm.trans hF
      refine lv_aload_n hx hb dX9_raised_15 rfl (lv_at hl 0 rfl) ?_
      refine lv_iload_n hx hb dX9_raised_16 rfl (lv_at hl 1 rfl) ?_
      refine lv_iload_n hx hb dX9_raised_17 rfl (lv_at hl 2 rfl) ?_
      obtain ⟨x3, hx3, hF⟩ := bd_some hF
      refine rd_i (runV (As := [.int p1, .int p2]) (rest := []) X cq_X9_raisedOf lk_X9_178 (c_X9_raisedOf l D cI cJ cZ a ws0 m_readMany m_pupils m_mood m_length m_at m_faultAt m_drawn m_questions m_rights m_wrongs m_tapes m_trials m_pupil m_dares p1 p2 x3 hx3 h35 h37 h38) rfl rfl ⟨Nat.le_of_ble_eq_true rfl, Nat.le_of_ble_eq_true rfl⟩ hP h35 rfl rfl hl.1 rfl (Nat.le_of_ble_eq_true rfl) dX9_raised_18 ⟨Nat.le_of_ble_eq_true rfl, Nat.le_of_ble_eq_true rfl⟩) ?_
      refine lv_goto (tgt := 26) hx hb dX9_raised_21 (by decide) ?_
      obtain rfl := Option.some.inj hF
      rw [hQ]
      exact rt_i X dX9_raised_26
def FX9_silent (m_pupils : Int32) (m_mood : Int32) (m_pupil : Nat → Int32) (m_dares : Nat → Int32) (p1 : Int32) (p2 : Int32) : Option (Int32) :=
  if (FX9_isKnown m_pupils p1) = true then (if (FX9_isWait p2) = true then ((FX9_raisedOf m_pupils m_mood m_pupil m_dares p1 p2).bind fun x3 => some (p1 &&& (x3 ^^^ (-1 : Int32)))) else (some (-2 : Int32))) else (some (-2 : Int32))
def rm_X9_silent : Room := { frames := 2, cells := 0, slots := 0, locals := 46 }
set_option maxHeartbeats 4000000 in
set_option maxRecDepth 100000 in
theorem c_X9_silent (l : Launch) (D : va_G) (cI cJ cZ : ClassId) (a : Nat → Nat) (ws0 : va_W)  (m_readMany : Int32) (m_pupils : Int32) (m_mood : Int32) (m_length : Int32) (m_at : Int32) (m_faultAt : Int32) (m_drawn : Int64) (m_questions : Int32) (m_rights : Int32) (m_wrongs : Int32) (m_tapes : Int32) (m_trials : Int32) (m_pupil : Nat → Int32) (m_dares : Nat → Int32) (p1 : Int32) (p2 : Int32) (u : Int32) (hF : FX9_silent m_pupils m_mood m_pupil m_dares p1 p2 = some u) (h35 : ws0[35]? = some (a 35, .inr (9, [.ref (a 36), .int m_readMany, .ref (a 37), .int m_pupils, .ref (a 38), .ref (a 39), .int m_mood, .ref (a 40), .int m_length, .int m_at, .int m_faultAt, .ref (a 41), .ref (a 42), .long m_drawn, .int m_questions, .int m_rights, .int m_wrongs, .int m_tapes, .ref (a 43), .ref (a 44), .int m_trials, .ref (a 45), .ref (a 46), .ref (a 47), .ref (a 48), .ref (a 49), .ref (a 50), .ref (a 51)]))) (h37 : ws0[37]? = some (a 37, .inl (cI, 72, .inl m_pupil))) (h38 : ws0[38]? = some (a 38, .inl (cI, 12, .inl m_dares))) : Met l yX9_silent (wq yX9_silent cX9_silent 3 (some .int)) rm_X9_silent (Pq [.ref (a 35), .int p1, .int p2] D cI cJ cZ ws0) (Qq (some (.int u))) 0 0 (fun _ => False) := by
  refine mq_of (by decide) (Nat.le_of_ble_eq_true rfl) (fun p e s m args below meth c ls Q hQ X _ hP hl => ?_)
  obtain ⟨hx, hb, hr, hml, hown, hts, hlk, hK, hN⟩ := id X
  have hown : s.vm.findClass RX9 = some m.cls := hown
  have hl : lv_has ls 3 [(0, .ref (a 35)), (1, .int p1), (2, .int p2)] := hl
  unfold FX9_silent at hF
  refine lv_aload_n hx hb dX9_silent_0 rfl (lv_at hl 0 rfl) ?_
  refine lv_iload_n hx hb dX9_silent_1 rfl (lv_at hl 1 rfl) ?_
  refine rd_i (runV (As := [.int p1]) (rest := []) X cq_X9_isKnown lk_X9_175 (c_X9_isKnown l D cI cJ cZ a ws0 m_readMany m_pupils m_mood m_length m_at m_faultAt m_drawn m_questions m_rights m_wrongs m_tapes m_trials p1 _ rfl h35) rfl rfl ⟨Nat.le_of_ble_eq_true rfl, Nat.le_of_ble_eq_true rfl⟩ hP h35 rfl rfl hl.1 rfl (Nat.le_of_ble_eq_true rfl) dX9_silent_2 ⟨Nat.le_of_ble_eq_true rfl, Nat.le_of_ble_eq_true rfl⟩) ?_
  refine zf_eq (tgt := 28) hx hb dX9_silent_5 (by decide) (fun c1 => ?_) (fun c1 => ?_)
  · replace hF := (if_neg c1).symm.trans hF
    refine lv_bipush (v := (-2 : Int32)) hx hb dX9_silent_28 (by decide) ?_
    obtain rfl := Option.some.inj hF
    rw [hQ]
    exact rt_i X dX9_silent_30
  · replace hF := (if_pos c1).symm.trans hF
    refine lv_iload_n hx hb dX9_silent_8 rfl (lv_at hl 2 rfl) ?_
    refine rd_i (runS (As := [.int p2]) (rest := []) X cq_X9_isWait lk_X9_121 (c_X9_isWait l D cI cJ cZ a ws0 p2 _ rfl ) rfl rfl ⟨Nat.le_of_ble_eq_true rfl, Nat.le_of_ble_eq_true rfl⟩ hP rfl hl.1 rfl (Nat.le_of_ble_eq_true rfl) dX9_silent_9 ⟨Nat.le_of_ble_eq_true rfl, Nat.le_of_ble_eq_true rfl⟩) ?_
    refine zf_eq (tgt := 28) hx hb dX9_silent_12 (by decide) (fun c2 => ?_) (fun c2 => ?_)
    · replace hF := (if_neg c2).symm.trans hF
      refine lv_bipush (v := (-2 : Int32)) hx hb dX9_silent_28 (by decide) ?_
      obtain rfl := Option.some.inj hF
      rw [hQ]
      exact rt_i X dX9_silent_30
    · replace hF := (if_pos c2).symm.trans hF
      refine lv_iload_n hx hb dX9_silent_15 rfl (lv_at hl 1 rfl) ?_
      refine lv_aload_n hx hb dX9_silent_16 rfl (lv_at hl 0 rfl) ?_
      refine lv_iload_n hx hb dX9_silent_17 rfl (lv_at hl 1 rfl) ?_
      refine lv_iload_n hx hb dX9_silent_18 rfl (lv_at hl 2 rfl) ?_
      obtain ⟨x3, hx3, hF⟩ := bd_some hF
      refine rd_i (runV (As := [.int p1, .int p2]) (rest := [.int p1]) X cq_X9_raisedOf lk_X9_178 (c_X9_raisedOf l D cI cJ cZ a ws0 m_readMany m_pupils m_mood m_length m_at m_faultAt m_drawn m_questions m_rights m_wrongs m_tapes m_trials m_pupil m_dares p1 p2 x3 hx3 h35 h37 h38) rfl rfl ⟨Nat.le_of_ble_eq_true rfl, Nat.le_of_ble_eq_true rfl⟩ hP h35 rfl rfl hl.1 rfl (Nat.le_of_ble_eq_true rfl) dX9_silent_19 ⟨Nat.le_of_ble_eq_true rfl, Nat.le_of_ble_eq_true rfl⟩) ?_
      refine lv_iconst (v := (-1 : Int32)) hx hb dX9_silent_22 (by decide) ?_
      refine lv_ixor hx hb dX9_silent_23 ?_
      refine lv_iand hx hb dX9_silent_24 ?_
      refine lv_goto (tgt := 30) hx hb dX9_silent_25 (by decide) ?_
      obtain rfl := Option.some.inj hF
      rw [hQ]
      exact rt_i X dX9_silent_30
def FX9_seed (m_drawn : Int64) (p1 : Int64) : Int64 × Int64 :=
  (m_drawn, p1)
def rm_X9_seed : Room := { frames := 0, cells := 0, slots := 0, locals := 0 }
set_option maxHeartbeats 4000000 in
set_option maxRecDepth 100000 in
theorem c_X9_seed (l : Launch) (D : va_G) (cI cJ cZ : ClassId) (a : Nat → Nat) (ws0 : va_W) (A : Nat → Prop)  (m_readMany : Int32) (m_pupils : Int32) (m_mood : Int32) (m_length : Int32) (m_at : Int32) (m_faultAt : Int32) (m_drawn : Int64) (m_questions : Int32) (m_rights : Int32) (m_wrongs : Int32) (m_tapes : Int32) (m_trials : Int32) (p1 : Int64) (u : Int64 × Int64) (hF : FX9_seed m_drawn p1 = u) (z35 : ws0[35]? = some (a 35, .inr (9, [.ref (a 36), .int m_readMany, .ref (a 37), .int m_pupils, .ref (a 38), .ref (a 39), .int m_mood, .ref (a 40), .int m_length, .int m_at, .int m_faultAt, .ref (a 41), .ref (a 42), .long m_drawn, .int m_questions, .int m_rights, .int m_wrongs, .int m_tapes, .ref (a 43), .ref (a 44), .int m_trials, .ref (a 45), .ref (a 46), .ref (a 47), .ref (a 48), .ref (a 49), .ref (a 50), .ref (a 51)]))) (hD : va_D A ws0) : Met l yX9_seed (wq yX9_seed cX9_seed 5 (some .long)) rm_X9_seed (Pq [.ref (a 35), .long p1] D cI cJ cZ ws0) (Qw D A ws0 [35] (some (.long u.1)) (fun w => w[35]? = some (a 35, .inr (9, [.ref (a 36), .int m_readMany, .ref (a 37), .int m_pupils, .ref (a 38), .ref (a 39), .int m_mood, .ref (a 40), .int m_length, .int m_at, .int m_faultAt, .ref (a 41), .ref (a 42), .long u.2, .int m_questions, .int m_rights, .int m_wrongs, .int m_tapes, .ref (a 43), .ref (a 44), .int m_trials, .ref (a 45), .ref (a 46), .ref (a 47), .ref (a 48), .ref (a 49), .ref (a 50), .ref (a 51)])))) 0 0 A := by
  refine mq_of (by decide) (Nat.le_of_ble_eq_true rfl) (fun p e s m args below meth c ls Q hQ X _ hP hl => ?_)
  obtain ⟨hx, hb, hr, hml, hown, hts, hlk, hK, hN⟩ := id X
  have hown : s.vm.findClass RX9 = some m.cls := hown
  have hl : lv_has ls 5 [(0, .ref (a 35)), (1, .long p1)] := hl
  have hS : va_S A s.heap s.heap [] := va_S.rf
  have hs : ∀ j : Nat, j ∉ [35] → ws0[j]? = ws0[j]? := fun _ _ => rfl
  have h35 := z35
  unfold FX9_seed at hF
  refine lv_aload_n hx hb dX9_seed_0 rfl (lv_at hl 0 rfl) ?_
  refine gf_X9_100 hx hb hts hown hK hP h35 dX9_seed_1 ?_
  refine lv_lstore_n (lv' := [(3, .long m_drawn), (0, .ref (a 35)), (1, .long p1)]) hx hb dX9_seed_4 rfl hl (by decide) rfl (fun ls hl => ?_)
  refine lv_aload_n hx hb dX9_seed_5 rfl (lv_at hl 1 rfl) ?_
  refine lv_lload_n hx hb dX9_seed_6 rfl (lv_at hl 2 rfl) ?_
  refine pf_X9_100 hx hb hts hown hK hP hD hS h35 rfl rfl dX9_seed_7 (fun w1 H locs hP hD hk hc hS => ?_)
  have h35 : w1[35]? = some (a 35, .inr (9, [.ref (a 36), .int m_readMany, .ref (a 37), .int m_pupils, .ref (a 38), .ref (a 39), .int m_mood, .ref (a 40), .int m_length, .int m_at, .int m_faultAt, .ref (a 41), .ref (a 42), .long p1, .int m_questions, .int m_rights, .int m_wrongs, .int m_tapes, .ref (a 43), .ref (a 44), .int m_trials, .ref (a 45), .ref (a 46), .ref (a 47), .ref (a 48), .ref (a 49), .ref (a 50), .ref (a 51)])) := hc
  replace hs := sm_k hk (by simp) hs
  refine lv_lload_n hx hb dX9_seed_10 rfl (lv_at hl 0 rfl) ?_
  subst hF
  rw [hQ]
  exact rw_l X hS hP hD hs h35 dX9_seed_11
def FX9_ones_S4 (p1 : Int32) (x1 : Int32) (x2 : Int32) : Option ((Int32 × Int32) ⊕ (Int32)) :=
  if (12 : Int32) ≤ x2 then (some (.inr x1)) else (some (.inl (x1 + ((p1 >>> (x2 &&& 31)) &&& (1 : Int32)), x2 + (1 : Int32))))
def FX9_ones (p1 : Int32) : Option (Int32) :=
  (itr (fun v => FX9_ones_S4 p1 v.1 v.2) fu ((0 : Int32), (0 : Int32))).bind fun o4 => some o4
def rm_X9_ones : Room := { frames := 0, cells := 0, slots := 0, locals := 0 }
set_option maxHeartbeats 4000000 in
set_option maxRecDepth 100000 in
theorem c_X9_ones (l : Launch) (D : va_G) (cI cJ cZ : ClassId) (a : Nat → Nat) (ws0 : va_W)   (p1 : Int32) (u : Int32) (hF : FX9_ones p1 = some u) : Met l yX9_ones (wq yX9_ones cX9_ones 3 (some .int)) rm_X9_ones (Pq [.int p1] D cI cJ cZ ws0) (Qq (some (.int u))) 0 0 (fun _ => False) := by
  refine mq_of (by decide) (Nat.le_of_ble_eq_true rfl) (fun p e s m args below meth c ls Q hQ X _ hP hl => ?_)
  obtain ⟨hx, hb, hr, hml, hown, hts, hlk, hK, hN⟩ := id X
  have hown : s.vm.findClass RX9 = some m.cls := hown
  have hl : lv_has ls 3 [(0, .int p1)] := hl
  unfold FX9_ones at hF
  refine lv_iconst (v := (0 : Int32)) hx hb dX9_ones_0 (by decide) ?_
  refine lv_istore_n (lv' := [(1, .int (0 : Int32)), (0, .int p1)]) hx hb dX9_ones_1 rfl hl (by decide) rfl (fun ls hl => ?_)
  refine lv_iconst (v := (0 : Int32)) hx hb dX9_ones_2 (by decide) ?_
  refine lv_istore_n (lv' := [(2, .int (0 : Int32)), (1, .int (0 : Int32)), (0, .int p1)]) hx hb dX9_ones_3 rfl hl (by decide) rfl (fun ls hl => ?_)
  have hL4 : ∀ (nf : Nat) (x1 : Int32) (x2 : Int32) (r : Int32), itr (fun v => FX9_ones_S4 p1 v.1 v.2) nf (x1, x2) = some r → ∀ ls, lv_has ls 3 [(2, .int x2), (1, .int x1), (0, .int p1)] → (∀ o : Int32, r = o → ∀ ls, lv_has ls 3 [(1, .int o)] → W p l e rm_X9_ones s m args below meth c s.heap [] 0 0 Q (F0 m 24 ls [])) → W p l e rm_X9_ones s m args below meth c s.heap [] 0 0 Q (F0 m 4 ls []) := by
    intro nf
    induction nf with
    | zero => intro _ _ r hF; exact (itr_0 hF).elim
    | succ nf ih =>
      intro x1 x2 r hF ls hl hE
      obtain ⟨wo, hF, hw⟩ := itr_s hF
      replace hF : FX9_ones_S4 p1 x1 x2 = some wo := hF
      unfold FX9_ones_S4 at hF
      refine lv_iload_n hx hb dX9_ones_4 rfl (lv_at hl 0 rfl) ?_
      refine lv_bipush (v := (12 : Int32)) hx hb dX9_ones_5 (by decide) ?_
      refine lv_icmp_ge (tgt := 24) hx hb dX9_ones_7 (by decide) (fun c3 => ?_) (fun c3 => ?_)
      · replace hF := (if_pos c3).symm.trans hF
        obtain rfl := Option.some.inj hF
        obtain rfl := hw
        exact hE _ rfl ls (lv_sub hl [1] rfl)
      · replace hF := (if_neg c3).symm.trans hF
        refine lv_iload_n hx hb dX9_ones_10 rfl (lv_at hl 1 rfl) ?_
        refine lv_iload_n hx hb dX9_ones_11 rfl (lv_at hl 2 rfl) ?_
        refine lv_iload_n hx hb dX9_ones_12 rfl (lv_at hl 0 rfl) ?_
        refine lv_ishr hx hb dX9_ones_13 ?_
        refine lv_iconst (v := (1 : Int32)) hx hb dX9_ones_14 (by decide) ?_
        refine lv_iand hx hb dX9_ones_15 ?_
        refine lv_iadd hx hb dX9_ones_16 ?_
        refine lv_istore_n (lv' := [(1, .int (x1 + ((p1 >>> (x2 &&& 31)) &&& (1 : Int32)))), (2, .int x2), (0, .int p1)]) hx hb dX9_ones_17 rfl hl (by decide) rfl (fun ls hl => ?_)
        refine lv_iinc (v := x2 + (1 : Int32)) (lv' := [(2, .int (x2 + (1 : Int32))), (1, .int (x1 + ((p1 >>> (x2 &&& 31)) &&& (1 : Int32)))), (0, .int p1)]) hx hb dX9_ones_18 hl (k := 1) rfl rfl (by decide) rfl (fun ls hl => ?_)
        refine lv_goto (tgt := 4) hx hb dX9_ones_21 (by decide) ?_
        obtain rfl := Option.some.inj hF
        exact ih _ _ _ hw ls (lv_sub hl [0, 1, 2] rfl) hE
  obtain ⟨o4, ho4, hF⟩ := bd_some hF
  refine hL4 fu (0 : Int32) (0 : Int32) o4 ho4 ls (lv_sub hl [0, 1, 2] rfl) ?_
  intro _ q_o4 ls hl
  subst q_o4
  refine lv_iload_n hx hb dX9_ones_24 rfl (lv_at hl 0 rfl) ?_
  obtain rfl := Option.some.inj hF
  rw [hQ]
  exact rt_i X dX9_ones_25
def FX9_drawOf_J52L40 (p1 : Int32) (x9 : Int32) (x10 : Int32) : Option ((Int32 × Int32) ⊕ (Int32)) :=
  some (.inl (x10 - ((p1 >>> (x9 &&& 31)) &&& (1 : Int32)), x9 + (1 : Int32)))
def FX9_drawOf_S40 (p1 : Int32) (x6 : Int32) (x7 : Int32) : Option ((Int32 × Int32) ⊕ (Int32)) :=
  if ((p1 >>> (x7 &&& 31)) &&& (1 : Int32)) = 0 then (FX9_drawOf_J52L40 p1 x7 x6) else (if x6 ≤ 0 then (some (.inr x7)) else (FX9_drawOf_J52L40 p1 x7 x6))
def FX9_drawOf (m_drawn : Int64) (p1 : Int32) : Option (Int32 × Int64) :=
  if p1 = 0 then (some ((-9 : Int32), m_drawn)) else ((FX9_ones p1).bind fun x3 => if x3.toInt64 = 0 then none else nmb ((((((m_drawn * (6364136223846793005 : Int64)) + (1442695040888963407 : Int64)).toUInt64 >>> ((33 : Int32).toInt64.toUInt64 &&& Int64.toUInt64 63)).toInt64) - ((((m_drawn * (6364136223846793005 : Int64)) + (1442695040888963407 : Int64)).toUInt64 >>> ((33 : Int32).toInt64.toUInt64 &&& Int64.toUInt64 63)).toInt64) / x3.toInt64 * x3.toInt64).toInt32) fun y5 => (itr (fun v => FX9_drawOf_S40 p1 v.1 v.2) fu (y5, (0 : Int32))).bind fun o12 => some (o12, (m_drawn * (6364136223846793005 : Int64)) + (1442695040888963407 : Int64)))
def rm_X9_drawOf : Room := { frames := 1, cells := 0, slots := 0, locals := 22 }
set_option maxHeartbeats 4000000 in
set_option maxRecDepth 100000 in
theorem c_X9_drawOf (l : Launch) (D : va_G) (cI cJ cZ : ClassId) (a : Nat → Nat) (ws0 : va_W) (A : Nat → Prop)  (m_readMany : Int32) (m_pupils : Int32) (m_mood : Int32) (m_length : Int32) (m_at : Int32) (m_faultAt : Int32) (m_drawn : Int64) (m_questions : Int32) (m_rights : Int32) (m_wrongs : Int32) (m_tapes : Int32) (m_trials : Int32) (p1 : Int32) (u : Int32 × Int64) (hF : FX9_drawOf m_drawn p1 = some u) (z35 : ws0[35]? = some (a 35, .inr (9, [.ref (a 36), .int m_readMany, .ref (a 37), .int m_pupils, .ref (a 38), .ref (a 39), .int m_mood, .ref (a 40), .int m_length, .int m_at, .int m_faultAt, .ref (a 41), .ref (a 42), .long m_drawn, .int m_questions, .int m_rights, .int m_wrongs, .int m_tapes, .ref (a 43), .ref (a 44), .int m_trials, .ref (a 45), .ref (a 46), .ref (a 47), .ref (a 48), .ref (a 49), .ref (a 50), .ref (a 51)]))) (hD : va_D A ws0) : Met l yX9_drawOf (wq yX9_drawOf cX9_drawOf 4 (some .int)) rm_X9_drawOf (Pq [.ref (a 35), .int p1] D cI cJ cZ ws0) (Qw D A ws0 [35] (some (.int u.1)) (fun w => w[35]? = some (a 35, .inr (9, [.ref (a 36), .int m_readMany, .ref (a 37), .int m_pupils, .ref (a 38), .ref (a 39), .int m_mood, .ref (a 40), .int m_length, .int m_at, .int m_faultAt, .ref (a 41), .ref (a 42), .long u.2, .int m_questions, .int m_rights, .int m_wrongs, .int m_tapes, .ref (a 43), .ref (a 44), .int m_trials, .ref (a 45), .ref (a 46), .ref (a 47), .ref (a 48), .ref (a 49), .ref (a 50), .ref (a 51)])))) 0 0 A := by
  refine mq_of (by decide) (Nat.le_of_ble_eq_true rfl) (fun p e s m args below meth c ls Q hQ X _ hP hl => ?_)
  obtain ⟨hx, hb, hr, hml, hown, hts, hlk, hK, hN⟩ := id X
  have hown : s.vm.findClass RX9 = some m.cls := hown
  have hl : lv_has ls 4 [(0, .ref (a 35)), (1, .int p1)] := hl
  have hS : va_S A s.heap s.heap [] := va_S.rf
  have hs : ∀ j : Nat, j ∉ [35] → ws0[j]? = ws0[j]? := fun _ _ => rfl
  have h35 := z35
  unfold FX9_drawOf at hF
  refine lv_iload_n hx hb dX9_drawOf_0 rfl (lv_at hl 1 rfl) ?_
  refine lv_if_ne (tgt := 7) hx hb dX9_drawOf_1 (by decide) (fun c1 => ?_) (fun c1 => ?_)
  · replace hF := (if_neg c1).symm.trans hF
    refine lv_aload_n hx hb dX9_drawOf_7 rfl (lv_at hl 0 rfl) ?_
    refine lv_aload_n hx hb dX9_drawOf_8 rfl (lv_at hl 0 rfl) ?_
    refine gf_X9_100 hx hb hts hown hK hP h35 dX9_drawOf_9 ?_
    refine lv_ldc2 (v := (6364136223846793005 : Int64)) hx hb hown (hts _ kl_X9_181) dX9_drawOf_12 ?_
    refine lv_lmul hx hb dX9_drawOf_15 ?_
    refine lv_ldc2 (v := (1442695040888963407 : Int64)) hx hb hown (hts _ kl_X9_183) dX9_drawOf_16 ?_
    refine lv_ladd hx hb dX9_drawOf_19 ?_
    refine pf_X9_100 hx hb hts hown hK hP hD hS h35 rfl rfl dX9_drawOf_20 (fun w2 H locs hP hD hk hc hS => ?_)
    have h35 : w2[35]? = some (a 35, .inr (9, [.ref (a 36), .int m_readMany, .ref (a 37), .int m_pupils, .ref (a 38), .ref (a 39), .int m_mood, .ref (a 40), .int m_length, .int m_at, .int m_faultAt, .ref (a 41), .ref (a 42), .long ((m_drawn * (6364136223846793005 : Int64)) + (1442695040888963407 : Int64)), .int m_questions, .int m_rights, .int m_wrongs, .int m_tapes, .ref (a 43), .ref (a 44), .int m_trials, .ref (a 45), .ref (a 46), .ref (a 47), .ref (a 48), .ref (a 49), .ref (a 50), .ref (a 51)])) := hc
    replace hs := sm_k hk (by simp) hs
    refine lv_aload_n hx hb dX9_drawOf_23 rfl (lv_at hl 0 rfl) ?_
    refine gf_X9_100 hx hb hts hown hK hP h35 dX9_drawOf_24 ?_
    refine lv_bipush (v := (33 : Int32)) hx hb dX9_drawOf_27 (by decide) ?_
    refine lv_lushr hx hb dX9_drawOf_29 rfl ?_
    refine lv_iload_n hx hb dX9_drawOf_30 rfl (lv_at hl 1 rfl) ?_
    obtain ⟨x3, hx3, hF⟩ := bd_some hF
    refine rd_i (runS (As := [.int p1]) (rest := [.long ((((m_drawn * (6364136223846793005 : Int64)) + (1442695040888963407 : Int64)).toUInt64 >>> ((33 : Int32).toInt64.toUInt64 &&& Int64.toUInt64 63)).toInt64)]) X cq_X9_ones lk_X9_185 (c_X9_ones l D cI cJ cZ a w2 p1 x3 hx3 ) rfl rfl ⟨Nat.le_of_ble_eq_true rfl, Nat.le_of_ble_eq_true rfl⟩ hP rfl hl.1 rfl (Nat.le_of_ble_eq_true rfl) dX9_drawOf_31 ⟨Nat.le_of_ble_eq_true rfl, Nat.le_of_ble_eq_true rfl⟩) ?_
    refine lv_i2l hx hb dX9_drawOf_34 rfl ?_
    obtain ⟨hg4, hF⟩ := gd_some hF
    refine lv_lrem hx hb dX9_drawOf_35 hg4 ?_
    refine lv_l2i hx hb dX9_drawOf_36 rfl ?_
    refine lv_topi (fun y5 e_y5 => ?_)
    replace hF := nm_at hF e_y5
    refine lv_istore_n (lv' := [(2, .int y5), (0, .ref (a 35)), (1, .int p1)]) hx hb dX9_drawOf_37 rfl hl (by decide) rfl (fun ls hl => ?_)
    refine lv_iconst (v := (0 : Int32)) hx hb dX9_drawOf_38 (by decide) ?_
    refine lv_istore_n (lv' := [(3, .int (0 : Int32)), (2, .int y5), (0, .ref (a 35)), (1, .int p1)]) hx hb dX9_drawOf_39 rfl hl (by decide) rfl (fun ls hl => ?_)
    have hL40 : ∀ (nf : Nat) (x6 : Int32) (x7 : Int32) (r : Int32), itr (fun v => FX9_drawOf_S40 p1 v.1 v.2) nf (x6, x7) = some r → ∀ (wJ : va_W) (HJ : Heap) (lJ : List Loc), va_P D vwCl wJ HJ → va_D A wJ → va_S A s.heap HJ lJ → (∀ j : Nat, j ∉ [35] → wJ[j]? = ws0[j]?) → wJ[35]? = some (a 35, .inr (9, [.ref (a 36), .int m_readMany, .ref (a 37), .int m_pupils, .ref (a 38), .ref (a 39), .int m_mood, .ref (a 40), .int m_length, .int m_at, .int m_faultAt, .ref (a 41), .ref (a 42), .long ((m_drawn * (6364136223846793005 : Int64)) + (1442695040888963407 : Int64)), .int m_questions, .int m_rights, .int m_wrongs, .int m_tapes, .ref (a 43), .ref (a 44), .int m_trials, .ref (a 45), .ref (a 46), .ref (a 47), .ref (a 48), .ref (a 49), .ref (a 50), .ref (a 51)])) → ∀ ls, lv_has ls 4 [(3, .int x7), (2, .int x6), (1, .int p1)] → (∀ o : Int32, r = o → ∀ (wK : va_W) (HK : Heap) (lK : List Loc), va_P D vwCl wK HK → va_D A wK → va_S A s.heap HK lK → (∀ j : Nat, j ∉ [35] → wK[j]? = ws0[j]?) → wK[35]? = some (a 35, .inr (9, [.ref (a 36), .int m_readMany, .ref (a 37), .int m_pupils, .ref (a 38), .ref (a 39), .int m_mood, .ref (a 40), .int m_length, .int m_at, .int m_faultAt, .ref (a 41), .ref (a 42), .long ((m_drawn * (6364136223846793005 : Int64)) + (1442695040888963407 : Int64)), .int m_questions, .int m_rights, .int m_wrongs, .int m_tapes, .ref (a 43), .ref (a 44), .int m_trials, .ref (a 45), .ref (a 46), .ref (a 47), .ref (a 48), .ref (a 49), .ref (a 50), .ref (a 51)])) → ∀ ls, lv_has ls 4 [(3, .int o)] → W p l e rm_X9_drawOf s m args below meth c HK lK 0 0 Q (F0 m 66 ls [])) → W p l e rm_X9_drawOf s m args below meth c HJ lJ 0 0 Q (F0 m 40 ls []) := by
      intro nf
      induction nf with
      | zero => intro _ _ r hF; exact (itr_0 hF).elim
      | succ nf ih =>
        intro x6 x7 r hF w H locs hP hD hS hs h35 ls hl hE
        obtain ⟨wo, hF, hw⟩ := itr_s hF
        replace hF : FX9_drawOf_S40 p1 x6 x7 = some wo := hF
        have hJ52 : ∀ (x9 : Int32) (x10 : Int32), ∀ (wJ : va_W) (HJ : Heap) (lJ : List Loc), va_P D vwCl wJ HJ → va_D A wJ → va_S A s.heap HJ lJ → (∀ j : Nat, j ∉ [35] → wJ[j]? = ws0[j]?) → wJ[35]? = some (a 35, .inr (9, [.ref (a 36), .int m_readMany, .ref (a 37), .int m_pupils, .ref (a 38), .ref (a 39), .int m_mood, .ref (a 40), .int m_length, .int m_at, .int m_faultAt, .ref (a 41), .ref (a 42), .long ((m_drawn * (6364136223846793005 : Int64)) + (1442695040888963407 : Int64)), .int m_questions, .int m_rights, .int m_wrongs, .int m_tapes, .ref (a 43), .ref (a 44), .int m_trials, .ref (a 45), .ref (a 46), .ref (a 47), .ref (a 48), .ref (a 49), .ref (a 50), .ref (a 51)])) → ∀ ls, lv_has ls 4 [(3, .int x9), (2, .int x10), (1, .int p1)] → FX9_drawOf_J52L40 p1 x9 x10 = some wo → W p l e rm_X9_drawOf s m args below meth c HJ lJ 0 0 Q (F0 m 52 ls []) := by
          intro x9 x10 w H locs hP hD hS hs h35 ls hl hF
          unfold FX9_drawOf_J52L40 at hF
          refine lv_iload_n hx hb dX9_drawOf_52 rfl (lv_at hl 1 rfl) ?_
          refine lv_iload_n hx hb dX9_drawOf_53 rfl (lv_at hl 2 rfl) ?_
          refine lv_iload_n hx hb dX9_drawOf_54 rfl (lv_at hl 0 rfl) ?_
          refine lv_ishr hx hb dX9_drawOf_55 ?_
          refine lv_iconst (v := (1 : Int32)) hx hb dX9_drawOf_56 (by decide) ?_
          refine lv_iand hx hb dX9_drawOf_57 ?_
          refine lv_isub hx hb dX9_drawOf_58 ?_
          refine lv_istore_n (lv' := [(2, .int (x10 - ((p1 >>> (x9 &&& 31)) &&& (1 : Int32)))), (3, .int x9), (1, .int p1)]) hx hb dX9_drawOf_59 rfl hl (by decide) rfl (fun ls hl => ?_)
          refine lv_iinc (v := x9 + (1 : Int32)) (lv' := [(3, .int (x9 + (1 : Int32))), (2, .int (x10 - ((p1 >>> (x9 &&& 31)) &&& (1 : Int32)))), (1, .int p1)]) hx hb dX9_drawOf_60 hl (k := 1) rfl rfl (by decide) rfl (fun ls hl => ?_)
          refine lv_goto (tgt := 40) hx hb dX9_drawOf_63 (by decide) ?_
          obtain rfl := Option.some.inj hF
          exact ih _ _ _ hw _ _ _ hP hD hS hs h35 ls (lv_sub hl [0, 1, 2] rfl) hE
        unfold FX9_drawOf_S40 at hF
        refine lv_iload_n hx hb dX9_drawOf_40 rfl (lv_at hl 2 rfl) ?_
        refine lv_iload_n hx hb dX9_drawOf_41 rfl (lv_at hl 0 rfl) ?_
        refine lv_ishr hx hb dX9_drawOf_42 ?_
        refine lv_iconst (v := (1 : Int32)) hx hb dX9_drawOf_43 (by decide) ?_
        refine lv_iand hx hb dX9_drawOf_44 ?_
        refine lv_if_eq (tgt := 52) hx hb dX9_drawOf_45 (by decide) (fun c8 => ?_) (fun c8 => ?_)
        · replace hF := (if_pos c8).symm.trans hF
          exact hJ52 x7 x6 _ _ _ hP hD hS hs h35 ls (lv_sub hl [0, 1, 2] rfl) hF
        · replace hF := (if_neg c8).symm.trans hF
          refine lv_iload_n hx hb dX9_drawOf_48 rfl (lv_at hl 1 rfl) ?_
          refine lv_if_le (tgt := 66) hx hb dX9_drawOf_49 (by decide) (fun c11 => ?_) (fun c11 => ?_)
          · replace hF := (if_pos c11).symm.trans hF
            obtain rfl := Option.some.inj hF
            obtain rfl := hw
            exact hE _ rfl _ _ _ hP hD hS hs h35 ls (lv_sub hl [0] rfl)
          · replace hF := (if_neg c11).symm.trans hF
            exact hJ52 x7 x6 _ _ _ hP hD hS hs h35 ls (lv_sub hl [0, 1, 2] rfl) hF
    obtain ⟨o12, ho12, hF⟩ := bd_some hF
    refine hL40 fu y5 (0 : Int32) o12 ho12 _ _ _ hP hD hS hs h35 ls (lv_sub hl [0, 1, 3] rfl) ?_
    intro _ q_o12 w H locs hP hD hS hs h35 ls hl
    subst q_o12
    refine lv_iload_n hx hb dX9_drawOf_66 rfl (lv_at hl 0 rfl) ?_
    obtain rfl := Option.some.inj hF
    rw [hQ]
    exact rw_i X hS hP hD hs h35 dX9_drawOf_67
  · replace hF := (if_pos c1).symm.trans hF
    refine lv_bipush (v := (-9 : Int32)) hx hb dX9_drawOf_4 (by decide) ?_
    obtain rfl := Option.some.inj hF
    rw [hQ]
    exact rw_i X hS hP hD hs h35 dX9_drawOf_6
def FX9_takes_J47L6 (x5 : Int32) (x6 : Int32) : Option ((Int32 × Int32) ⊕ (Int32)) :=
  some (.inl (x6, x5 + (1 : Int32)))
def FX9_takes_J42L6 (x8 : Int32) : Option ((Int32 × Int32) ⊕ (Int32)) :=
  some (.inl (x8, x8 + (1 : Int32)))
def FX9_takes_S6 (m_pupils : Int32) (m_pupil : Nat → Int32) (m_times : Nat → Int32) (p1 : Int32) (p2 : Int32) (x1 : Int32) (x2 : Int32) : Option ((Int32 × Int32) ⊕ (Int32)) :=
  if m_pupils ≤ x2 then (some (.inr x1)) else (if ((p1 >>> (x2 &&& 31)) &&& (1 : Int32)) = (1 : Int32) then (if x1 = (-9 : Int32) then (FX9_takes_J42L6 x2) else ((FX9_isAhead m_pupil m_times x2 x1 p2).bind fun x9 => if x9 = true then (FX9_takes_J42L6 x2) else (FX9_takes_J47L6 x2 x1))) else (FX9_takes_J47L6 x2 x1))
def FX9_takes (m_pupils : Int32) (m_pupil : Nat → Int32) (m_times : Nat → Int32) (p1 : Int32) (p2 : Int32) : Option (Int32) :=
  (itr (fun v => FX9_takes_S6 m_pupils m_pupil m_times p1 p2 v.1 v.2) fu ((-9 : Int32), (0 : Int32))).bind fun o11 => some o11
def rm_X9_takes : Room := { frames := 2, cells := 0, slots := 0, locals := 47 }
set_option maxHeartbeats 4000000 in
set_option maxRecDepth 100000 in
theorem c_X9_takes (l : Launch) (D : va_G) (cI cJ cZ : ClassId) (a : Nat → Nat) (ws0 : va_W)  (m_readMany : Int32) (m_pupils : Int32) (m_mood : Int32) (m_length : Int32) (m_at : Int32) (m_faultAt : Int32) (m_drawn : Int64) (m_questions : Int32) (m_rights : Int32) (m_wrongs : Int32) (m_tapes : Int32) (m_trials : Int32) (m_pupil : Nat → Int32) (m_times : Nat → Int32) (p1 : Int32) (p2 : Int32) (u : Int32) (hF : FX9_takes m_pupils m_pupil m_times p1 p2 = some u) (h35 : ws0[35]? = some (a 35, .inr (9, [.ref (a 36), .int m_readMany, .ref (a 37), .int m_pupils, .ref (a 38), .ref (a 39), .int m_mood, .ref (a 40), .int m_length, .int m_at, .int m_faultAt, .ref (a 41), .ref (a 42), .long m_drawn, .int m_questions, .int m_rights, .int m_wrongs, .int m_tapes, .ref (a 43), .ref (a 44), .int m_trials, .ref (a 45), .ref (a 46), .ref (a 47), .ref (a 48), .ref (a 49), .ref (a 50), .ref (a 51)]))) (h37 : ws0[37]? = some (a 37, .inl (cI, 72, .inl m_pupil))) (h39 : ws0[39]? = some (a 39, .inl (cI, 12, .inl m_times))) : Met l yX9_takes (wq yX9_takes cX9_takes 5 (some .int)) rm_X9_takes (Pq [.ref (a 35), .int p1, .int p2] D cI cJ cZ ws0) (Qq (some (.int u))) 0 0 (fun _ => False) := by
  refine mq_of (by decide) (Nat.le_of_ble_eq_true rfl) (fun p e s m args below meth c ls Q hQ X _ hP hl => ?_)
  obtain ⟨hx, hb, hr, hml, hown, hts, hlk, hK, hN⟩ := id X
  have hown : s.vm.findClass RX9 = some m.cls := hown
  have hl : lv_has ls 5 [(0, .ref (a 35)), (1, .int p1), (2, .int p2)] := hl
  unfold FX9_takes at hF
  refine lv_bipush (v := (-9 : Int32)) hx hb dX9_takes_0 (by decide) ?_
  refine lv_istore_n (lv' := [(3, .int (-9 : Int32)), (0, .ref (a 35)), (1, .int p1), (2, .int p2)]) hx hb dX9_takes_2 rfl hl (by decide) rfl (fun ls hl => ?_)
  refine lv_iconst (v := (0 : Int32)) hx hb dX9_takes_3 (by decide) ?_
  refine lv_istore (lv' := [(4, .int (0 : Int32)), (3, .int (-9 : Int32)), (0, .ref (a 35)), (1, .int p1), (2, .int p2)]) hx hb dX9_takes_4 hl (by decide) rfl (fun ls hl => ?_)
  have hL6 : ∀ (nf : Nat) (x1 : Int32) (x2 : Int32) (r : Int32), itr (fun v => FX9_takes_S6 m_pupils m_pupil m_times p1 p2 v.1 v.2) nf (x1, x2) = some r → ∀ ls, lv_has ls 5 [(4, .int x2), (3, .int x1), (0, .ref (a 35)), (1, .int p1), (2, .int p2)] → (∀ o : Int32, r = o → ∀ ls, lv_has ls 5 [(3, .int o)] → W p l e rm_X9_takes s m args below meth c s.heap [] 0 0 Q (F0 m 55 ls [])) → W p l e rm_X9_takes s m args below meth c s.heap [] 0 0 Q (F0 m 6 ls []) := by
    intro nf
    induction nf with
    | zero => intro _ _ r hF; exact (itr_0 hF).elim
    | succ nf ih =>
      intro x1 x2 r hF ls hl hE
      obtain ⟨wo, hF, hw⟩ := itr_s hF
      replace hF : FX9_takes_S6 m_pupils m_pupil m_times p1 p2 x1 x2 = some wo := hF
      have hJ47 : ∀ (x5 : Int32) (x6 : Int32), ∀ ls, lv_has ls 5 [(4, .int x5), (3, .int x6), (0, .ref (a 35)), (1, .int p1), (2, .int p2)] → FX9_takes_J47L6 x5 x6 = some wo → W p l e rm_X9_takes s m args below meth c s.heap [] 0 0 Q (F0 m 47 ls []) := by
        intro x5 x6 ls hl hF
        unfold FX9_takes_J47L6 at hF
        refine lv_iload_n hx hb dX9_takes_47 rfl (lv_at hl 1 rfl) ?_
        refine lv_istore_n (lv' := [(3, .int x6), (4, .int x5), (0, .ref (a 35)), (1, .int p1), (2, .int p2)]) hx hb dX9_takes_48 rfl hl (by decide) rfl (fun ls hl => ?_)
        refine lv_iinc (v := x5 + (1 : Int32)) (lv' := [(4, .int (x5 + (1 : Int32))), (3, .int x6), (0, .ref (a 35)), (1, .int p1), (2, .int p2)]) hx hb dX9_takes_49 hl (k := 1) rfl rfl (by decide) rfl (fun ls hl => ?_)
        refine lv_goto (tgt := 6) hx hb dX9_takes_52 (by decide) ?_
        obtain rfl := Option.some.inj hF
        exact ih _ _ _ hw ls (lv_sub hl [0, 1, 2, 3, 4] rfl) hE
      have hJ42 : ∀ (x8 : Int32), ∀ ls, lv_has ls 5 [(4, .int x8), (0, .ref (a 35)), (1, .int p1), (2, .int p2)] → FX9_takes_J42L6 x8 = some wo → W p l e rm_X9_takes s m args below meth c s.heap [] 0 0 Q (F0 m 42 ls []) := by
        intro x8 ls hl hF
        unfold FX9_takes_J42L6 at hF
        refine lv_iload hx hb dX9_takes_42 (lv_at hl 0 rfl) ?_
        refine lv_goto (tgt := 48) hx hb dX9_takes_44 (by decide) ?_
        refine lv_istore_n (lv' := [(3, .int x8), (4, .int x8), (0, .ref (a 35)), (1, .int p1), (2, .int p2)]) hx hb dX9_takes_48 rfl hl (by decide) rfl (fun ls hl => ?_)
        refine lv_iinc (v := x8 + (1 : Int32)) (lv' := [(4, .int (x8 + (1 : Int32))), (3, .int x8), (0, .ref (a 35)), (1, .int p1), (2, .int p2)]) hx hb dX9_takes_49 hl (k := 1) rfl rfl (by decide) rfl (fun ls hl => ?_)
        refine lv_goto (tgt := 6) hx hb dX9_takes_52 (by decide) ?_
        obtain rfl := Option.some.inj hF
        exact ih _ _ _ hw ls (lv_sub hl [0, 1, 2, 3, 4] rfl) hE
      unfold FX9_takes_S6 at hF
      refine lv_iload hx hb dX9_takes_6 (lv_at hl 0 rfl) ?_
      refine lv_aload_n hx hb dX9_takes_8 rfl (lv_at hl 2 rfl) ?_
      refine gf_X9_97 hx hb hts hown hK hP h35 dX9_takes_9 ?_
      refine lv_icmp_ge (tgt := 55) hx hb dX9_takes_12 (by decide) (fun c3 => ?_) (fun c3 => ?_)
      · replace hF := (if_pos c3).symm.trans hF
        obtain rfl := Option.some.inj hF
        obtain rfl := hw
        exact hE _ rfl ls (lv_sub hl [1] rfl)
      · replace hF := (if_neg c3).symm.trans hF
        refine lv_iload_n hx hb dX9_takes_15 rfl (lv_at hl 3 rfl) ?_
        refine lv_iload hx hb dX9_takes_16 (lv_at hl 0 rfl) ?_
        refine lv_ishr hx hb dX9_takes_18 ?_
        refine lv_iconst (v := (1 : Int32)) hx hb dX9_takes_19 (by decide) ?_
        refine lv_iand hx hb dX9_takes_20 ?_
        refine lv_iconst (v := (1 : Int32)) hx hb dX9_takes_21 (by decide) ?_
        refine lv_icmp_ne (tgt := 47) hx hb dX9_takes_22 (by decide) (fun c4 => ?_) (fun c4 => ?_)
        · replace hF := (if_neg c4).symm.trans hF
          exact hJ47 x2 x1 ls (lv_sub hl [0, 1, 2, 3, 4] rfl) hF
        · replace hF := (if_pos c4).symm.trans hF
          refine lv_iload_n hx hb dX9_takes_25 rfl (lv_at hl 1 rfl) ?_
          refine lv_bipush (v := (-9 : Int32)) hx hb dX9_takes_26 (by decide) ?_
          refine lv_icmp_eq (tgt := 42) hx hb dX9_takes_28 (by decide) (fun c7 => ?_) (fun c7 => ?_)
          · replace hF := (if_pos c7).symm.trans hF
            exact hJ42 x2 ls (lv_sub hl [0, 2, 3, 4] rfl) hF
          · replace hF := (if_neg c7).symm.trans hF
            refine lv_aload_n hx hb dX9_takes_31 rfl (lv_at hl 2 rfl) ?_
            refine lv_iload hx hb dX9_takes_32 (lv_at hl 0 rfl) ?_
            refine lv_iload_n hx hb dX9_takes_34 rfl (lv_at hl 1 rfl) ?_
            refine lv_iload_n hx hb dX9_takes_35 rfl (lv_at hl 4 rfl) ?_
            obtain ⟨x9, hx9, hF⟩ := bd_some hF
            refine rd_i (runV (As := [.int x2, .int x1, .int p2]) (rest := []) X cq_X9_isAhead lk_X9_160 (c_X9_isAhead l D cI cJ cZ a ws0 m_readMany m_pupils m_mood m_length m_at m_faultAt m_drawn m_questions m_rights m_wrongs m_tapes m_trials m_pupil m_times x2 x1 p2 x9 hx9 h35 h37 h39) rfl rfl ⟨Nat.le_of_ble_eq_true rfl, Nat.le_of_ble_eq_true rfl⟩ hP h35 rfl rfl hl.1 rfl (Nat.le_of_ble_eq_true rfl) dX9_takes_36 ⟨Nat.le_of_ble_eq_true rfl, Nat.le_of_ble_eq_true rfl⟩) ?_
            refine zf_eq (tgt := 47) hx hb dX9_takes_39 (by decide) (fun c10 => ?_) (fun c10 => ?_)
            · replace hF := (if_neg c10).symm.trans hF
              exact hJ47 x2 x1 ls (lv_sub hl [0, 1, 2, 3, 4] rfl) hF
            · replace hF := (if_pos c10).symm.trans hF
              exact hJ42 x2 ls (lv_sub hl [0, 2, 3, 4] rfl) hF
  obtain ⟨o11, ho11, hF⟩ := bd_some hF
  refine hL6 fu (-9 : Int32) (0 : Int32) o11 ho11 ls (lv_sub hl [0, 1, 2, 3, 4] rfl) ?_
  intro _ q_o11 ls hl
  subst q_o11
  refine lv_iload_n hx hb dX9_takes_55 rfl (lv_at hl 0 rfl) ?_
  obtain rfl := Option.some.inj hF
  rw [hQ]
  exact rt_i X dX9_takes_56
def FX9_ask_J237 (x76 : Int32) (x77 : Int32) (x78 : Int32) (x79 : Int32) (x80 : Nat → Int32) (x81 : Nat → Int32) (x82 : Int32) (x83 : Int32) (x84 : Int64) : Option (Int32 × Int32 × (Nat → Int32) × (Nat → Int32) × Int32 × Int32 × Int64) :=
  some (x76, x79, x80, x81, x82, x77 + x78, x84)
def FX9_ask_J218 (x64 : Int32) (x65 : Int32) (x66 : Int32) (x67 : Int32) (x68 : Int32) (x69 : Nat → Int32) (x70 : Nat → Int32) (x71 : Int32) (x72 : Int32) (x73 : Int64) : Option (Int32 × Int32 × (Nat → Int32) × (Nat → Int32) × Int32 × Int32 × Int64) :=
  if x64 = 0 then (FX9_ask_J237 x65 x72 (1 : Int32) x68 x69 x70 (x66 + x67) x72 x73) else (FX9_ask_J237 x65 x72 (0 : Int32) x68 x69 x70 (x66 + x67) x72 x73)
def FX9_ask_J202 (x51 : Int32) (x52 : Int32) (x53 : Int32) (x54 : Int32) (x55 : Int32) (x56 : Nat → Int32) (x57 : Nat → Int32) (x58 : Int32) (x59 : Int32) (x60 : Int64) : Option (Int32 × Int32 × (Nat → Int32) × (Nat → Int32) × Int32 × Int32 × Int64) :=
  if x53 < 0 ∨ 12 ≤ x53.toNatClampNeg then none else if x51 = 0 then (FX9_ask_J218 x51 x52 x58 (0 : Int32) x55 x56 (upd x57 x53.toNatClampNeg x54) x58 x59 x60) else (FX9_ask_J218 x51 x52 x58 (1 : Int32) x55 x56 (upd x57 x53.toNatClampNeg x54) x58 x59 x60)
def FX9_ask_J170 (x39 : Int32) (x40 : Int32) (x41 : Int32) (x42 : Int32) (x43 : Int32) (x44 : Nat → Int32) (x45 : Nat → Int32) (x46 : Int32) (x47 : Int32) (x48 : Int64) : Option (Int32 × Int32 × (Nat → Int32) × (Nat → Int32) × Int32 × Int32 × Int64) :=
  if 0 ≤ (x41 + x42) then (if (x41 + x42) ≤ (9 : Int32) then (FX9_ask_J202 x39 x40 x40 (x41 + x42) x43 x44 x45 x46 x47 x48) else (FX9_ask_J202 x39 x40 x40 (9 : Int32) x43 x44 x45 x46 x47 x48)) else (FX9_ask_J202 x39 x40 x40 (0 : Int32) x43 x44 x45 x46 x47 x48)
def FX9_ask_J140 (p4 : Int32) (x28 : Int32) (x29 : Int32) (x30 : Int32) (x31 : Nat → Int32) (x32 : Nat → Int32) (x33 : Int32) (x34 : Int32) (x35 : Int64) : Option (Int32 × Int32 × (Nat → Int32) × (Nat → Int32) × Int32 × Int32 × Int64) :=
  if x28 < 0 ∨ 12 ≤ x28.toNatClampNeg then none else if x29 = 0 then (if p4 = 0 then (FX9_ask_J170 x29 x28 (x32 x28.toNatClampNeg) (-2 : Int32) x30 x31 x32 x33 x34 x35) else (FX9_ask_J170 x29 x28 (x32 x28.toNatClampNeg) (-4 : Int32) x30 x31 x32 x33 x34 x35)) else (FX9_ask_J170 x29 x28 (x32 x28.toNatClampNeg) (1 : Int32) x30 x31 x32 x33 x34 x35)
def FX9_ask_J139 (p4 : Int32) (x21 : Int32) (x22 : Int32) (x23 : Nat → Int32) (x24 : Nat → Int32) (x25 : Int32) (x26 : Int32) (x27 : Int64) : Option (Int32 × Int32 × (Nat → Int32) × (Nat → Int32) × Int32 × Int32 × Int64) :=
  FX9_ask_J140 p4 x21 (0 : Int32) x22 x23 x24 x25 x26 x27
def FX9_ask_J76 (m_pupil : Nat → Int32) (p1 : Int32) (p2 : Int32) (p4 : Int32) (x8 : Int32) (x9 : Int32) (x10 : Nat → Int32) (x11 : Nat → Int32) (x12 : Int32) (x13 : Int32) (x14 : Int64) : Option (Int32 × Int32 × (Nat → Int32) × (Nat → Int32) × Int32 × Int32 × Int64) :=
  if x8 = (-9 : Int32) then (some ((-9 : Int32), x9 + (1 : Int32), x10, x11, x12, x13, x14)) else (if x8 < 0 ∨ 12 ≤ x8.toNatClampNeg then none else if x8 < 0 ∨ 12 ≤ x8.toNatClampNeg then none else if ((p1 >>> (x8 &&& 31)) &&& (1 : Int32)) = (1 : Int32) then (if (((6 : Int32) * x8) + (3 : Int32)) < 0 ∨ 72 ≤ (((6 : Int32) * x8) + (3 : Int32)).toNatClampNeg then none else if p2 < (m_pupil (((6 : Int32) * x8) + (3 : Int32)).toNatClampNeg) then (FX9_ask_J139 p4 x8 (x9 + (1 : Int32)) (upd x10 x8.toNatClampNeg ((x10 x8.toNatClampNeg) + (1 : Int32))) x11 x12 x13 x14) else (FX9_ask_J140 p4 x8 (1 : Int32) (x9 + (1 : Int32)) (upd x10 x8.toNatClampNeg ((x10 x8.toNatClampNeg) + (1 : Int32))) x11 x12 x13 x14)) else (FX9_ask_J139 p4 x8 (x9 + (1 : Int32)) (upd x10 x8.toNatClampNeg ((x10 x8.toNatClampNeg) + (1 : Int32))) x11 x12 x13 x14))
def FX9_ask (m_pupils : Int32) (m_mood : Int32) (m_drawn : Int64) (m_questions : Int32) (m_rights : Int32) (m_wrongs : Int32) (m_pupil : Nat → Int32) (m_dares : Nat → Int32) (m_times : Nat → Int32) (p1 : Int32) (p2 : Int32) (p3 : Int32) (p4 : Int32) : Option (Int32 × Int32 × (Nat → Int32) × (Nat → Int32) × Int32 × Int32 × Int64) :=
  if (FX9_isRule p3) = true then (if (FX9_isKnown m_pupils p1) = true then (if (FX9_isWait p2) = true then ((FX9_raisedOf m_pupils m_mood m_pupil m_dares p1 p2).bind fun x4 => if p3 = (2 : Int32) then ((FX9_drawOf m_drawn x4).bind fun u90 => FX9_ask_J76 m_pupil p1 p2 p4 u90.1 m_questions m_times m_dares m_rights m_wrongs u90.2) else (if p3 = (3 : Int32) then ((FX9_drawOf m_drawn (((1 : Int32) <<< (m_pupils &&& 31)) - (1 : Int32))).bind fun u88 => FX9_ask_J76 m_pupil p1 p2 p4 u88.1 m_questions m_times m_dares m_rights m_wrongs u88.2) else ((FX9_takes m_pupils m_pupil m_times x4 p3).bind fun x7 => FX9_ask_J76 m_pupil p1 p2 p4 x7 m_questions m_times m_dares m_rights m_wrongs m_drawn))) else (some ((-2 : Int32), m_questions, m_times, m_dares, m_rights, m_wrongs, m_drawn))) else (some ((-2 : Int32), m_questions, m_times, m_dares, m_rights, m_wrongs, m_drawn))) else (some ((-1 : Int32), m_questions, m_times, m_dares, m_rights, m_wrongs, m_drawn))
def rm_X9_ask : Room := { frames := 3, cells := 0, slots := 0, locals := 71 }
set_option maxHeartbeats 4000000 in
set_option maxRecDepth 100000 in
theorem c_X9_ask (l : Launch) (D : va_G) (cI cJ cZ : ClassId) (a : Nat → Nat) (ws0 : va_W) (A : Nat → Prop)  (m_readMany : Int32) (m_pupils : Int32) (m_mood : Int32) (m_length : Int32) (m_at : Int32) (m_faultAt : Int32) (m_drawn : Int64) (m_questions : Int32) (m_rights : Int32) (m_wrongs : Int32) (m_tapes : Int32) (m_trials : Int32) (m_pupil : Nat → Int32) (m_dares : Nat → Int32) (m_times : Nat → Int32) (p1 : Int32) (p2 : Int32) (p3 : Int32) (p4 : Int32) (u : Int32 × Int32 × (Nat → Int32) × (Nat → Int32) × Int32 × Int32 × Int64) (hF : FX9_ask m_pupils m_mood m_drawn m_questions m_rights m_wrongs m_pupil m_dares m_times p1 p2 p3 p4 = some u) (z35 : ws0[35]? = some (a 35, .inr (9, [.ref (a 36), .int m_readMany, .ref (a 37), .int m_pupils, .ref (a 38), .ref (a 39), .int m_mood, .ref (a 40), .int m_length, .int m_at, .int m_faultAt, .ref (a 41), .ref (a 42), .long m_drawn, .int m_questions, .int m_rights, .int m_wrongs, .int m_tapes, .ref (a 43), .ref (a 44), .int m_trials, .ref (a 45), .ref (a 46), .ref (a 47), .ref (a 48), .ref (a 49), .ref (a 50), .ref (a 51)]))) (z37 : ws0[37]? = some (a 37, .inl (cI, 72, .inl m_pupil))) (z38 : ws0[38]? = some (a 38, .inl (cI, 12, .inl m_dares))) (z39 : ws0[39]? = some (a 39, .inl (cI, 12, .inl m_times))) (hD : va_D A ws0) : Met l yX9_ask (wq yX9_ask cX9_ask 9 (some .int)) rm_X9_ask (Pq [.ref (a 35), .int p1, .int p2, .int p3, .int p4] D cI cJ cZ ws0) (Qw D A ws0 [35, 39, 38] (some (.int u.1)) (fun w => w[35]? = some (a 35, .inr (9, [.ref (a 36), .int m_readMany, .ref (a 37), .int m_pupils, .ref (a 38), .ref (a 39), .int m_mood, .ref (a 40), .int m_length, .int m_at, .int m_faultAt, .ref (a 41), .ref (a 42), .long u.2.2.2.2.2.2, .int u.2.1, .int u.2.2.2.2.1, .int u.2.2.2.2.2.1, .int m_tapes, .ref (a 43), .ref (a 44), .int m_trials, .ref (a 45), .ref (a 46), .ref (a 47), .ref (a 48), .ref (a 49), .ref (a 50), .ref (a 51)])) ∧ w[39]? = some (a 39, .inl (cI, 12, .inl u.2.2.1)) ∧ w[38]? = some (a 38, .inl (cI, 12, .inl u.2.2.2.1)))) 0 0 A := by
  refine mq_of (by decide) (Nat.le_of_ble_eq_true rfl) (fun p e s m args below meth c ls Q hQ X _ hP hl => ?_)
  obtain ⟨hx, hb, hr, hml, hown, hts, hlk, hK, hN⟩ := id X
  have hown : s.vm.findClass RX9 = some m.cls := hown
  have hl : lv_has ls 9 [(0, .ref (a 35)), (1, .int p1), (2, .int p2), (3, .int p3), (4, .int p4)] := hl
  have hS : va_S A s.heap s.heap [] := va_S.rf
  have hs : ∀ j : Nat, j ∉ [35, 39, 38] → ws0[j]? = ws0[j]? := fun _ _ => rfl
  have h35 := z35
  have h37 := z37
  have h38 := z38
  have h39 := z39
  have hJ237 : ∀ (x76 : Int32) (x77 : Int32) (x78 : Int32) (x79 : Int32) (x80 : Nat → Int32) (x81 : Nat → Int32) (x82 : Int32) (x83 : Int32) (x84 : Int64), ∀ (wJ : va_W) (HJ : Heap) (lJ : List Loc), va_P D vwCl wJ HJ → va_D A wJ → va_S A s.heap HJ lJ → (∀ j : Nat, j ∉ [35, 39, 38] → wJ[j]? = ws0[j]?) → wJ[35]? = some (a 35, .inr (9, [.ref (a 36), .int m_readMany, .ref (a 37), .int m_pupils, .ref (a 38), .ref (a 39), .int m_mood, .ref (a 40), .int m_length, .int m_at, .int m_faultAt, .ref (a 41), .ref (a 42), .long x84, .int x79, .int x82, .int x83, .int m_tapes, .ref (a 43), .ref (a 44), .int m_trials, .ref (a 45), .ref (a 46), .ref (a 47), .ref (a 48), .ref (a 49), .ref (a 50), .ref (a 51)])) → wJ[39]? = some (a 39, .inl (cI, 12, .inl x80)) → wJ[38]? = some (a 38, .inl (cI, 12, .inl x81)) → ∀ ls, lv_has ls 9 [(6, .int x76)] → FX9_ask_J237 x76 x77 x78 x79 x80 x81 x82 x83 x84 = some u → W p l e rm_X9_ask s m args below meth c HJ lJ 0 0 Q (F0 m 237 ls [.int x78, .int x77, .ref (a 35)]) := by
    intro x76 x77 x78 x79 x80 x81 x82 x83 x84 w H locs hP hD hS hs h35 h39 h38 ls hl hF
    have h37 := (hs 37 (by simp only [List.mem_cons, List.not_mem_nil, or_false, not_or]; omega)).trans z37
    unfold FX9_ask_J237 at hF
    refine lv_iadd hx hb dX9_ask_237 ?_
    refine pf_X9_110 hx hb hts hown hK hP hD hS h35 rfl rfl dX9_ask_238 (fun w85 H locs hP hD hk hc hS => ?_)
    have h35 : w85[35]? = some (a 35, .inr (9, [.ref (a 36), .int m_readMany, .ref (a 37), .int m_pupils, .ref (a 38), .ref (a 39), .int m_mood, .ref (a 40), .int m_length, .int m_at, .int m_faultAt, .ref (a 41), .ref (a 42), .long x84, .int x79, .int x82, .int (x77 + x78), .int m_tapes, .ref (a 43), .ref (a 44), .int m_trials, .ref (a 45), .ref (a 46), .ref (a 47), .ref (a 48), .ref (a 49), .ref (a 50), .ref (a 51)])) := hc
    have h37 := (hk 37 (by omega)).trans h37
    have h38 := (hk 38 (by omega)).trans h38
    have h39 := (hk 39 (by omega)).trans h39
    replace hs := sm_k hk (by simp) hs
    refine lv_iload hx hb dX9_ask_241 (lv_at hl 0 rfl) ?_
    obtain rfl := Option.some.inj hF
    rw [hQ]
    exact rw_i X hS hP hD hs ⟨h35, h39, h38⟩ dX9_ask_243
  have hJ218 : ∀ (x64 : Int32) (x65 : Int32) (x66 : Int32) (x67 : Int32) (x68 : Int32) (x69 : Nat → Int32) (x70 : Nat → Int32) (x71 : Int32) (x72 : Int32) (x73 : Int64), ∀ (wJ : va_W) (HJ : Heap) (lJ : List Loc), va_P D vwCl wJ HJ → va_D A wJ → va_S A s.heap HJ lJ → (∀ j : Nat, j ∉ [35, 39, 38] → wJ[j]? = ws0[j]?) → wJ[35]? = some (a 35, .inr (9, [.ref (a 36), .int m_readMany, .ref (a 37), .int m_pupils, .ref (a 38), .ref (a 39), .int m_mood, .ref (a 40), .int m_length, .int m_at, .int m_faultAt, .ref (a 41), .ref (a 42), .long x73, .int x68, .int x71, .int x72, .int m_tapes, .ref (a 43), .ref (a 44), .int m_trials, .ref (a 45), .ref (a 46), .ref (a 47), .ref (a 48), .ref (a 49), .ref (a 50), .ref (a 51)])) → wJ[39]? = some (a 39, .inl (cI, 12, .inl x69)) → wJ[38]? = some (a 38, .inl (cI, 12, .inl x70)) → ∀ ls, lv_has ls 9 [(7, .int x64), (6, .int x65), (0, .ref (a 35))] → FX9_ask_J218 x64 x65 x66 x67 x68 x69 x70 x71 x72 x73 = some u → W p l e rm_X9_ask s m args below meth c HJ lJ 0 0 Q (F0 m 218 ls [.int x67, .int x66, .ref (a 35)]) := by
    intro x64 x65 x66 x67 x68 x69 x70 x71 x72 x73 w H locs hP hD hS hs h35 h39 h38 ls hl hF
    have h37 := (hs 37 (by simp only [List.mem_cons, List.not_mem_nil, or_false, not_or]; omega)).trans z37
    unfold FX9_ask_J218 at hF
    refine lv_iadd hx hb dX9_ask_218 ?_
    refine pf_X9_107 hx hb hts hown hK hP hD hS h35 rfl rfl dX9_ask_219 (fun w74 H locs hP hD hk hc hS => ?_)
    have h35 : w74[35]? = some (a 35, .inr (9, [.ref (a 36), .int m_readMany, .ref (a 37), .int m_pupils, .ref (a 38), .ref (a 39), .int m_mood, .ref (a 40), .int m_length, .int m_at, .int m_faultAt, .ref (a 41), .ref (a 42), .long x73, .int x68, .int (x66 + x67), .int x72, .int m_tapes, .ref (a 43), .ref (a 44), .int m_trials, .ref (a 45), .ref (a 46), .ref (a 47), .ref (a 48), .ref (a 49), .ref (a 50), .ref (a 51)])) := hc
    have h37 := (hk 37 (by omega)).trans h37
    have h38 := (hk 38 (by omega)).trans h38
    have h39 := (hk 39 (by omega)).trans h39
    replace hs := sm_k hk (by simp) hs
    refine lv_aload_n hx hb dX9_ask_222 rfl (lv_at hl 2 rfl) ?_
    refine lv_dup hx hb dX9_ask_223 rfl ?_
    refine gf_X9_110 hx hb hts hown hK hP h35 dX9_ask_224 ?_
    refine lv_iload hx hb dX9_ask_227 (lv_at hl 0 rfl) ?_
    refine lv_if_eq (tgt := 236) hx hb dX9_ask_229 (by decide) (fun c75 => ?_) (fun c75 => ?_)
    · replace hF := (if_pos c75).symm.trans hF
      refine lv_iconst (v := (1 : Int32)) hx hb dX9_ask_236 (by decide) ?_
      exact hJ237 x65 x72 (1 : Int32) x68 x69 x70 (x66 + x67) x72 x73 _ _ _ hP hD hS hs h35 h39 h38 ls (lv_sub hl [1] rfl) hF
    · replace hF := (if_neg c75).symm.trans hF
      refine lv_iconst (v := (0 : Int32)) hx hb dX9_ask_232 (by decide) ?_
      refine lv_goto (tgt := 237) hx hb dX9_ask_233 (by decide) ?_
      exact hJ237 x65 x72 (0 : Int32) x68 x69 x70 (x66 + x67) x72 x73 _ _ _ hP hD hS hs h35 h39 h38 ls (lv_sub hl [1] rfl) hF
  have hJ202 : ∀ (x51 : Int32) (x52 : Int32) (x53 : Int32) (x54 : Int32) (x55 : Int32) (x56 : Nat → Int32) (x57 : Nat → Int32) (x58 : Int32) (x59 : Int32) (x60 : Int64), ∀ (wJ : va_W) (HJ : Heap) (lJ : List Loc), va_P D vwCl wJ HJ → va_D A wJ → va_S A s.heap HJ lJ → (∀ j : Nat, j ∉ [35, 39, 38] → wJ[j]? = ws0[j]?) → wJ[35]? = some (a 35, .inr (9, [.ref (a 36), .int m_readMany, .ref (a 37), .int m_pupils, .ref (a 38), .ref (a 39), .int m_mood, .ref (a 40), .int m_length, .int m_at, .int m_faultAt, .ref (a 41), .ref (a 42), .long x60, .int x55, .int x58, .int x59, .int m_tapes, .ref (a 43), .ref (a 44), .int m_trials, .ref (a 45), .ref (a 46), .ref (a 47), .ref (a 48), .ref (a 49), .ref (a 50), .ref (a 51)])) → wJ[39]? = some (a 39, .inl (cI, 12, .inl x56)) → wJ[38]? = some (a 38, .inl (cI, 12, .inl x57)) → ∀ ls, lv_has ls 9 [(7, .int x51), (6, .int x52), (0, .ref (a 35))] → FX9_ask_J202 x51 x52 x53 x54 x55 x56 x57 x58 x59 x60 = some u → W p l e rm_X9_ask s m args below meth c HJ lJ 0 0 Q (F0 m 202 ls [.int x54, .int x53, .ref (a 38)]) := by
    intro x51 x52 x53 x54 x55 x56 x57 x58 x59 x60 w H locs hP hD hS hs h35 h39 h38 ls hl hF
    have h37 := (hs 37 (by simp only [List.mem_cons, List.not_mem_nil, or_false, not_or]; omega)).trans z37
    unfold FX9_ask_J202 at hF
    obtain ⟨hg61, hF⟩ := gd_some hF
    refine ast_i hx hb hK hP hD hS h38 hg61 dX9_ask_202 (fun w62 H locs hP hD hk hc hS => ?_)
    have h38 : w62[38]? = some (a 38, .inl (cI, 12, .inl (upd x57 x53.toNatClampNeg x54))) := hc
    have h35 := (hk 35 (by omega)).trans h35
    have h37 := (hk 37 (by omega)).trans h37
    have h39 := (hk 39 (by omega)).trans h39
    replace hs := sm_k hk (by simp) hs
    refine lv_aload_n hx hb dX9_ask_203 rfl (lv_at hl 2 rfl) ?_
    refine lv_dup hx hb dX9_ask_204 rfl ?_
    refine gf_X9_107 hx hb hts hown hK hP h35 dX9_ask_205 ?_
    refine lv_iload hx hb dX9_ask_208 (lv_at hl 0 rfl) ?_
    refine lv_if_eq (tgt := 217) hx hb dX9_ask_210 (by decide) (fun c63 => ?_) (fun c63 => ?_)
    · replace hF := (if_pos c63).symm.trans hF
      refine lv_iconst (v := (0 : Int32)) hx hb dX9_ask_217 (by decide) ?_
      exact hJ218 x51 x52 x58 (0 : Int32) x55 x56 (upd x57 x53.toNatClampNeg x54) x58 x59 x60 _ _ _ hP hD hS hs h35 h39 h38 ls (lv_sub hl [0, 1, 2] rfl) hF
    · replace hF := (if_neg c63).symm.trans hF
      refine lv_iconst (v := (1 : Int32)) hx hb dX9_ask_213 (by decide) ?_
      refine lv_goto (tgt := 218) hx hb dX9_ask_214 (by decide) ?_
      exact hJ218 x51 x52 x58 (1 : Int32) x55 x56 (upd x57 x53.toNatClampNeg x54) x58 x59 x60 _ _ _ hP hD hS hs h35 h39 h38 ls (lv_sub hl [0, 1, 2] rfl) hF
  have hJ170 : ∀ (x39 : Int32) (x40 : Int32) (x41 : Int32) (x42 : Int32) (x43 : Int32) (x44 : Nat → Int32) (x45 : Nat → Int32) (x46 : Int32) (x47 : Int32) (x48 : Int64), ∀ (wJ : va_W) (HJ : Heap) (lJ : List Loc), va_P D vwCl wJ HJ → va_D A wJ → va_S A s.heap HJ lJ → (∀ j : Nat, j ∉ [35, 39, 38] → wJ[j]? = ws0[j]?) → wJ[35]? = some (a 35, .inr (9, [.ref (a 36), .int m_readMany, .ref (a 37), .int m_pupils, .ref (a 38), .ref (a 39), .int m_mood, .ref (a 40), .int m_length, .int m_at, .int m_faultAt, .ref (a 41), .ref (a 42), .long x48, .int x43, .int x46, .int x47, .int m_tapes, .ref (a 43), .ref (a 44), .int m_trials, .ref (a 45), .ref (a 46), .ref (a 47), .ref (a 48), .ref (a 49), .ref (a 50), .ref (a 51)])) → wJ[39]? = some (a 39, .inl (cI, 12, .inl x44)) → wJ[38]? = some (a 38, .inl (cI, 12, .inl x45)) → ∀ ls, lv_has ls 9 [(7, .int x39), (6, .int x40), (0, .ref (a 35))] → FX9_ask_J170 x39 x40 x41 x42 x43 x44 x45 x46 x47 x48 = some u → W p l e rm_X9_ask s m args below meth c HJ lJ 0 0 Q (F0 m 170 ls [.int x42, .int x41]) := by
    intro x39 x40 x41 x42 x43 x44 x45 x46 x47 x48 w H locs hP hD hS hs h35 h39 h38 ls hl hF
    have h37 := (hs 37 (by simp only [List.mem_cons, List.not_mem_nil, or_false, not_or]; omega)).trans z37
    unfold FX9_ask_J170 at hF
    refine lv_iadd hx hb dX9_ask_170 ?_
    refine lv_istore (lv' := [(8, .int (x41 + x42)), (7, .int x39), (6, .int x40), (0, .ref (a 35))]) hx hb dX9_ask_171 hl (by decide) rfl (fun ls hl => ?_)
    refine lv_aload_n hx hb dX9_ask_173 rfl (lv_at hl 3 rfl) ?_
    refine gf_X9_16 hx hb hts hown hK hP h35 dX9_ask_174 ?_
    refine lv_iload hx hb dX9_ask_177 (lv_at hl 2 rfl) ?_
    refine lv_iload hx hb dX9_ask_179 (lv_at hl 0 rfl) ?_
    refine lv_if_ge (tgt := 188) hx hb dX9_ask_181 (by decide) (fun c49 => ?_) (fun c49 => ?_)
    · replace hF := (if_pos c49).symm.trans hF
      refine lv_iload hx hb dX9_ask_188 (lv_at hl 0 rfl) ?_
      refine lv_bipush (v := (9 : Int32)) hx hb dX9_ask_190 (by decide) ?_
      refine lv_icmp_le (tgt := 200) hx hb dX9_ask_192 (by decide) (fun c50 => ?_) (fun c50 => ?_)
      · replace hF := (if_pos c50).symm.trans hF
        refine lv_iload hx hb dX9_ask_200 (lv_at hl 0 rfl) ?_
        exact hJ202 x39 x40 x40 (x41 + x42) x43 x44 x45 x46 x47 x48 _ _ _ hP hD hS hs h35 h39 h38 ls (lv_sub hl [1, 2, 3] rfl) hF
      · replace hF := (if_neg c50).symm.trans hF
        refine lv_bipush (v := (9 : Int32)) hx hb dX9_ask_195 (by decide) ?_
        refine lv_goto (tgt := 202) hx hb dX9_ask_197 (by decide) ?_
        exact hJ202 x39 x40 x40 (9 : Int32) x43 x44 x45 x46 x47 x48 _ _ _ hP hD hS hs h35 h39 h38 ls (lv_sub hl [1, 2, 3] rfl) hF
    · replace hF := (if_neg c49).symm.trans hF
      refine lv_iconst (v := (0 : Int32)) hx hb dX9_ask_184 (by decide) ?_
      refine lv_goto (tgt := 202) hx hb dX9_ask_185 (by decide) ?_
      exact hJ202 x39 x40 x40 (0 : Int32) x43 x44 x45 x46 x47 x48 _ _ _ hP hD hS hs h35 h39 h38 ls (lv_sub hl [1, 2, 3] rfl) hF
  have hJ140 : ∀ (x28 : Int32) (x29 : Int32) (x30 : Int32) (x31 : Nat → Int32) (x32 : Nat → Int32) (x33 : Int32) (x34 : Int32) (x35 : Int64), ∀ (wJ : va_W) (HJ : Heap) (lJ : List Loc), va_P D vwCl wJ HJ → va_D A wJ → va_S A s.heap HJ lJ → (∀ j : Nat, j ∉ [35, 39, 38] → wJ[j]? = ws0[j]?) → wJ[35]? = some (a 35, .inr (9, [.ref (a 36), .int m_readMany, .ref (a 37), .int m_pupils, .ref (a 38), .ref (a 39), .int m_mood, .ref (a 40), .int m_length, .int m_at, .int m_faultAt, .ref (a 41), .ref (a 42), .long x35, .int x30, .int x33, .int x34, .int m_tapes, .ref (a 43), .ref (a 44), .int m_trials, .ref (a 45), .ref (a 46), .ref (a 47), .ref (a 48), .ref (a 49), .ref (a 50), .ref (a 51)])) → wJ[39]? = some (a 39, .inl (cI, 12, .inl x31)) → wJ[38]? = some (a 38, .inl (cI, 12, .inl x32)) → ∀ ls, lv_has ls 9 [(6, .int x28), (0, .ref (a 35)), (4, .int p4)] → FX9_ask_J140 p4 x28 x29 x30 x31 x32 x33 x34 x35 = some u → W p l e rm_X9_ask s m args below meth c HJ lJ 0 0 Q (F0 m 140 ls [.int x29]) := by
    intro x28 x29 x30 x31 x32 x33 x34 x35 w H locs hP hD hS hs h35 h39 h38 ls hl hF
    have h37 := (hs 37 (by simp only [List.mem_cons, List.not_mem_nil, or_false, not_or]; omega)).trans z37
    unfold FX9_ask_J140 at hF
    refine lv_istore (lv' := [(7, .int x29), (6, .int x28), (0, .ref (a 35)), (4, .int p4)]) hx hb dX9_ask_140 hl (by decide) rfl (fun ls hl => ?_)
    refine lv_aload_n hx hb dX9_ask_142 rfl (lv_at hl 2 rfl) ?_
    refine gf_X9_16 hx hb hts hown hK hP h35 dX9_ask_143 ?_
    refine lv_iload hx hb dX9_ask_146 (lv_at hl 1 rfl) ?_
    obtain ⟨hg36, hF⟩ := gd_some hF
    refine va_iald hx hb hK hP 38 0 h38 rfl hg36 dX9_ask_148 ?_
    refine lv_iload hx hb dX9_ask_149 (lv_at hl 0 rfl) ?_
    refine lv_if_eq (tgt := 158) hx hb dX9_ask_151 (by decide) (fun c37 => ?_) (fun c37 => ?_)
    · replace hF := (if_pos c37).symm.trans hF
      refine lv_iload hx hb dX9_ask_158 (lv_at hl 3 rfl) ?_
      refine lv_if_eq (tgt := 168) hx hb dX9_ask_160 (by decide) (fun c38 => ?_) (fun c38 => ?_)
      · replace hF := (if_pos c38).symm.trans hF
        refine lv_bipush (v := (-2 : Int32)) hx hb dX9_ask_168 (by decide) ?_
        exact hJ170 x29 x28 (x32 x28.toNatClampNeg) (-2 : Int32) x30 x31 x32 x33 x34 x35 _ _ _ hP hD hS hs h35 h39 h38 ls (lv_sub hl [0, 1, 2] rfl) hF
      · replace hF := (if_neg c38).symm.trans hF
        refine lv_bipush (v := (-4 : Int32)) hx hb dX9_ask_163 (by decide) ?_
        refine lv_goto (tgt := 170) hx hb dX9_ask_165 (by decide) ?_
        exact hJ170 x29 x28 (x32 x28.toNatClampNeg) (-4 : Int32) x30 x31 x32 x33 x34 x35 _ _ _ hP hD hS hs h35 h39 h38 ls (lv_sub hl [0, 1, 2] rfl) hF
    · replace hF := (if_neg c37).symm.trans hF
      refine lv_iconst (v := (1 : Int32)) hx hb dX9_ask_154 (by decide) ?_
      refine lv_goto (tgt := 170) hx hb dX9_ask_155 (by decide) ?_
      exact hJ170 x29 x28 (x32 x28.toNatClampNeg) (1 : Int32) x30 x31 x32 x33 x34 x35 _ _ _ hP hD hS hs h35 h39 h38 ls (lv_sub hl [0, 1, 2] rfl) hF
  have hJ139 : ∀ (x21 : Int32) (x22 : Int32) (x23 : Nat → Int32) (x24 : Nat → Int32) (x25 : Int32) (x26 : Int32) (x27 : Int64), ∀ (wJ : va_W) (HJ : Heap) (lJ : List Loc), va_P D vwCl wJ HJ → va_D A wJ → va_S A s.heap HJ lJ → (∀ j : Nat, j ∉ [35, 39, 38] → wJ[j]? = ws0[j]?) → wJ[35]? = some (a 35, .inr (9, [.ref (a 36), .int m_readMany, .ref (a 37), .int m_pupils, .ref (a 38), .ref (a 39), .int m_mood, .ref (a 40), .int m_length, .int m_at, .int m_faultAt, .ref (a 41), .ref (a 42), .long x27, .int x22, .int x25, .int x26, .int m_tapes, .ref (a 43), .ref (a 44), .int m_trials, .ref (a 45), .ref (a 46), .ref (a 47), .ref (a 48), .ref (a 49), .ref (a 50), .ref (a 51)])) → wJ[39]? = some (a 39, .inl (cI, 12, .inl x23)) → wJ[38]? = some (a 38, .inl (cI, 12, .inl x24)) → ∀ ls, lv_has ls 9 [(6, .int x21), (0, .ref (a 35)), (4, .int p4)] → FX9_ask_J139 p4 x21 x22 x23 x24 x25 x26 x27 = some u → W p l e rm_X9_ask s m args below meth c HJ lJ 0 0 Q (F0 m 139 ls []) := by
    intro x21 x22 x23 x24 x25 x26 x27 w H locs hP hD hS hs h35 h39 h38 ls hl hF
    have h37 := (hs 37 (by simp only [List.mem_cons, List.not_mem_nil, or_false, not_or]; omega)).trans z37
    unfold FX9_ask_J139 at hF
    refine lv_iconst (v := (0 : Int32)) hx hb dX9_ask_139 (by decide) ?_
    exact hJ140 x21 (0 : Int32) x22 x23 x24 x25 x26 x27 _ _ _ hP hD hS hs h35 h39 h38 ls (lv_sub hl [0, 1, 2] rfl) hF
  have hJ76 : ∀ (x8 : Int32) (x9 : Int32) (x10 : Nat → Int32) (x11 : Nat → Int32) (x12 : Int32) (x13 : Int32) (x14 : Int64), ∀ (wJ : va_W) (HJ : Heap) (lJ : List Loc), va_P D vwCl wJ HJ → va_D A wJ → va_S A s.heap HJ lJ → (∀ j : Nat, j ∉ [35, 39, 38] → wJ[j]? = ws0[j]?) → wJ[35]? = some (a 35, .inr (9, [.ref (a 36), .int m_readMany, .ref (a 37), .int m_pupils, .ref (a 38), .ref (a 39), .int m_mood, .ref (a 40), .int m_length, .int m_at, .int m_faultAt, .ref (a 41), .ref (a 42), .long x14, .int x9, .int x12, .int x13, .int m_tapes, .ref (a 43), .ref (a 44), .int m_trials, .ref (a 45), .ref (a 46), .ref (a 47), .ref (a 48), .ref (a 49), .ref (a 50), .ref (a 51)])) → wJ[39]? = some (a 39, .inl (cI, 12, .inl x10)) → wJ[38]? = some (a 38, .inl (cI, 12, .inl x11)) → ∀ ls, lv_has ls 9 [(0, .ref (a 35)), (1, .int p1), (2, .int p2), (4, .int p4)] → FX9_ask_J76 m_pupil p1 p2 p4 x8 x9 x10 x11 x12 x13 x14 = some u → W p l e rm_X9_ask s m args below meth c HJ lJ 0 0 Q (F0 m 76 ls [.int x8]) := by
    intro x8 x9 x10 x11 x12 x13 x14 w H locs hP hD hS hs h35 h39 h38 ls hl hF
    have h37 := (hs 37 (by simp only [List.mem_cons, List.not_mem_nil, or_false, not_or]; omega)).trans z37
    unfold FX9_ask_J76 at hF
    refine lv_istore (lv' := [(6, .int x8), (0, .ref (a 35)), (1, .int p1), (2, .int p2), (4, .int p4)]) hx hb dX9_ask_76 hl (by decide) rfl (fun ls hl => ?_)
    refine lv_aload_n hx hb dX9_ask_78 rfl (lv_at hl 1 rfl) ?_
    refine lv_dup hx hb dX9_ask_79 rfl ?_
    refine gf_X9_104 hx hb hts hown hK hP h35 dX9_ask_80 ?_
    refine lv_iconst (v := (1 : Int32)) hx hb dX9_ask_83 (by decide) ?_
    refine lv_iadd hx hb dX9_ask_84 ?_
    refine pf_X9_104 hx hb hts hown hK hP hD hS h35 rfl rfl dX9_ask_85 (fun w15 H locs hP hD hk hc hS => ?_)
    have h35 : w15[35]? = some (a 35, .inr (9, [.ref (a 36), .int m_readMany, .ref (a 37), .int m_pupils, .ref (a 38), .ref (a 39), .int m_mood, .ref (a 40), .int m_length, .int m_at, .int m_faultAt, .ref (a 41), .ref (a 42), .long x14, .int (x9 + (1 : Int32)), .int x12, .int x13, .int m_tapes, .ref (a 43), .ref (a 44), .int m_trials, .ref (a 45), .ref (a 46), .ref (a 47), .ref (a 48), .ref (a 49), .ref (a 50), .ref (a 51)])) := hc
    have h37 := (hk 37 (by omega)).trans h37
    have h38 := (hk 38 (by omega)).trans h38
    have h39 := (hk 39 (by omega)).trans h39
    replace hs := sm_k hk (by simp) hs
    refine lv_iload hx hb dX9_ask_88 (lv_at hl 0 rfl) ?_
    refine lv_bipush (v := (-9 : Int32)) hx hb dX9_ask_90 (by decide) ?_
    refine lv_icmp_ne (tgt := 98) hx hb dX9_ask_92 (by decide) (fun c16 => ?_) (fun c16 => ?_)
    · replace hF := (if_neg c16).symm.trans hF
      refine lv_aload_n hx hb dX9_ask_98 rfl (lv_at hl 1 rfl) ?_
      refine gf_X9_19 hx hb hts hown hK hP h35 dX9_ask_99 ?_
      refine lv_iload hx hb dX9_ask_102 (lv_at hl 0 rfl) ?_
      refine lv_dup2_11 hx hb dX9_ask_104 rfl rfl ?_
      obtain ⟨hg17, hF⟩ := gd_some hF
      refine va_iald hx hb hK hP 39 0 h39 rfl hg17 dX9_ask_105 ?_
      refine lv_iconst (v := (1 : Int32)) hx hb dX9_ask_106 (by decide) ?_
      refine lv_iadd hx hb dX9_ask_107 ?_
      obtain ⟨hg18, hF⟩ := gd_some hF
      refine ast_i hx hb hK hP hD hS h39 hg18 dX9_ask_108 (fun w19 H locs hP hD hk hc hS => ?_)
      have h39 : w19[39]? = some (a 39, .inl (cI, 12, .inl (upd x10 x8.toNatClampNeg ((x10 x8.toNatClampNeg) + (1 : Int32))))) := hc
      have h35 := (hk 35 (by omega)).trans h35
      have h37 := (hk 37 (by omega)).trans h37
      have h38 := (hk 38 (by omega)).trans h38
      replace hs := sm_k hk (by simp) hs
      refine lv_iload_n hx hb dX9_ask_109 rfl (lv_at hl 2 rfl) ?_
      refine lv_iload hx hb dX9_ask_110 (lv_at hl 0 rfl) ?_
      refine lv_ishr hx hb dX9_ask_112 ?_
      refine lv_iconst (v := (1 : Int32)) hx hb dX9_ask_113 (by decide) ?_
      refine lv_iand hx hb dX9_ask_114 ?_
      refine lv_iconst (v := (1 : Int32)) hx hb dX9_ask_115 (by decide) ?_
      refine lv_icmp_ne (tgt := 139) hx hb dX9_ask_116 (by decide) (fun c20 => ?_) (fun c20 => ?_)
      · replace hF := (if_neg c20).symm.trans hF
        exact hJ139 x8 (x9 + (1 : Int32)) (upd x10 x8.toNatClampNeg ((x10 x8.toNatClampNeg) + (1 : Int32))) x11 x12 x13 x14 _ _ _ hP hD hS hs h35 h39 h38 ls (lv_sub hl [0, 1, 4] rfl) hF
      · replace hF := (if_pos c20).symm.trans hF
        refine lv_aload_n hx hb dX9_ask_119 rfl (lv_at hl 1 rfl) ?_
        refine gf_X9_13 hx hb hts hown hK hP h35 dX9_ask_120 ?_
        refine lv_bipush (v := (6 : Int32)) hx hb dX9_ask_123 (by decide) ?_
        refine lv_iload hx hb dX9_ask_125 (lv_at hl 0 rfl) ?_
        refine lv_imul hx hb dX9_ask_127 ?_
        refine lv_iconst (v := (3 : Int32)) hx hb dX9_ask_128 (by decide) ?_
        refine lv_iadd hx hb dX9_ask_129 ?_
        obtain ⟨hg86, hF⟩ := gd_some hF
        refine va_iald hx hb hK hP 37 0 h37 rfl hg86 dX9_ask_130 ?_
        refine lv_iload_n hx hb dX9_ask_131 rfl (lv_at hl 3 rfl) ?_
        refine lv_icmp_gt (tgt := 139) hx hb dX9_ask_132 (by decide) (fun c87 => ?_) (fun c87 => ?_)
        · replace hF := (if_pos c87).symm.trans hF
          exact hJ139 x8 (x9 + (1 : Int32)) (upd x10 x8.toNatClampNeg ((x10 x8.toNatClampNeg) + (1 : Int32))) x11 x12 x13 x14 _ _ _ hP hD hS hs h35 h39 h38 ls (lv_sub hl [0, 1, 4] rfl) hF
        · replace hF := (if_neg c87).symm.trans hF
          refine lv_iconst (v := (1 : Int32)) hx hb dX9_ask_135 (by decide) ?_
          refine lv_goto (tgt := 140) hx hb dX9_ask_136 (by decide) ?_
          exact hJ140 x8 (1 : Int32) (x9 + (1 : Int32)) (upd x10 x8.toNatClampNeg ((x10 x8.toNatClampNeg) + (1 : Int32))) x11 x12 x13 x14 _ _ _ hP hD hS hs h35 h39 h38 ls (lv_sub hl [0, 1, 4] rfl) hF
    · replace hF := (if_pos c16).symm.trans hF
      refine lv_bipush (v := (-9 : Int32)) hx hb dX9_ask_95 (by decide) ?_
      obtain rfl := Option.some.inj hF
      rw [hQ]
      exact rw_i X hS hP hD hs ⟨h35, h39, h38⟩ dX9_ask_97
  unfold FX9_ask at hF
  refine lv_iload_n hx hb dX9_ask_0 rfl (lv_at hl 3 rfl) ?_
  refine rd_i (runS (As := [.int p3]) (rest := []) X cq_X9_isRule lk_X9_164 (c_X9_isRule l D cI cJ cZ a ws0 p3 _ rfl ) rfl rfl ⟨Nat.le_of_ble_eq_true rfl, Nat.le_of_ble_eq_true rfl⟩ hP rfl hl.1 rfl (Nat.le_of_ble_eq_true rfl) dX9_ask_1 ⟨Nat.le_of_ble_eq_true rfl, Nat.le_of_ble_eq_true rfl⟩) ?_
  refine zf_ne (tgt := 9) hx hb dX9_ask_4 (by decide) (fun c1 => ?_) (fun c1 => ?_)
  · replace hF := (if_pos c1).symm.trans hF
    refine lv_aload_n hx hb dX9_ask_9 rfl (lv_at hl 0 rfl) ?_
    refine lv_iload_n hx hb dX9_ask_10 rfl (lv_at hl 1 rfl) ?_
    refine rd_i (runV (As := [.int p1]) (rest := []) X cq_X9_isKnown lk_X9_175 (c_X9_isKnown l D cI cJ cZ a ws0 m_readMany m_pupils m_mood m_length m_at m_faultAt m_drawn m_questions m_rights m_wrongs m_tapes m_trials p1 _ rfl h35) rfl rfl ⟨Nat.le_of_ble_eq_true rfl, Nat.le_of_ble_eq_true rfl⟩ hP h35 rfl rfl hl.1 rfl (Nat.le_of_ble_eq_true rfl) dX9_ask_11 ⟨Nat.le_of_ble_eq_true rfl, Nat.le_of_ble_eq_true rfl⟩) ?_
    refine zf_eq (tgt := 24) hx hb dX9_ask_14 (by decide) (fun c2 => ?_) (fun c2 => ?_)
    · replace hF := (if_neg c2).symm.trans hF
      refine lv_bipush (v := (-2 : Int32)) hx hb dX9_ask_24 (by decide) ?_
      obtain rfl := Option.some.inj hF
      rw [hQ]
      exact rw_i X hS hP hD hs ⟨h35, h39, h38⟩ dX9_ask_26
    · replace hF := (if_pos c2).symm.trans hF
      refine lv_iload_n hx hb dX9_ask_17 rfl (lv_at hl 2 rfl) ?_
      refine rd_i (runS (As := [.int p2]) (rest := []) X cq_X9_isWait lk_X9_121 (c_X9_isWait l D cI cJ cZ a ws0 p2 _ rfl ) rfl rfl ⟨Nat.le_of_ble_eq_true rfl, Nat.le_of_ble_eq_true rfl⟩ hP rfl hl.1 rfl (Nat.le_of_ble_eq_true rfl) dX9_ask_18 ⟨Nat.le_of_ble_eq_true rfl, Nat.le_of_ble_eq_true rfl⟩) ?_
      refine zf_ne (tgt := 27) hx hb dX9_ask_21 (by decide) (fun c3 => ?_) (fun c3 => ?_)
      · replace hF := (if_pos c3).symm.trans hF
        refine lv_aload_n hx hb dX9_ask_27 rfl (lv_at hl 0 rfl) ?_
        refine lv_iload_n hx hb dX9_ask_28 rfl (lv_at hl 1 rfl) ?_
        refine lv_iload_n hx hb dX9_ask_29 rfl (lv_at hl 2 rfl) ?_
        obtain ⟨x4, hx4, hF⟩ := bd_some hF
        refine rd_i (runV (As := [.int p1, .int p2]) (rest := []) X cq_X9_raisedOf lk_X9_178 (c_X9_raisedOf l D cI cJ cZ a ws0 m_readMany m_pupils m_mood m_length m_at m_faultAt m_drawn m_questions m_rights m_wrongs m_tapes m_trials m_pupil m_dares p1 p2 x4 hx4 h35 h37 h38) rfl rfl ⟨Nat.le_of_ble_eq_true rfl, Nat.le_of_ble_eq_true rfl⟩ hP h35 rfl rfl hl.1 rfl (Nat.le_of_ble_eq_true rfl) dX9_ask_30 ⟨Nat.le_of_ble_eq_true rfl, Nat.le_of_ble_eq_true rfl⟩) ?_
        refine lv_istore (lv' := [(5, .int x4), (0, .ref (a 35)), (1, .int p1), (2, .int p2), (3, .int p3), (4, .int p4)]) hx hb dX9_ask_33 hl (by decide) rfl (fun ls hl => ?_)
        refine lv_iload_n hx hb dX9_ask_35 rfl (lv_at hl 4 rfl) ?_
        refine lv_iconst (v := (2 : Int32)) hx hb dX9_ask_36 (by decide) ?_
        refine lv_icmp_ne (tgt := 49) hx hb dX9_ask_37 (by decide) (fun c5 => ?_) (fun c5 => ?_)
        · replace hF := (if_neg c5).symm.trans hF
          refine lv_iload_n hx hb dX9_ask_49 rfl (lv_at hl 4 rfl) ?_
          refine lv_iconst (v := (3 : Int32)) hx hb dX9_ask_50 (by decide) ?_
          refine lv_icmp_ne (tgt := 69) hx hb dX9_ask_51 (by decide) (fun c6 => ?_) (fun c6 => ?_)
          · replace hF := (if_neg c6).symm.trans hF
            refine lv_aload_n hx hb dX9_ask_69 rfl (lv_at hl 1 rfl) ?_
            refine lv_iload hx hb dX9_ask_70 (lv_at hl 0 rfl) ?_
            refine lv_iload_n hx hb dX9_ask_72 rfl (lv_at hl 4 rfl) ?_
            obtain ⟨x7, hx7, hF⟩ := bd_some hF
            refine rd_i (runV (As := [.int x4, .int p3]) (rest := []) X cq_X9_takes lk_X9_191 (c_X9_takes l D cI cJ cZ a ws0 m_readMany m_pupils m_mood m_length m_at m_faultAt m_drawn m_questions m_rights m_wrongs m_tapes m_trials m_pupil m_times x4 p3 x7 hx7 h35 h37 h39) rfl rfl ⟨Nat.le_of_ble_eq_true rfl, Nat.le_of_ble_eq_true rfl⟩ hP h35 rfl rfl hl.1 rfl (Nat.le_of_ble_eq_true rfl) dX9_ask_73 ⟨Nat.le_of_ble_eq_true rfl, Nat.le_of_ble_eq_true rfl⟩) ?_
            exact hJ76 x7 m_questions m_times m_dares m_rights m_wrongs m_drawn _ _ _ hP hD hS hs h35 h39 h38 ls (lv_sub hl [1, 2, 3, 5] rfl) hF
          · replace hF := (if_pos c6).symm.trans hF
            refine lv_aload_n hx hb dX9_ask_54 rfl (lv_at hl 1 rfl) ?_
            refine lv_iconst (v := (1 : Int32)) hx hb dX9_ask_55 (by decide) ?_
            refine lv_aload_n hx hb dX9_ask_56 rfl (lv_at hl 1 rfl) ?_
            refine gf_X9_97 hx hb hts hown hK hP h35 dX9_ask_57 ?_
            refine lv_ishl hx hb dX9_ask_60 ?_
            refine lv_iconst (v := (1 : Int32)) hx hb dX9_ask_61 (by decide) ?_
            refine lv_isub hx hb dX9_ask_62 ?_
            obtain ⟨u88, hu88, hF⟩ := bd_some hF
            refine wr_i (runV (As := [.int (((1 : Int32) <<< (m_pupils &&& 31)) - (1 : Int32))]) (rest := []) X cq_X9_drawOf lk_X9_188 (c_X9_drawOf l D cI cJ cZ a ws0 A m_readMany m_pupils m_mood m_length m_at m_faultAt m_drawn m_questions m_rights m_wrongs m_tapes m_trials (((1 : Int32) <<< (m_pupils &&& 31)) - (1 : Int32)) u88 hu88 h35 hD) rfl rfl ⟨Nat.le_of_ble_eq_true rfl, Nat.le_of_ble_eq_true rfl⟩ hP h35 rfl rfl hl.1 rfl (Nat.le_of_ble_eq_true rfl) dX9_ask_63 ⟨Nat.le_of_ble_eq_true rfl, Nat.le_of_ble_eq_true rfl⟩) hS (fun w89 H locs hP hD hk hB hS => ?_)
            have h35 : w89[35]? = some (a 35, .inr (9, [.ref (a 36), .int m_readMany, .ref (a 37), .int m_pupils, .ref (a 38), .ref (a 39), .int m_mood, .ref (a 40), .int m_length, .int m_at, .int m_faultAt, .ref (a 41), .ref (a 42), .long u88.2, .int m_questions, .int m_rights, .int m_wrongs, .int m_tapes, .ref (a 43), .ref (a 44), .int m_trials, .ref (a 45), .ref (a 46), .ref (a 47), .ref (a 48), .ref (a 49), .ref (a 50), .ref (a 51)])) := hB
            have h37 := (hk 37 (by simp only [List.mem_cons, List.not_mem_nil, or_false, not_or]; omega)).trans h37
            have h38 := (hk 38 (by simp only [List.mem_cons, List.not_mem_nil, or_false, not_or]; omega)).trans h38
            have h39 := (hk 39 (by simp only [List.mem_cons, List.not_mem_nil, or_false, not_or]; omega)).trans h39
            replace hs := st_tr hk (fun j hj => by simp only [List.mem_cons, List.not_mem_nil, or_false] at hj ⊢; omega) hs
            refine lv_goto (tgt := 76) hx hb dX9_ask_66 (by decide) ?_
            exact hJ76 u88.1 m_questions m_times m_dares m_rights m_wrongs u88.2 _ _ _ hP hD hS hs h35 h39 h38 ls (lv_sub hl [1, 2, 3, 5] rfl) hF
        · replace hF := (if_pos c5).symm.trans hF
          refine lv_aload_n hx hb dX9_ask_40 rfl (lv_at hl 1 rfl) ?_
          refine lv_iload hx hb dX9_ask_41 (lv_at hl 0 rfl) ?_
          obtain ⟨u90, hu90, hF⟩ := bd_some hF
          refine wr_i (runV (As := [.int x4]) (rest := []) X cq_X9_drawOf lk_X9_188 (c_X9_drawOf l D cI cJ cZ a ws0 A m_readMany m_pupils m_mood m_length m_at m_faultAt m_drawn m_questions m_rights m_wrongs m_tapes m_trials x4 u90 hu90 h35 hD) rfl rfl ⟨Nat.le_of_ble_eq_true rfl, Nat.le_of_ble_eq_true rfl⟩ hP h35 rfl rfl hl.1 rfl (Nat.le_of_ble_eq_true rfl) dX9_ask_43 ⟨Nat.le_of_ble_eq_true rfl, Nat.le_of_ble_eq_true rfl⟩) hS (fun w91 H locs hP hD hk hB hS => ?_)
          have h35 : w91[35]? = some (a 35, .inr (9, [.ref (a 36), .int m_readMany, .ref (a 37), .int m_pupils, .ref (a 38), .ref (a 39), .int m_mood, .ref (a 40), .int m_length, .int m_at, .int m_faultAt, .ref (a 41), .ref (a 42), .long u90.2, .int m_questions, .int m_rights, .int m_wrongs, .int m_tapes, .ref (a 43), .ref (a 44), .int m_trials, .ref (a 45), .ref (a 46), .ref (a 47), .ref (a 48), .ref (a 49), .ref (a 50), .ref (a 51)])) := hB
          have h37 := (hk 37 (by simp only [List.mem_cons, List.not_mem_nil, or_false, not_or]; omega)).trans h37
          have h38 := (hk 38 (by simp only [List.mem_cons, List.not_mem_nil, or_false, not_or]; omega)).trans h38
          have h39 := (hk 39 (by simp only [List.mem_cons, List.not_mem_nil, or_false, not_or]; omega)).trans h39
          replace hs := st_tr hk (fun j hj => by simp only [List.mem_cons, List.not_mem_nil, or_false] at hj ⊢; omega) hs
          refine lv_goto (tgt := 76) hx hb dX9_ask_46 (by decide) ?_
          exact hJ76 u90.1 m_questions m_times m_dares m_rights m_wrongs u90.2 _ _ _ hP hD hS hs h35 h39 h38 ls (lv_sub hl [1, 2, 3, 5] rfl) hF
      · replace hF := (if_neg c3).symm.trans hF
        refine lv_bipush (v := (-2 : Int32)) hx hb dX9_ask_24 (by decide) ?_
        obtain rfl := Option.some.inj hF
        rw [hQ]
        exact rw_i X hS hP hD hs ⟨h35, h39, h38⟩ dX9_ask_26
  · replace hF := (if_neg c1).symm.trans hF
    refine lv_iconst (v := (-1 : Int32)) hx hb dX9_ask_7 (by decide) ?_
    obtain rfl := Option.some.inj hF
    rw [hQ]
    exact rw_i X hS hP hD hs ⟨h35, h39, h38⟩ dX9_ask_8
def FX9_lesson_J32L7 (m_times : Nat → Int32) (x7 : Int32) (x8 : Int32) (x9 : Int32) (x10 : Int32) : Option ((Int32 × Int32 × Int32) ⊕ (Int32 × Int32)) :=
  if x7 < 0 ∨ 12 ≤ x7.toNatClampNeg then none else if (m_times x7.toNatClampNeg) ≤ x8 then (some (.inl (x9 + x10, x8, x7 + (1 : Int32)))) else (if x7 < 0 ∨ 12 ≤ x7.toNatClampNeg then none else some (.inl (x9 + x10, m_times x7.toNatClampNeg, x7 + (1 : Int32))))
def FX9_lesson_S7 (m_pupils : Int32) (m_times : Nat → Int32) (x1 : Int32) (x2 : Int32) (x3 : Int32) : Option ((Int32 × Int32 × Int32) ⊕ (Int32 × Int32)) :=
  if m_pupils ≤ x3 then (some (.inr (x1, x2))) else (if x3 < 0 ∨ 12 ≤ x3.toNatClampNeg then none else if (m_times x3.toNatClampNeg) = 0 then (FX9_lesson_J32L7 m_times x3 x2 x1 (1 : Int32)) else (FX9_lesson_J32L7 m_times x3 x2 x1 (0 : Int32)))
def FX9_lesson (m_pupils : Int32) (m_questions : Int32) (m_rights : Int32) (m_wrongs : Int32) (m_times : Nat → Int32) (p1 : Int32) : Option (Int32) :=
  (itr (fun v => FX9_lesson_S7 m_pupils m_times v.1 v.2.1 v.2.2) fu ((0 : Int32), (0 : Int32), (0 : Int32))).bind fun o14 => if p1 = (0 : Int32) then (some m_questions) else if p1 = (1 : Int32) then (some m_rights) else if p1 = (2 : Int32) then (some m_wrongs) else if p1 = (3 : Int32) then (some ((m_questions - m_rights) - m_wrongs)) else if p1 = (4 : Int32) then (some o14.1) else if p1 = (5 : Int32) then (some o14.2) else some (-2 : Int32)
def rm_X9_lesson : Room := { frames := 0, cells := 0, slots := 0, locals := 0 }
set_option maxHeartbeats 4000000 in
set_option maxRecDepth 100000 in
theorem c_X9_lesson (l : Launch) (D : va_G) (cI cJ cZ : ClassId) (a : Nat → Nat) (ws0 : va_W)  (m_readMany : Int32) (m_pupils : Int32) (m_mood : Int32) (m_length : Int32) (m_at : Int32) (m_faultAt : Int32) (m_drawn : Int64) (m_questions : Int32) (m_rights : Int32) (m_wrongs : Int32) (m_tapes : Int32) (m_trials : Int32) (m_times : Nat → Int32) (p1 : Int32) (u : Int32) (hF : FX9_lesson m_pupils m_questions m_rights m_wrongs m_times p1 = some u) (h35 : ws0[35]? = some (a 35, .inr (9, [.ref (a 36), .int m_readMany, .ref (a 37), .int m_pupils, .ref (a 38), .ref (a 39), .int m_mood, .ref (a 40), .int m_length, .int m_at, .int m_faultAt, .ref (a 41), .ref (a 42), .long m_drawn, .int m_questions, .int m_rights, .int m_wrongs, .int m_tapes, .ref (a 43), .ref (a 44), .int m_trials, .ref (a 45), .ref (a 46), .ref (a 47), .ref (a 48), .ref (a 49), .ref (a 50), .ref (a 51)]))) (h39 : ws0[39]? = some (a 39, .inl (cI, 12, .inl m_times))) : Met l yX9_lesson (wq yX9_lesson cX9_lesson 5 (some .int)) rm_X9_lesson (Pq [.ref (a 35), .int p1] D cI cJ cZ ws0) (Qq (some (.int u))) 0 0 (fun _ => False) := by
  refine mq_of (by decide) (Nat.le_of_ble_eq_true rfl) (fun p e s m args below meth c ls Q hQ X _ hP hl => ?_)
  obtain ⟨hx, hb, hr, hml, hown, hts, hlk, hK, hN⟩ := id X
  have hown : s.vm.findClass RX9 = some m.cls := hown
  have hl : lv_has ls 5 [(0, .ref (a 35)), (1, .int p1)] := hl
  unfold FX9_lesson at hF
  refine lv_iconst (v := (0 : Int32)) hx hb dX9_lesson_0 (by decide) ?_
  refine lv_istore_n (lv' := [(2, .int (0 : Int32)), (0, .ref (a 35)), (1, .int p1)]) hx hb dX9_lesson_1 rfl hl (by decide) rfl (fun ls hl => ?_)
  refine lv_iconst (v := (0 : Int32)) hx hb dX9_lesson_2 (by decide) ?_
  refine lv_istore_n (lv' := [(3, .int (0 : Int32)), (2, .int (0 : Int32)), (0, .ref (a 35)), (1, .int p1)]) hx hb dX9_lesson_3 rfl hl (by decide) rfl (fun ls hl => ?_)
  refine lv_iconst (v := (0 : Int32)) hx hb dX9_lesson_4 (by decide) ?_
  refine lv_istore (lv' := [(4, .int (0 : Int32)), (3, .int (0 : Int32)), (2, .int (0 : Int32)), (0, .ref (a 35)), (1, .int p1)]) hx hb dX9_lesson_5 hl (by decide) rfl (fun ls hl => ?_)
  have hL7 : ∀ (nf : Nat) (x1 : Int32) (x2 : Int32) (x3 : Int32) (r : Int32 × Int32), itr (fun v => FX9_lesson_S7 m_pupils m_times v.1 v.2.1 v.2.2) nf (x1, x2, x3) = some r → ∀ ls, lv_has ls 5 [(4, .int x3), (3, .int x2), (2, .int x1), (0, .ref (a 35)), (1, .int p1)] → (∀ o : Int32 × Int32, r = o → ∀ ls, lv_has ls 5 [(3, .int o.2), (2, .int o.1), (0, .ref (a 35)), (1, .int p1)] → W p l e rm_X9_lesson s m args below meth c s.heap [] 0 0 Q (F0 m 63 ls [])) → W p l e rm_X9_lesson s m args below meth c s.heap [] 0 0 Q (F0 m 7 ls []) := by
    intro nf
    induction nf with
    | zero => intro _ _ _ r hF; exact (itr_0 hF).elim
    | succ nf ih =>
      intro x1 x2 x3 r hF ls hl hE
      obtain ⟨wo, hF, hw⟩ := itr_s hF
      replace hF : FX9_lesson_S7 m_pupils m_times x1 x2 x3 = some wo := hF
      have hJ32 : ∀ (x7 : Int32) (x8 : Int32) (x9 : Int32) (x10 : Int32), ∀ ls, lv_has ls 5 [(4, .int x7), (3, .int x8), (0, .ref (a 35)), (1, .int p1)] → FX9_lesson_J32L7 m_times x7 x8 x9 x10 = some wo → W p l e rm_X9_lesson s m args below meth c s.heap [] 0 0 Q (F0 m 32 ls [.int x10, .int x9]) := by
        intro x7 x8 x9 x10 ls hl hF
        unfold FX9_lesson_J32L7 at hF
        refine lv_iadd hx hb dX9_lesson_32 ?_
        refine lv_istore_n (lv' := [(2, .int (x9 + x10)), (4, .int x7), (3, .int x8), (0, .ref (a 35)), (1, .int p1)]) hx hb dX9_lesson_33 rfl hl (by decide) rfl (fun ls hl => ?_)
        refine lv_aload_n hx hb dX9_lesson_34 rfl (lv_at hl 3 rfl) ?_
        refine gf_X9_19 hx hb hts hown hK hP h35 dX9_lesson_35 ?_
        refine lv_iload hx hb dX9_lesson_38 (lv_at hl 1 rfl) ?_
        obtain ⟨hg11, hF⟩ := gd_some hF
        refine va_iald hx hb hK hP 39 0 h39 rfl hg11 dX9_lesson_40 ?_
        refine lv_iload_n hx hb dX9_lesson_41 rfl (lv_at hl 2 rfl) ?_
        refine lv_icmp_le (tgt := 55) hx hb dX9_lesson_42 (by decide) (fun c12 => ?_) (fun c12 => ?_)
        · replace hF := (if_pos c12).symm.trans hF
          refine lv_iload_n hx hb dX9_lesson_55 rfl (lv_at hl 2 rfl) ?_
          refine lv_istore_n (lv' := [(3, .int x8), (2, .int (x9 + x10)), (4, .int x7), (0, .ref (a 35)), (1, .int p1)]) hx hb dX9_lesson_56 rfl hl (by decide) rfl (fun ls hl => ?_)
          refine lv_iinc (v := x7 + (1 : Int32)) (lv' := [(4, .int (x7 + (1 : Int32))), (3, .int x8), (2, .int (x9 + x10)), (0, .ref (a 35)), (1, .int p1)]) hx hb dX9_lesson_57 hl (k := 2) rfl rfl (by decide) rfl (fun ls hl => ?_)
          refine lv_goto (tgt := 7) hx hb dX9_lesson_60 (by decide) ?_
          obtain rfl := Option.some.inj hF
          exact ih _ _ _ _ hw ls (lv_sub hl [0, 1, 2, 3, 4] rfl) hE
        · replace hF := (if_neg c12).symm.trans hF
          refine lv_aload_n hx hb dX9_lesson_45 rfl (lv_at hl 3 rfl) ?_
          refine gf_X9_19 hx hb hts hown hK hP h35 dX9_lesson_46 ?_
          refine lv_iload hx hb dX9_lesson_49 (lv_at hl 1 rfl) ?_
          obtain ⟨hg13, hF⟩ := gd_some hF
          refine va_iald hx hb hK hP 39 0 h39 rfl hg13 dX9_lesson_51 ?_
          refine lv_goto (tgt := 56) hx hb dX9_lesson_52 (by decide) ?_
          refine lv_istore_n (lv' := [(3, .int (m_times x7.toNatClampNeg)), (2, .int (x9 + x10)), (4, .int x7), (0, .ref (a 35)), (1, .int p1)]) hx hb dX9_lesson_56 rfl hl (by decide) rfl (fun ls hl => ?_)
          refine lv_iinc (v := x7 + (1 : Int32)) (lv' := [(4, .int (x7 + (1 : Int32))), (3, .int (m_times x7.toNatClampNeg)), (2, .int (x9 + x10)), (0, .ref (a 35)), (1, .int p1)]) hx hb dX9_lesson_57 hl (k := 2) rfl rfl (by decide) rfl (fun ls hl => ?_)
          refine lv_goto (tgt := 7) hx hb dX9_lesson_60 (by decide) ?_
          obtain rfl := Option.some.inj hF
          exact ih _ _ _ _ hw ls (lv_sub hl [0, 1, 2, 3, 4] rfl) hE
      unfold FX9_lesson_S7 at hF
      refine lv_iload hx hb dX9_lesson_7 (lv_at hl 0 rfl) ?_
      refine lv_aload_n hx hb dX9_lesson_9 rfl (lv_at hl 3 rfl) ?_
      refine gf_X9_97 hx hb hts hown hK hP h35 dX9_lesson_10 ?_
      refine lv_icmp_ge (tgt := 63) hx hb dX9_lesson_13 (by decide) (fun c4 => ?_) (fun c4 => ?_)
      · replace hF := (if_pos c4).symm.trans hF
        obtain rfl := Option.some.inj hF
        obtain rfl := hw
        exact hE _ rfl ls (lv_sub hl [1, 2, 3, 4] rfl)
      · replace hF := (if_neg c4).symm.trans hF
        refine lv_iload_n hx hb dX9_lesson_16 rfl (lv_at hl 2 rfl) ?_
        refine lv_aload_n hx hb dX9_lesson_17 rfl (lv_at hl 3 rfl) ?_
        refine gf_X9_19 hx hb hts hown hK hP h35 dX9_lesson_18 ?_
        refine lv_iload hx hb dX9_lesson_21 (lv_at hl 0 rfl) ?_
        obtain ⟨hg5, hF⟩ := gd_some hF
        refine va_iald hx hb hK hP 39 0 h39 rfl hg5 dX9_lesson_23 ?_
        refine lv_if_ne (tgt := 31) hx hb dX9_lesson_24 (by decide) (fun c6 => ?_) (fun c6 => ?_)
        · replace hF := (if_neg c6).symm.trans hF
          refine lv_iconst (v := (0 : Int32)) hx hb dX9_lesson_31 (by decide) ?_
          exact hJ32 x3 x2 x1 (0 : Int32) ls (lv_sub hl [0, 1, 3, 4] rfl) hF
        · replace hF := (if_pos c6).symm.trans hF
          refine lv_iconst (v := (1 : Int32)) hx hb dX9_lesson_27 (by decide) ?_
          refine lv_goto (tgt := 32) hx hb dX9_lesson_28 (by decide) ?_
          exact hJ32 x3 x2 x1 (1 : Int32) ls (lv_sub hl [0, 1, 3, 4] rfl) hF
  obtain ⟨o14, ho14, hF⟩ := bd_some hF
  refine hL7 fu (0 : Int32) (0 : Int32) (0 : Int32) o14 ho14 ls (lv_sub hl [0, 1, 2, 3, 4] rfl) ?_
  intro _ q_o14 ls hl
  subst q_o14
  refine lv_iload_n hx hb dX9_lesson_63 rfl (lv_at hl 3 rfl) ?_
  by_cases c15 : p1 = (0 : Int32)
  · replace hF := (if_pos c15).symm.trans hF
    refine lv_tableIn (tgt := 104) (off := 40) hx hb dX9_lesson_64 (by rw [c15]; decide) (by rw [c15]; decide) (by rw [c15]; rfl) (by decide) ?_
    refine lv_aload_n hx hb dX9_lesson_104 rfl (lv_at hl 2 rfl) ?_
    refine gf_X9_104 hx hb hts hown hK hP h35 dX9_lesson_105 ?_
    obtain rfl := Option.some.inj hF
    rw [hQ]
    exact rt_i X dX9_lesson_108
  replace hF := (if_neg c15).symm.trans hF
  by_cases c16 : p1 = (1 : Int32)
  · replace hF := (if_pos c16).symm.trans hF
    refine lv_tableIn (tgt := 109) (off := 45) hx hb dX9_lesson_64 (by rw [c16]; decide) (by rw [c16]; decide) (by rw [c16]; rfl) (by decide) ?_
    refine lv_aload_n hx hb dX9_lesson_109 rfl (lv_at hl 2 rfl) ?_
    refine gf_X9_107 hx hb hts hown hK hP h35 dX9_lesson_110 ?_
    obtain rfl := Option.some.inj hF
    rw [hQ]
    exact rt_i X dX9_lesson_113
  replace hF := (if_neg c16).symm.trans hF
  by_cases c17 : p1 = (2 : Int32)
  · replace hF := (if_pos c17).symm.trans hF
    refine lv_tableIn (tgt := 114) (off := 50) hx hb dX9_lesson_64 (by rw [c17]; decide) (by rw [c17]; decide) (by rw [c17]; rfl) (by decide) ?_
    refine lv_aload_n hx hb dX9_lesson_114 rfl (lv_at hl 2 rfl) ?_
    refine gf_X9_110 hx hb hts hown hK hP h35 dX9_lesson_115 ?_
    obtain rfl := Option.some.inj hF
    rw [hQ]
    exact rt_i X dX9_lesson_118
  replace hF := (if_neg c17).symm.trans hF
  by_cases c18 : p1 = (3 : Int32)
  · replace hF := (if_pos c18).symm.trans hF
    refine lv_tableIn (tgt := 119) (off := 55) hx hb dX9_lesson_64 (by rw [c18]; decide) (by rw [c18]; decide) (by rw [c18]; rfl) (by decide) ?_
    refine lv_aload_n hx hb dX9_lesson_119 rfl (lv_at hl 2 rfl) ?_
    refine gf_X9_104 hx hb hts hown hK hP h35 dX9_lesson_120 ?_
    refine lv_aload_n hx hb dX9_lesson_123 rfl (lv_at hl 2 rfl) ?_
    refine gf_X9_107 hx hb hts hown hK hP h35 dX9_lesson_124 ?_
    refine lv_isub hx hb dX9_lesson_127 ?_
    refine lv_aload_n hx hb dX9_lesson_128 rfl (lv_at hl 2 rfl) ?_
    refine gf_X9_110 hx hb hts hown hK hP h35 dX9_lesson_129 ?_
    refine lv_isub hx hb dX9_lesson_132 ?_
    obtain rfl := Option.some.inj hF
    rw [hQ]
    exact rt_i X dX9_lesson_133
  replace hF := (if_neg c18).symm.trans hF
  by_cases c19 : p1 = (4 : Int32)
  · replace hF := (if_pos c19).symm.trans hF
    refine lv_tableIn (tgt := 134) (off := 70) hx hb dX9_lesson_64 (by rw [c19]; decide) (by rw [c19]; decide) (by rw [c19]; rfl) (by decide) ?_
    refine lv_iload_n hx hb dX9_lesson_134 rfl (lv_at hl 1 rfl) ?_
    obtain rfl := Option.some.inj hF
    rw [hQ]
    exact rt_i X dX9_lesson_135
  replace hF := (if_neg c19).symm.trans hF
  by_cases c20 : p1 = (5 : Int32)
  · replace hF := (if_pos c20).symm.trans hF
    refine lv_tableIn (tgt := 136) (off := 72) hx hb dX9_lesson_64 (by rw [c20]; decide) (by rw [c20]; decide) (by rw [c20]; rfl) (by decide) ?_
    refine lv_iload_n hx hb dX9_lesson_136 rfl (lv_at hl 0 rfl) ?_
    obtain rfl := Option.some.inj hF
    rw [hQ]
    exact rt_i X dX9_lesson_137
  replace hF := (if_neg c20).symm.trans hF
  have zc15 : ¬ p1.toInt = 0 := fun q => c15 (Int32.toInt_inj.mp (q.trans (by decide)))
  have zc16 : ¬ p1.toInt = 1 := fun q => c16 (Int32.toInt_inj.mp (q.trans (by decide)))
  have zc17 : ¬ p1.toInt = 2 := fun q => c17 (Int32.toInt_inj.mp (q.trans (by decide)))
  have zc18 : ¬ p1.toInt = 3 := fun q => c18 (Int32.toInt_inj.mp (q.trans (by decide)))
  have zc19 : ¬ p1.toInt = 4 := fun q => c19 (Int32.toInt_inj.mp (q.trans (by decide)))
  have zc20 : ¬ p1.toInt = 5 := fun q => c20 (Int32.toInt_inj.mp (q.trans (by decide)))
  refine lv_tableOut (tgt := 138) hx hb dX9_lesson_64 (by omega) (by decide) ?_
  refine lv_bipush (v := (-2 : Int32)) hx hb dX9_lesson_138 (by decide) ?_
  obtain rfl := Option.some.inj hF
  rw [hQ]
  exact rt_i X dX9_lesson_140
def FX9_isGroup (p1 : Int32) : Bool :=
  FX9_in p1.toInt64 (0 : Int64) (4095 : Int64)
def rm_X9_isGroup : Room := { frames := 1, cells := 0, slots := 0, locals := 25 }
set_option maxHeartbeats 4000000 in
set_option maxRecDepth 100000 in
theorem c_X9_isGroup (l : Launch) (D : va_G) (cI cJ cZ : ClassId) (a : Nat → Nat) (ws0 : va_W)   (p1 : Int32) (u : Bool) (hF : FX9_isGroup p1 = u) : Met l yX9_isGroup (wq yX9_isGroup cX9_isGroup 1 (some .boolean)) rm_X9_isGroup (Pq [.int p1] D cI cJ cZ ws0) (Qq (some (.int (bi u)))) 0 0 (fun _ => False) := by
  refine mq_of (by decide) (Nat.le_of_ble_eq_true rfl) (fun p e s m args below meth c ls Q hQ X _ hP hl => ?_)
  obtain ⟨hx, hb, hr, hml, hown, hts, hlk, hK, hN⟩ := id X
  have hown : s.vm.findClass RX9 = some m.cls := hown
  have hl : lv_has ls 1 [(0, .int p1)] := hl
  unfold FX9_isGroup at hF
  refine lv_iload_n hx hb dX9_isGroup_0 rfl (lv_at hl 0 rfl) ?_
  refine lv_i2l hx hb dX9_isGroup_1 rfl ?_
  refine lv_lconst (v := (0 : Int64)) hx hb dX9_isGroup_2 (by decide) ?_
  refine lv_ldc2 (v := (4095 : Int64)) hx hb hown (hts _ kl_X9_194) dX9_isGroup_3 ?_
  refine rd_i (runS (As := [.long p1.toInt64, .long (0 : Int64), .long (4095 : Int64)]) (rest := []) X cq_X9_in lk_X9_66 (c_X9_in l D cI cJ cZ a ws0 p1.toInt64 (0 : Int64) (4095 : Int64) _ rfl ) rfl rfl ⟨Nat.le_of_ble_eq_true rfl, Nat.le_of_ble_eq_true rfl⟩ hP rfl hl.1 rfl (Nat.le_of_ble_eq_true rfl) dX9_isGroup_6 ⟨Nat.le_of_ble_eq_true rfl, Nat.le_of_ble_eq_true rfl⟩) ?_
  subst hF
  rw [hQ]
  exact rt_z (b := FX9_in p1.toInt64 (0 : Int64) (4095 : Int64)) X dX9_isGroup_9
def FX9_tape (m_tapes : Int32) (m_tapeHands : Nat → Int32) (m_tapeTaken : Nat → Int32) (p1 : Int32) (p2 : Int32) : Option (Int32 × (Nat → Int32) × (Nat → Int32) × Int32) :=
  if (FX9_in p1.toInt64 (1 : Int64) (4095 : Int64)) = true then (if (FX9_in p2.toInt64 (0 : Int64) (11 : Int64)) = true then (if ((p1 >>> (p2 &&& 31)) &&& (1 : Int32)) = 0 then (some ((-2 : Int32), m_tapeHands, m_tapeTaken, m_tapes)) else (if m_tapes = (12 : Int32) then (some ((-4 : Int32), m_tapeHands, m_tapeTaken, m_tapes)) else (if m_tapes < 0 ∨ 12 ≤ m_tapes.toNatClampNeg then none else if m_tapes < 0 ∨ 12 ≤ m_tapes.toNatClampNeg then none else some (m_tapes + (1 : Int32), upd m_tapeHands m_tapes.toNatClampNeg p1, upd m_tapeTaken m_tapes.toNatClampNeg p2, m_tapes + (1 : Int32))))) else (some ((-2 : Int32), m_tapeHands, m_tapeTaken, m_tapes))) else (some ((-2 : Int32), m_tapeHands, m_tapeTaken, m_tapes))
def rm_X9_tape : Room := { frames := 1, cells := 0, slots := 0, locals := 25 }
set_option maxHeartbeats 4000000 in
set_option maxRecDepth 100000 in
theorem c_X9_tape (l : Launch) (D : va_G) (cI cJ cZ : ClassId) (a : Nat → Nat) (ws0 : va_W) (A : Nat → Prop)  (m_readMany : Int32) (m_pupils : Int32) (m_mood : Int32) (m_length : Int32) (m_at : Int32) (m_faultAt : Int32) (m_drawn : Int64) (m_questions : Int32) (m_rights : Int32) (m_wrongs : Int32) (m_tapes : Int32) (m_trials : Int32) (m_tapeHands : Nat → Int32) (m_tapeTaken : Nat → Int32) (p1 : Int32) (p2 : Int32) (u : Int32 × (Nat → Int32) × (Nat → Int32) × Int32) (hF : FX9_tape m_tapes m_tapeHands m_tapeTaken p1 p2 = some u) (z35 : ws0[35]? = some (a 35, .inr (9, [.ref (a 36), .int m_readMany, .ref (a 37), .int m_pupils, .ref (a 38), .ref (a 39), .int m_mood, .ref (a 40), .int m_length, .int m_at, .int m_faultAt, .ref (a 41), .ref (a 42), .long m_drawn, .int m_questions, .int m_rights, .int m_wrongs, .int m_tapes, .ref (a 43), .ref (a 44), .int m_trials, .ref (a 45), .ref (a 46), .ref (a 47), .ref (a 48), .ref (a 49), .ref (a 50), .ref (a 51)]))) (z43 : ws0[43]? = some (a 43, .inl (cI, 12, .inl m_tapeHands))) (z44 : ws0[44]? = some (a 44, .inl (cI, 12, .inl m_tapeTaken))) (hD : va_D A ws0) : Met l yX9_tape (wq yX9_tape cX9_tape 3 (some .int)) rm_X9_tape (Pq [.ref (a 35), .int p1, .int p2] D cI cJ cZ ws0) (Qw D A ws0 [43, 44, 35] (some (.int u.1)) (fun w => w[43]? = some (a 43, .inl (cI, 12, .inl u.2.1)) ∧ w[44]? = some (a 44, .inl (cI, 12, .inl u.2.2.1)) ∧ w[35]? = some (a 35, .inr (9, [.ref (a 36), .int m_readMany, .ref (a 37), .int m_pupils, .ref (a 38), .ref (a 39), .int m_mood, .ref (a 40), .int m_length, .int m_at, .int m_faultAt, .ref (a 41), .ref (a 42), .long m_drawn, .int m_questions, .int m_rights, .int m_wrongs, .int u.2.2.2, .ref (a 43), .ref (a 44), .int m_trials, .ref (a 45), .ref (a 46), .ref (a 47), .ref (a 48), .ref (a 49), .ref (a 50), .ref (a 51)])))) 0 0 A := by
  refine mq_of (by decide) (Nat.le_of_ble_eq_true rfl) (fun p e s m args below meth c ls Q hQ X _ hP hl => ?_)
  obtain ⟨hx, hb, hr, hml, hown, hts, hlk, hK, hN⟩ := id X
  have hown : s.vm.findClass RX9 = some m.cls := hown
  have hl : lv_has ls 3 [(0, .ref (a 35)), (1, .int p1), (2, .int p2)] := hl
  have hS : va_S A s.heap s.heap [] := va_S.rf
  have hs : ∀ j : Nat, j ∉ [43, 44, 35] → ws0[j]? = ws0[j]? := fun _ _ => rfl
  have h35 := z35
  have h43 := z43
  have h44 := z44
  unfold FX9_tape at hF
  refine lv_iload_n hx hb dX9_tape_0 rfl (lv_at hl 1 rfl) ?_
  refine lv_i2l hx hb dX9_tape_1 rfl ?_
  refine lv_lconst (v := (1 : Int64)) hx hb dX9_tape_2 (by decide) ?_
  refine lv_ldc2 (v := (4095 : Int64)) hx hb hown (hts _ kl_X9_194) dX9_tape_3 ?_
  refine rd_i (runS (As := [.long p1.toInt64, .long (1 : Int64), .long (4095 : Int64)]) (rest := []) X cq_X9_in lk_X9_66 (c_X9_in l D cI cJ cZ a ws0 p1.toInt64 (1 : Int64) (4095 : Int64) _ rfl ) rfl rfl ⟨Nat.le_of_ble_eq_true rfl, Nat.le_of_ble_eq_true rfl⟩ hP rfl hl.1 rfl (Nat.le_of_ble_eq_true rfl) dX9_tape_6 ⟨Nat.le_of_ble_eq_true rfl, Nat.le_of_ble_eq_true rfl⟩) ?_
  refine zf_eq (tgt := 32) hx hb dX9_tape_9 (by decide) (fun c1 => ?_) (fun c1 => ?_)
  · replace hF := (if_neg c1).symm.trans hF
    refine lv_bipush (v := (-2 : Int32)) hx hb dX9_tape_32 (by decide) ?_
    obtain rfl := Option.some.inj hF
    rw [hQ]
    exact rw_i X hS hP hD hs ⟨h43, h44, h35⟩ dX9_tape_34
  · replace hF := (if_pos c1).symm.trans hF
    refine lv_iload_n hx hb dX9_tape_12 rfl (lv_at hl 2 rfl) ?_
    refine lv_i2l hx hb dX9_tape_13 rfl ?_
    refine lv_lconst (v := (0 : Int64)) hx hb dX9_tape_14 (by decide) ?_
    refine lv_ldc2 (v := (11 : Int64)) hx hb hown (hts _ kl_X9_196) dX9_tape_15 ?_
    refine rd_i (runS (As := [.long p2.toInt64, .long (0 : Int64), .long (11 : Int64)]) (rest := []) X cq_X9_in lk_X9_66 (c_X9_in l D cI cJ cZ a ws0 p2.toInt64 (0 : Int64) (11 : Int64) _ rfl ) rfl rfl ⟨Nat.le_of_ble_eq_true rfl, Nat.le_of_ble_eq_true rfl⟩ hP rfl hl.1 rfl (Nat.le_of_ble_eq_true rfl) dX9_tape_18 ⟨Nat.le_of_ble_eq_true rfl, Nat.le_of_ble_eq_true rfl⟩) ?_
    refine zf_eq (tgt := 32) hx hb dX9_tape_21 (by decide) (fun c2 => ?_) (fun c2 => ?_)
    · replace hF := (if_neg c2).symm.trans hF
      refine lv_bipush (v := (-2 : Int32)) hx hb dX9_tape_32 (by decide) ?_
      obtain rfl := Option.some.inj hF
      rw [hQ]
      exact rw_i X hS hP hD hs ⟨h43, h44, h35⟩ dX9_tape_34
    · replace hF := (if_pos c2).symm.trans hF
      refine lv_iload_n hx hb dX9_tape_24 rfl (lv_at hl 1 rfl) ?_
      refine lv_iload_n hx hb dX9_tape_25 rfl (lv_at hl 2 rfl) ?_
      refine lv_ishr hx hb dX9_tape_26 ?_
      refine lv_iconst (v := (1 : Int32)) hx hb dX9_tape_27 (by decide) ?_
      refine lv_iand hx hb dX9_tape_28 ?_
      refine lv_if_ne (tgt := 35) hx hb dX9_tape_29 (by decide) (fun c3 => ?_) (fun c3 => ?_)
      · replace hF := (if_neg c3).symm.trans hF
        refine lv_aload_n hx hb dX9_tape_35 rfl (lv_at hl 0 rfl) ?_
        refine gf_X9_198 hx hb hts hown hK hP h35 dX9_tape_36 ?_
        refine lv_bipush (v := (12 : Int32)) hx hb dX9_tape_39 (by decide) ?_
        refine lv_icmp_ne (tgt := 47) hx hb dX9_tape_41 (by decide) (fun c4 => ?_) (fun c4 => ?_)
        · replace hF := (if_neg c4).symm.trans hF
          refine lv_aload_n hx hb dX9_tape_47 rfl (lv_at hl 0 rfl) ?_
          refine gf_X9_32 hx hb hts hown hK hP h35 dX9_tape_48 ?_
          refine lv_aload_n hx hb dX9_tape_51 rfl (lv_at hl 0 rfl) ?_
          refine gf_X9_198 hx hb hts hown hK hP h35 dX9_tape_52 ?_
          refine lv_iload_n hx hb dX9_tape_55 rfl (lv_at hl 1 rfl) ?_
          obtain ⟨hg5, hF⟩ := gd_some hF
          refine ast_i hx hb hK hP hD hS h43 hg5 dX9_tape_56 (fun w6 H locs hP hD hk hc hS => ?_)
          have h43 : w6[43]? = some (a 43, .inl (cI, 12, .inl (upd m_tapeHands m_tapes.toNatClampNeg p1))) := hc
          have h35 := (hk 35 (by omega)).trans h35
          have h44 := (hk 44 (by omega)).trans h44
          replace hs := sm_k hk (by simp) hs
          refine lv_aload_n hx hb dX9_tape_57 rfl (lv_at hl 0 rfl) ?_
          refine gf_X9_35 hx hb hts hown hK hP h35 dX9_tape_58 ?_
          refine lv_aload_n hx hb dX9_tape_61 rfl (lv_at hl 0 rfl) ?_
          refine gf_X9_198 hx hb hts hown hK hP h35 dX9_tape_62 ?_
          refine lv_iload_n hx hb dX9_tape_65 rfl (lv_at hl 2 rfl) ?_
          obtain ⟨hg7, hF⟩ := gd_some hF
          refine ast_i hx hb hK hP hD hS h44 hg7 dX9_tape_66 (fun w8 H locs hP hD hk hc hS => ?_)
          have h44 : w8[44]? = some (a 44, .inl (cI, 12, .inl (upd m_tapeTaken m_tapes.toNatClampNeg p2))) := hc
          have h35 := (hk 35 (by omega)).trans h35
          have h43 := (hk 43 (by omega)).trans h43
          replace hs := sm_k hk (by simp) hs
          refine lv_aload_n hx hb dX9_tape_67 rfl (lv_at hl 0 rfl) ?_
          refine lv_dup hx hb dX9_tape_68 rfl ?_
          refine gf_X9_198 hx hb hts hown hK hP h35 dX9_tape_69 ?_
          refine lv_iconst (v := (1 : Int32)) hx hb dX9_tape_72 (by decide) ?_
          refine lv_iadd hx hb dX9_tape_73 ?_
          refine pf_X9_198 hx hb hts hown hK hP hD hS h35 rfl rfl dX9_tape_74 (fun w9 H locs hP hD hk hc hS => ?_)
          have h35 : w9[35]? = some (a 35, .inr (9, [.ref (a 36), .int m_readMany, .ref (a 37), .int m_pupils, .ref (a 38), .ref (a 39), .int m_mood, .ref (a 40), .int m_length, .int m_at, .int m_faultAt, .ref (a 41), .ref (a 42), .long m_drawn, .int m_questions, .int m_rights, .int m_wrongs, .int (m_tapes + (1 : Int32)), .ref (a 43), .ref (a 44), .int m_trials, .ref (a 45), .ref (a 46), .ref (a 47), .ref (a 48), .ref (a 49), .ref (a 50), .ref (a 51)])) := hc
          have h43 := (hk 43 (by omega)).trans h43
          have h44 := (hk 44 (by omega)).trans h44
          replace hs := sm_k hk (by simp) hs
          refine lv_aload_n hx hb dX9_tape_77 rfl (lv_at hl 0 rfl) ?_
          refine gf_X9_198 hx hb hts hown hK hP h35 dX9_tape_78 ?_
          obtain rfl := Option.some.inj hF
          rw [hQ]
          exact rw_i X hS hP hD hs ⟨h43, h44, h35⟩ dX9_tape_81
        · replace hF := (if_pos c4).symm.trans hF
          refine lv_bipush (v := (-4 : Int32)) hx hb dX9_tape_44 (by decide) ?_
          obtain rfl := Option.some.inj hF
          rw [hQ]
          exact rw_i X hS hP hD hs ⟨h43, h44, h35⟩ dX9_tape_46
      · replace hF := (if_pos c3).symm.trans hF
        refine lv_bipush (v := (-2 : Int32)) hx hb dX9_tape_32 (by decide) ?_
        obtain rfl := Option.some.inj hF
        rw [hQ]
        exact rw_i X hS hP hD hs ⟨h43, h44, h35⟩ dX9_tape_34
def FX9_untape (m_tapes : Int32) : Int32 × Int32 :=
  (m_tapes, (0 : Int32))
def rm_X9_untape : Room := { frames := 0, cells := 0, slots := 0, locals := 0 }
set_option maxHeartbeats 4000000 in
set_option maxRecDepth 100000 in
theorem c_X9_untape (l : Launch) (D : va_G) (cI cJ cZ : ClassId) (a : Nat → Nat) (ws0 : va_W) (A : Nat → Prop)  (m_readMany : Int32) (m_pupils : Int32) (m_mood : Int32) (m_length : Int32) (m_at : Int32) (m_faultAt : Int32) (m_drawn : Int64) (m_questions : Int32) (m_rights : Int32) (m_wrongs : Int32) (m_tapes : Int32) (m_trials : Int32)  (u : Int32 × Int32) (hF : FX9_untape m_tapes = u) (z35 : ws0[35]? = some (a 35, .inr (9, [.ref (a 36), .int m_readMany, .ref (a 37), .int m_pupils, .ref (a 38), .ref (a 39), .int m_mood, .ref (a 40), .int m_length, .int m_at, .int m_faultAt, .ref (a 41), .ref (a 42), .long m_drawn, .int m_questions, .int m_rights, .int m_wrongs, .int m_tapes, .ref (a 43), .ref (a 44), .int m_trials, .ref (a 45), .ref (a 46), .ref (a 47), .ref (a 48), .ref (a 49), .ref (a 50), .ref (a 51)]))) (hD : va_D A ws0) : Met l yX9_untape (wq yX9_untape cX9_untape 2 (some .int)) rm_X9_untape (Pq [.ref (a 35)] D cI cJ cZ ws0) (Qw D A ws0 [35] (some (.int u.1)) (fun w => w[35]? = some (a 35, .inr (9, [.ref (a 36), .int m_readMany, .ref (a 37), .int m_pupils, .ref (a 38), .ref (a 39), .int m_mood, .ref (a 40), .int m_length, .int m_at, .int m_faultAt, .ref (a 41), .ref (a 42), .long m_drawn, .int m_questions, .int m_rights, .int m_wrongs, .int u.2, .ref (a 43), .ref (a 44), .int m_trials, .ref (a 45), .ref (a 46), .ref (a 47), .ref (a 48), .ref (a 49), .ref (a 50), .ref (a 51)])))) 0 0 A := by
  refine mq_of (by decide) (Nat.le_of_ble_eq_true rfl) (fun p e s m args below meth c ls Q hQ X _ hP hl => ?_)
  obtain ⟨hx, hb, hr, hml, hown, hts, hlk, hK, hN⟩ := id X
  have hown : s.vm.findClass RX9 = some m.cls := hown
  have hl : lv_has ls 2 [(0, .ref (a 35))] := hl
  have hS : va_S A s.heap s.heap [] := va_S.rf
  have hs : ∀ j : Nat, j ∉ [35] → ws0[j]? = ws0[j]? := fun _ _ => rfl
  have h35 := z35
  unfold FX9_untape at hF
  refine lv_aload_n hx hb dX9_untape_0 rfl (lv_at hl 0 rfl) ?_
  refine gf_X9_198 hx hb hts hown hK hP h35 dX9_untape_1 ?_
  refine lv_istore_n (lv' := [(1, .int m_tapes), (0, .ref (a 35))]) hx hb dX9_untape_4 rfl hl (by decide) rfl (fun ls hl => ?_)
  refine lv_aload_n hx hb dX9_untape_5 rfl (lv_at hl 1 rfl) ?_
  refine lv_iconst (v := (0 : Int32)) hx hb dX9_untape_6 (by decide) ?_
  refine pf_X9_198 hx hb hts hown hK hP hD hS h35 rfl rfl dX9_untape_7 (fun w1 H locs hP hD hk hc hS => ?_)
  have h35 : w1[35]? = some (a 35, .inr (9, [.ref (a 36), .int m_readMany, .ref (a 37), .int m_pupils, .ref (a 38), .ref (a 39), .int m_mood, .ref (a 40), .int m_length, .int m_at, .int m_faultAt, .ref (a 41), .ref (a 42), .long m_drawn, .int m_questions, .int m_rights, .int m_wrongs, .int (0 : Int32), .ref (a 43), .ref (a 44), .int m_trials, .ref (a 45), .ref (a 46), .ref (a 47), .ref (a 48), .ref (a 49), .ref (a 50), .ref (a 51)])) := hc
  replace hs := sm_k hk (by simp) hs
  refine lv_iload_n hx hb dX9_untape_10 rfl (lv_at hl 0 rfl) ?_
  subst hF
  rw [hQ]
  exact rw_i X hS hP hD hs h35 dX9_untape_11
def FX9_cameOf_S4 (m_tapes : Int32) (m_tapeTaken : Nat → Int32) (p1 : Int32) (x1 : Int32) (x2 : Int32) : Option ((Int32 × Int32) ⊕ (Int32)) :=
  if m_tapes ≤ x2 then (some (.inr x1)) else (if x2 < 0 ∨ 12 ≤ x2.toNatClampNeg then none else nmb (x1 + ((p1 >>> ((m_tapeTaken x2.toNatClampNeg) &&& 31)) &&& (1 : Int32))) fun y5 => some (.inl (y5, x2 + (1 : Int32))))
def FX9_cameOf (m_tapes : Int32) (m_tapeTaken : Nat → Int32) (p1 : Int32) : Option (Int32) :=
  (itr (fun v => FX9_cameOf_S4 m_tapes m_tapeTaken p1 v.1 v.2) fu ((0 : Int32), (0 : Int32))).bind fun o6 => some o6
def rm_X9_cameOf : Room := { frames := 0, cells := 0, slots := 0, locals := 0 }
set_option maxHeartbeats 4000000 in
set_option maxRecDepth 100000 in
theorem c_X9_cameOf (l : Launch) (D : va_G) (cI cJ cZ : ClassId) (a : Nat → Nat) (ws0 : va_W)  (m_readMany : Int32) (m_pupils : Int32) (m_mood : Int32) (m_length : Int32) (m_at : Int32) (m_faultAt : Int32) (m_drawn : Int64) (m_questions : Int32) (m_rights : Int32) (m_wrongs : Int32) (m_tapes : Int32) (m_trials : Int32) (m_tapeTaken : Nat → Int32) (p1 : Int32) (u : Int32) (hF : FX9_cameOf m_tapes m_tapeTaken p1 = some u) (h35 : ws0[35]? = some (a 35, .inr (9, [.ref (a 36), .int m_readMany, .ref (a 37), .int m_pupils, .ref (a 38), .ref (a 39), .int m_mood, .ref (a 40), .int m_length, .int m_at, .int m_faultAt, .ref (a 41), .ref (a 42), .long m_drawn, .int m_questions, .int m_rights, .int m_wrongs, .int m_tapes, .ref (a 43), .ref (a 44), .int m_trials, .ref (a 45), .ref (a 46), .ref (a 47), .ref (a 48), .ref (a 49), .ref (a 50), .ref (a 51)]))) (h44 : ws0[44]? = some (a 44, .inl (cI, 12, .inl m_tapeTaken))) : Met l yX9_cameOf (wq yX9_cameOf cX9_cameOf 4 (some .int)) rm_X9_cameOf (Pq [.ref (a 35), .int p1] D cI cJ cZ ws0) (Qq (some (.int u))) 0 0 (fun _ => False) := by
  refine mq_of (by decide) (Nat.le_of_ble_eq_true rfl) (fun p e s m args below meth c ls Q hQ X _ hP hl => ?_)
  obtain ⟨hx, hb, hr, hml, hown, hts, hlk, hK, hN⟩ := id X
  have hown : s.vm.findClass RX9 = some m.cls := hown
  have hl : lv_has ls 4 [(0, .ref (a 35)), (1, .int p1)] := hl
  unfold FX9_cameOf at hF
  refine lv_iconst (v := (0 : Int32)) hx hb dX9_cameOf_0 (by decide) ?_
  refine lv_istore_n (lv' := [(2, .int (0 : Int32)), (0, .ref (a 35)), (1, .int p1)]) hx hb dX9_cameOf_1 rfl hl (by decide) rfl (fun ls hl => ?_)
  refine lv_iconst (v := (0 : Int32)) hx hb dX9_cameOf_2 (by decide) ?_
  refine lv_istore_n (lv' := [(3, .int (0 : Int32)), (2, .int (0 : Int32)), (0, .ref (a 35)), (1, .int p1)]) hx hb dX9_cameOf_3 rfl hl (by decide) rfl (fun ls hl => ?_)
  have hL4 : ∀ (nf : Nat) (x1 : Int32) (x2 : Int32) (r : Int32), itr (fun v => FX9_cameOf_S4 m_tapes m_tapeTaken p1 v.1 v.2) nf (x1, x2) = some r → ∀ ls, lv_has ls 4 [(3, .int x2), (2, .int x1), (0, .ref (a 35)), (1, .int p1)] → (∀ o : Int32, r = o → ∀ ls, lv_has ls 4 [(2, .int o)] → W p l e rm_X9_cameOf s m args below meth c s.heap [] 0 0 Q (F0 m 31 ls [])) → W p l e rm_X9_cameOf s m args below meth c s.heap [] 0 0 Q (F0 m 4 ls []) := by
    intro nf
    induction nf with
    | zero => intro _ _ r hF; exact (itr_0 hF).elim
    | succ nf ih =>
      intro x1 x2 r hF ls hl hE
      obtain ⟨wo, hF, hw⟩ := itr_s hF
      replace hF : FX9_cameOf_S4 m_tapes m_tapeTaken p1 x1 x2 = some wo := hF
      unfold FX9_cameOf_S4 at hF
      refine lv_iload_n hx hb dX9_cameOf_4 rfl (lv_at hl 0 rfl) ?_
      refine lv_aload_n hx hb dX9_cameOf_5 rfl (lv_at hl 2 rfl) ?_
      refine gf_X9_198 hx hb hts hown hK hP h35 dX9_cameOf_6 ?_
      refine lv_icmp_ge (tgt := 31) hx hb dX9_cameOf_9 (by decide) (fun c3 => ?_) (fun c3 => ?_)
      · replace hF := (if_pos c3).symm.trans hF
        obtain rfl := Option.some.inj hF
        obtain rfl := hw
        exact hE _ rfl ls (lv_sub hl [1] rfl)
      · replace hF := (if_neg c3).symm.trans hF
        refine lv_iload_n hx hb dX9_cameOf_12 rfl (lv_at hl 1 rfl) ?_
        refine lv_iload_n hx hb dX9_cameOf_13 rfl (lv_at hl 3 rfl) ?_
        refine lv_aload_n hx hb dX9_cameOf_14 rfl (lv_at hl 2 rfl) ?_
        refine gf_X9_35 hx hb hts hown hK hP h35 dX9_cameOf_15 ?_
        refine lv_iload_n hx hb dX9_cameOf_18 rfl (lv_at hl 0 rfl) ?_
        obtain ⟨hg4, hF⟩ := gd_some hF
        refine va_iald hx hb hK hP 44 0 h44 rfl hg4 dX9_cameOf_19 ?_
        refine lv_ishr hx hb dX9_cameOf_20 ?_
        refine lv_iconst (v := (1 : Int32)) hx hb dX9_cameOf_21 (by decide) ?_
        refine lv_iand hx hb dX9_cameOf_22 ?_
        refine lv_iadd hx hb dX9_cameOf_23 ?_
        refine lv_topi (fun y5 e_y5 => ?_)
        replace hF := nm_at hF e_y5
        refine lv_istore_n (lv' := [(2, .int y5), (3, .int x2), (0, .ref (a 35)), (1, .int p1)]) hx hb dX9_cameOf_24 rfl hl (by decide) rfl (fun ls hl => ?_)
        refine lv_iinc (v := x2 + (1 : Int32)) (lv' := [(3, .int (x2 + (1 : Int32))), (2, .int y5), (0, .ref (a 35)), (1, .int p1)]) hx hb dX9_cameOf_25 hl (k := 1) rfl rfl (by decide) rfl (fun ls hl => ?_)
        refine lv_goto (tgt := 4) hx hb dX9_cameOf_28 (by decide) ?_
        obtain rfl := Option.some.inj hF
        exact ih _ _ _ hw ls (lv_sub hl [0, 1, 2, 3] rfl) hE
  obtain ⟨o6, ho6, hF⟩ := bd_some hF
  refine hL4 fu (0 : Int32) (0 : Int32) o6 ho6 ls (lv_sub hl [0, 1, 2, 3] rfl) ?_
  intro _ q_o6 ls hl
  subst q_o6
  refine lv_iload_n hx hb dX9_cameOf_31 rfl (lv_at hl 0 rfl) ?_
  obtain rfl := Option.some.inj hF
  rw [hQ]
  exact rt_i X dX9_cameOf_32
def FX9_came (m_tapes : Int32) (m_tapeTaken : Nat → Int32) (p1 : Int32) : Option (Int32) :=
  if (FX9_isGroup p1) = true then ((FX9_cameOf m_tapes m_tapeTaken p1).bind fun x2 => some x2) else (some (-2 : Int32))
def rm_X9_came : Room := { frames := 2, cells := 0, slots := 0, locals := 45 }
set_option maxHeartbeats 4000000 in
set_option maxRecDepth 100000 in
theorem c_X9_came (l : Launch) (D : va_G) (cI cJ cZ : ClassId) (a : Nat → Nat) (ws0 : va_W)  (m_readMany : Int32) (m_pupils : Int32) (m_mood : Int32) (m_length : Int32) (m_at : Int32) (m_faultAt : Int32) (m_drawn : Int64) (m_questions : Int32) (m_rights : Int32) (m_wrongs : Int32) (m_tapes : Int32) (m_trials : Int32) (m_tapeTaken : Nat → Int32) (p1 : Int32) (u : Int32) (hF : FX9_came m_tapes m_tapeTaken p1 = some u) (h35 : ws0[35]? = some (a 35, .inr (9, [.ref (a 36), .int m_readMany, .ref (a 37), .int m_pupils, .ref (a 38), .ref (a 39), .int m_mood, .ref (a 40), .int m_length, .int m_at, .int m_faultAt, .ref (a 41), .ref (a 42), .long m_drawn, .int m_questions, .int m_rights, .int m_wrongs, .int m_tapes, .ref (a 43), .ref (a 44), .int m_trials, .ref (a 45), .ref (a 46), .ref (a 47), .ref (a 48), .ref (a 49), .ref (a 50), .ref (a 51)]))) (h44 : ws0[44]? = some (a 44, .inl (cI, 12, .inl m_tapeTaken))) : Met l yX9_came (wq yX9_came cX9_came 2 (some .int)) rm_X9_came (Pq [.ref (a 35), .int p1] D cI cJ cZ ws0) (Qq (some (.int u))) 0 0 (fun _ => False) := by
  refine mq_of (by decide) (Nat.le_of_ble_eq_true rfl) (fun p e s m args below meth c ls Q hQ X _ hP hl => ?_)
  obtain ⟨hx, hb, hr, hml, hown, hts, hlk, hK, hN⟩ := id X
  have hown : s.vm.findClass RX9 = some m.cls := hown
  have hl : lv_has ls 2 [(0, .ref (a 35)), (1, .int p1)] := hl
  unfold FX9_came at hF
  refine lv_iload_n hx hb dX9_came_0 rfl (lv_at hl 1 rfl) ?_
  refine rd_i (runS (As := [.int p1]) (rest := []) X cq_X9_isGroup lk_X9_201 (c_X9_isGroup l D cI cJ cZ a ws0 p1 _ rfl ) rfl rfl ⟨Nat.le_of_ble_eq_true rfl, Nat.le_of_ble_eq_true rfl⟩ hP rfl hl.1 rfl (Nat.le_of_ble_eq_true rfl) dX9_came_1 ⟨Nat.le_of_ble_eq_true rfl, Nat.le_of_ble_eq_true rfl⟩) ?_
  refine zf_eq (tgt := 15) hx hb dX9_came_4 (by decide) (fun c1 => ?_) (fun c1 => ?_)
  · replace hF := (if_neg c1).symm.trans hF
    refine lv_bipush (v := (-2 : Int32)) hx hb dX9_came_15 (by decide) ?_
    obtain rfl := Option.some.inj hF
    rw [hQ]
    exact rt_i X dX9_came_17
  · replace hF := (if_pos c1).symm.trans hF
    refine lv_aload_n hx hb dX9_came_7 rfl (lv_at hl 0 rfl) ?_
    refine lv_iload_n hx hb dX9_came_8 rfl (lv_at hl 1 rfl) ?_
    obtain ⟨x2, hx2, hF⟩ := bd_some hF
    refine rd_i (runV (As := [.int p1]) (rest := []) X cq_X9_cameOf lk_X9_204 (c_X9_cameOf l D cI cJ cZ a ws0 m_readMany m_pupils m_mood m_length m_at m_faultAt m_drawn m_questions m_rights m_wrongs m_tapes m_trials m_tapeTaken p1 x2 hx2 h35 h44) rfl rfl ⟨Nat.le_of_ble_eq_true rfl, Nat.le_of_ble_eq_true rfl⟩ hP h35 rfl rfl hl.1 rfl (Nat.le_of_ble_eq_true rfl) dX9_came_9 ⟨Nat.le_of_ble_eq_true rfl, Nat.le_of_ble_eq_true rfl⟩) ?_
    refine lv_goto (tgt := 17) hx hb dX9_came_12 (by decide) ?_
    obtain rfl := Option.some.inj hF
    rw [hQ]
    exact rt_i X dX9_came_17
def FX9_due_S16 (m_tapes : Int32) (m_tapeHands : Nat → Int32) (p1 : Int32) (x2 : Int64) (x3 : Int32) : Option ((Int64 × Int32) ⊕ (Int64)) :=
  if m_tapes ≤ x3 then (some (.inr x2)) else (if x3 < 0 ∨ 12 ≤ x3.toNatClampNeg then none else (FX9_ones ((m_tapeHands x3.toNatClampNeg) &&& p1)).bind fun x6 => if x3 < 0 ∨ 12 ≤ x3.toNatClampNeg then none else (FX9_ones (m_tapeHands x3.toNatClampNeg)).bind fun x8 => if x8.toInt64 = 0 then none else some (.inl (x2 + (x6.toInt64 * ((27720 : Int64) / x8.toInt64)), x3 + (1 : Int32))))
def FX9_due (m_tapes : Int32) (m_tapeHands : Nat → Int32) (p1 : Int32) (p2 : Int32) : Option (Int64) :=
  if (FX9_isGroup p1) = true then ((itr (fun v => FX9_due_S16 m_tapes m_tapeHands p1 v.1 v.2) fu ((0 : Int64), (0 : Int32))).bind fun o10 => (FX9_part o10 (27720 : Int64) p2).bind fun x11 => some x11) else (some (-2 : Int64))
def rm_X9_due : Room := { frames := 2, cells := 0, slots := 0, locals := 45 }
set_option maxHeartbeats 4000000 in
set_option maxRecDepth 100000 in
theorem c_X9_due (l : Launch) (D : va_G) (cI cJ cZ : ClassId) (a : Nat → Nat) (ws0 : va_W)  (m_readMany : Int32) (m_pupils : Int32) (m_mood : Int32) (m_length : Int32) (m_at : Int32) (m_faultAt : Int32) (m_drawn : Int64) (m_questions : Int32) (m_rights : Int32) (m_wrongs : Int32) (m_tapes : Int32) (m_trials : Int32) (m_tapeHands : Nat → Int32) (p1 : Int32) (p2 : Int32) (u : Int64) (hF : FX9_due m_tapes m_tapeHands p1 p2 = some u) (h35 : ws0[35]? = some (a 35, .inr (9, [.ref (a 36), .int m_readMany, .ref (a 37), .int m_pupils, .ref (a 38), .ref (a 39), .int m_mood, .ref (a 40), .int m_length, .int m_at, .int m_faultAt, .ref (a 41), .ref (a 42), .long m_drawn, .int m_questions, .int m_rights, .int m_wrongs, .int m_tapes, .ref (a 43), .ref (a 44), .int m_trials, .ref (a 45), .ref (a 46), .ref (a 47), .ref (a 48), .ref (a 49), .ref (a 50), .ref (a 51)]))) (h43 : ws0[43]? = some (a 43, .inl (cI, 12, .inl m_tapeHands))) : Met l yX9_due (wq yX9_due cX9_due 6 (some .long)) rm_X9_due (Pq [.ref (a 35), .int p1, .int p2] D cI cJ cZ ws0) (Qq (some (.long u))) 0 0 (fun _ => False) := by
  refine mq_of (by decide) (Nat.le_of_ble_eq_true rfl) (fun p e s m args below meth c ls Q hQ X _ hP hl => ?_)
  obtain ⟨hx, hb, hr, hml, hown, hts, hlk, hK, hN⟩ := id X
  have hown : s.vm.findClass RX9 = some m.cls := hown
  have hl : lv_has ls 6 [(0, .ref (a 35)), (1, .int p1), (2, .int p2)] := hl
  unfold FX9_due at hF
  refine lv_iload_n hx hb dX9_due_0 rfl (lv_at hl 1 rfl) ?_
  refine rd_i (runS (As := [.int p1]) (rest := []) X cq_X9_isGroup lk_X9_201 (c_X9_isGroup l D cI cJ cZ a ws0 p1 _ rfl ) rfl rfl ⟨Nat.le_of_ble_eq_true rfl, Nat.le_of_ble_eq_true rfl⟩ hP rfl hl.1 rfl (Nat.le_of_ble_eq_true rfl) dX9_due_1 ⟨Nat.le_of_ble_eq_true rfl, Nat.le_of_ble_eq_true rfl⟩) ?_
  refine zf_ne (tgt := 11) hx hb dX9_due_4 (by decide) (fun c1 => ?_) (fun c1 => ?_)
  · replace hF := (if_pos c1).symm.trans hF
    refine lv_lconst (v := (0 : Int64)) hx hb dX9_due_11 (by decide) ?_
    refine lv_lstore_n (lv' := [(3, .long (0 : Int64)), (0, .ref (a 35)), (1, .int p1), (2, .int p2)]) hx hb dX9_due_12 rfl hl (by decide) rfl (fun ls hl => ?_)
    refine lv_iconst (v := (0 : Int32)) hx hb dX9_due_13 (by decide) ?_
    refine lv_istore (lv' := [(5, .int (0 : Int32)), (3, .long (0 : Int64)), (0, .ref (a 35)), (1, .int p1), (2, .int p2)]) hx hb dX9_due_14 hl (by decide) rfl (fun ls hl => ?_)
    have hL16 : ∀ (nf : Nat) (x2 : Int64) (x3 : Int32) (r : Int64), itr (fun v => FX9_due_S16 m_tapes m_tapeHands p1 v.1 v.2) nf (x2, x3) = some r → ∀ ls, lv_has ls 6 [(5, .int x3), (3, .long x2), (0, .ref (a 35)), (1, .int p1), (2, .int p2)] → (∀ o : Int64, r = o → ∀ ls, lv_has ls 6 [(3, .long o), (2, .int p2)] → W p l e rm_X9_due s m args below meth c s.heap [] 0 0 Q (F0 m 63 ls [])) → W p l e rm_X9_due s m args below meth c s.heap [] 0 0 Q (F0 m 16 ls []) := by
      intro nf
      induction nf with
      | zero => intro _ _ r hF; exact (itr_0 hF).elim
      | succ nf ih =>
        intro x2 x3 r hF ls hl hE
        obtain ⟨wo, hF, hw⟩ := itr_s hF
        replace hF : FX9_due_S16 m_tapes m_tapeHands p1 x2 x3 = some wo := hF
        unfold FX9_due_S16 at hF
        refine lv_iload hx hb dX9_due_16 (lv_at hl 0 rfl) ?_
        refine lv_aload_n hx hb dX9_due_18 rfl (lv_at hl 2 rfl) ?_
        refine gf_X9_198 hx hb hts hown hK hP h35 dX9_due_19 ?_
        refine lv_icmp_ge (tgt := 63) hx hb dX9_due_22 (by decide) (fun c4 => ?_) (fun c4 => ?_)
        · replace hF := (if_pos c4).symm.trans hF
          obtain rfl := Option.some.inj hF
          obtain rfl := hw
          exact hE _ rfl ls (lv_sub hl [1, 4] rfl)
        · replace hF := (if_neg c4).symm.trans hF
          refine lv_lload_n hx hb dX9_due_25 rfl (lv_at hl 1 rfl) ?_
          refine lv_aload_n hx hb dX9_due_26 rfl (lv_at hl 2 rfl) ?_
          refine gf_X9_32 hx hb hts hown hK hP h35 dX9_due_27 ?_
          refine lv_iload hx hb dX9_due_30 (lv_at hl 0 rfl) ?_
          obtain ⟨hg5, hF⟩ := gd_some hF
          refine va_iald hx hb hK hP 43 0 h43 rfl hg5 dX9_due_32 ?_
          refine lv_iload_n hx hb dX9_due_33 rfl (lv_at hl 3 rfl) ?_
          refine lv_iand hx hb dX9_due_34 ?_
          obtain ⟨x6, hx6, hF⟩ := bd_some hF
          refine rd_i (runS (As := [.int ((m_tapeHands x3.toNatClampNeg) &&& p1)]) (rest := [.long x2]) X cq_X9_ones lk_X9_185 (c_X9_ones l D cI cJ cZ a ws0 ((m_tapeHands x3.toNatClampNeg) &&& p1) x6 hx6 ) rfl rfl ⟨Nat.le_of_ble_eq_true rfl, Nat.le_of_ble_eq_true rfl⟩ hP rfl hl.1 rfl (Nat.le_of_ble_eq_true rfl) dX9_due_35 ⟨Nat.le_of_ble_eq_true rfl, Nat.le_of_ble_eq_true rfl⟩) ?_
          refine lv_i2l hx hb dX9_due_38 rfl ?_
          refine lv_ldc2 (v := (27720 : Int64)) hx hb hown (hts _ kl_X9_158) dX9_due_39 ?_
          refine lv_aload_n hx hb dX9_due_42 rfl (lv_at hl 2 rfl) ?_
          refine gf_X9_32 hx hb hts hown hK hP h35 dX9_due_43 ?_
          refine lv_iload hx hb dX9_due_46 (lv_at hl 0 rfl) ?_
          obtain ⟨hg7, hF⟩ := gd_some hF
          refine va_iald hx hb hK hP 43 0 h43 rfl hg7 dX9_due_48 ?_
          obtain ⟨x8, hx8, hF⟩ := bd_some hF
          refine rd_i (runS (As := [.int (m_tapeHands x3.toNatClampNeg)]) (rest := [.long (27720 : Int64), .long x6.toInt64, .long x2]) X cq_X9_ones lk_X9_185 (c_X9_ones l D cI cJ cZ a ws0 (m_tapeHands x3.toNatClampNeg) x8 hx8 ) rfl rfl ⟨Nat.le_of_ble_eq_true rfl, Nat.le_of_ble_eq_true rfl⟩ hP rfl hl.1 rfl (Nat.le_of_ble_eq_true rfl) dX9_due_49 ⟨Nat.le_of_ble_eq_true rfl, Nat.le_of_ble_eq_true rfl⟩) ?_
          refine lv_i2l hx hb dX9_due_52 rfl ?_
          obtain ⟨hg9, hF⟩ := gd_some hF
          refine lv_ldiv hx hb dX9_due_53 hg9 ?_
          refine lv_lmul hx hb dX9_due_54 ?_
          refine lv_ladd hx hb dX9_due_55 ?_
          refine lv_lstore_n (lv' := [(3, .long (x2 + (x6.toInt64 * ((27720 : Int64) / x8.toInt64)))), (5, .int x3), (0, .ref (a 35)), (1, .int p1), (2, .int p2)]) hx hb dX9_due_56 rfl hl (by decide) rfl (fun ls hl => ?_)
          refine lv_iinc (v := x3 + (1 : Int32)) (lv' := [(5, .int (x3 + (1 : Int32))), (3, .long (x2 + (x6.toInt64 * ((27720 : Int64) / x8.toInt64)))), (0, .ref (a 35)), (1, .int p1), (2, .int p2)]) hx hb dX9_due_57 hl (k := 1) rfl rfl (by decide) rfl (fun ls hl => ?_)
          refine lv_goto (tgt := 16) hx hb dX9_due_60 (by decide) ?_
          obtain rfl := Option.some.inj hF
          exact ih _ _ _ hw ls (lv_sub hl [0, 1, 2, 3, 4] rfl) hE
    obtain ⟨o10, ho10, hF⟩ := bd_some hF
    refine hL16 fu (0 : Int64) (0 : Int32) o10 ho10 ls (lv_sub hl [0, 1, 2, 3, 4] rfl) ?_
    intro _ q_o10 ls hl
    subst q_o10
    refine lv_lload_n hx hb dX9_due_63 rfl (lv_at hl 0 rfl) ?_
    refine lv_ldc2 (v := (27720 : Int64)) hx hb hown (hts _ kl_X9_158) dX9_due_64 ?_
    refine lv_iload_n hx hb dX9_due_67 rfl (lv_at hl 1 rfl) ?_
    obtain ⟨x11, hx11, hF⟩ := bd_some hF
    refine rd_l (runS (As := [.long o10, .long (27720 : Int64), .int p2]) (rest := []) X cq_X9_part lk_X9_149 (c_X9_part l D cI cJ cZ a ws0 o10 (27720 : Int64) p2 x11 hx11 ) rfl rfl ⟨Nat.le_of_ble_eq_true rfl, Nat.le_of_ble_eq_true rfl⟩ hP rfl hl.1 rfl (Nat.le_of_ble_eq_true rfl) dX9_due_68 ⟨Nat.le_of_ble_eq_true rfl, Nat.le_of_ble_eq_true rfl⟩) ?_
    obtain rfl := Option.some.inj hF
    rw [hQ]
    exact rt_l X dX9_due_71
  · replace hF := (if_neg c1).symm.trans hF
    refine lv_ldc2 (v := (-2 : Int64)) hx hb hown (hts _ kl_X9_135) dX9_due_7 ?_
    obtain rfl := Option.some.inj hF
    rw [hQ]
    exact rt_l X dX9_due_10
