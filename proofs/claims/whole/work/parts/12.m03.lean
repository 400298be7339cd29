def FX2_answer_J108 (x8 : Int32) (x9 : Int32) (x10 : Int32) (x11 : Int32) (x12 : Int32) (x13 : Nat → Int32) (x14 : Int32) (x15 : Nat → Int32) (x16 : Int32) : Int32 × (Nat → Int32) × Int32 × (Nat → Int32) × Int32 :=
  nmb (gput x15 12 x8 (if x9 < (x10 - x11) then (x10 - x11) else x9)) fun u17 => (x12, x13, x14, u17, x16)
def FX2_answer (p_questions : Int32) (p_rightOnes : Int32) (p_wrongOnes : Int32) (p_times : Nat → Int32) (p_dares : Nat → Int32) (p1 : Int32) (p2 : Int32) (p3 : Int32) : Int32 × (Nat → Int32) × Int32 × (Nat → Int32) × Int32 :=
  if p1 = (-9 : Int32) then ((p_questions + (1 : Int32), p_times, p_wrongOnes, p_dares, p_rightOnes)) else (nmb (gput p_times 12 p1 ((gat p_times 12 p1) + (1 : Int32))) fun u3 => if p2 = 0 then (if p3 = 0 then (FX2_answer_J108 p1 (0 : Int32) (gat p_dares 12 p1) (2 : Int32) (p_questions + (1 : Int32)) u3 (p_wrongOnes + (1 : Int32)) p_dares p_rightOnes) else (FX2_answer_J108 p1 (0 : Int32) (gat p_dares 12 p1) (4 : Int32) (p_questions + (1 : Int32)) u3 (p_wrongOnes + (1 : Int32)) p_dares p_rightOnes)) else (nmb (gput p_dares 12 p1 (if ((gat p_dares 12 p1) + (1 : Int32)) < (9 : Int32) then ((gat p_dares 12 p1) + (1 : Int32)) else (9 : Int32))) fun u20 => (p_questions + (1 : Int32), u3, p_wrongOnes, u20, p_rightOnes + (1 : Int32))))
def rm_X2_answer : Room := { frames := 1, cells := 0, slots := 0, locals := 22 }
set_option maxHeartbeats 4000000 in
set_option maxRecDepth 100000 in
theorem c_X2_answer (l : Launch) (D : va_G) (cI cJ cZ : ClassId) (a : Nat → Nat) (ws0 : va_W) (A : Nat → Prop) (k : Nat) (p_seed : Int64) (p_questions : Int32) (p_rightOnes : Int32) (p_wrongOnes : Int32) (p_isKept : Int32) (p_times : Nat → Int32) (p_dares : Nat → Int32) (p1 : Int32) (p2 : Int32) (p3 : Int32) (u : Int32 × (Nat → Int32) × Int32 × (Nat → Int32) × Int32) (hF : FX2_answer p_questions p_rightOnes p_wrongOnes p_times p_dares p1 p2 p3 = u) (z_k0 : ws0[k]? = some (a k, .inr (2, [.ref (a (k + 1)), .ref (a (k + 2)), .long p_seed, .int p_questions, .int p_rightOnes, .int p_wrongOnes, .int p_isKept]))) (z_k1 : ws0[(k + 1)]? = some (a (k + 1), .inl (cI, 12, .inl p_dares))) (z_k2 : ws0[(k + 2)]? = some (a (k + 2), .inl (cI, 12, .inl p_times))) (hD : va_D A ws0) : Met l yX2_answer (wq yX2_answer cX2_answer 4 none) rm_X2_answer (Pq [.ref (a k), .int p1, .int p2, .int p3] D cI cJ cZ ws0) (Qw D A ws0 [k, (k + 2), (k + 1)] none (fun w => w[k]? = some (a k, .inr (2, [.ref (a (k + 1)), .ref (a (k + 2)), .long p_seed, .int u.1, .int u.2.2.2.2, .int u.2.2.1, .int p_isKept])) ∧ w[(k + 2)]? = some (a (k + 2), .inl (cI, 12, .inl u.2.1)) ∧ w[(k + 1)]? = some (a (k + 1), .inl (cI, 12, .inl u.2.2.2.1)))) 0 0 A := by
  refine mq_of (by decide) (Nat.le_of_ble_eq_true rfl) (fun p e s m args below meth c ls Q hQ X _ hP hl => ?_)
  obtain ⟨hx, hb, hr, hml, hown, hts, hlk, hK, hN⟩ := id X
  have hown : s.vm.findClass RX2 = some m.cls := hown
  have hl : lv_has ls 4 [(0, .ref (a k)), (1, .int p1), (2, .int p2), (3, .int p3)] := hl
  have hS : va_S A s.heap s.heap [] := va_S.rf
  have hs : ∀ j : Nat, j ∉ [k, (k + 2), (k + 1)] → ws0[j]? = ws0[j]? := fun _ _ => rfl
  have h_k0 := z_k0
  have h_k1 := z_k1
  have h_k2 := z_k2
  have hJ108 : ∀ (x8 : Int32) (x9 : Int32) (x10 : Int32) (x11 : Int32) (x12 : Int32) (x13 : Nat → Int32) (x14 : Int32) (x15 : Nat → Int32) (x16 : Int32), ∀ (wJ : va_W) (HJ : Heap) (lJ : List Loc), va_P D vwCl wJ HJ → va_D A wJ → va_S A s.heap HJ lJ → (∀ j : Nat, j ∉ [k, (k + 2), (k + 1)] → wJ[j]? = ws0[j]?) → wJ[k]? = some (a k, .inr (2, [.ref (a (k + 1)), .ref (a (k + 2)), .long p_seed, .int x12, .int x16, .int x14, .int p_isKept])) → wJ[(k + 2)]? = some (a (k + 2), .inl (cI, 12, .inl x13)) → wJ[(k + 1)]? = some (a (k + 1), .inl (cI, 12, .inl x15)) → ∀ ls, lv_has ls 4 [] → FX2_answer_J108 x8 x9 x10 x11 x12 x13 x14 x15 x16 = u → W p l e rm_X2_answer s m args below meth c HJ lJ 0 0 Q (F0 m 108 ls [.int x11, .int x10, .int x9, .int x8, .ref (a (k + 1))]) := by
    intro x8 x9 x10 x11 x12 x13 x14 x15 x16 w H locs hP hD hS hs h_k0 h_k2 h_k1 ls hl hF
    unfold FX2_answer_J108 at hF
    refine lv_isub hx hb dX2_answer_108 ?_
    refine va_mmax hx hb (hml.trans hl.1.symm) hown (hts _ lk_X2_56) (hts _ mts_max) (hts _ mti) (hts _ mtc_max) (Nat.le_of_ble_eq_true rfl) (Nat.le_of_ble_eq_true rfl) (Nat.le_of_ble_eq_true rfl) (Nat.le_of_ble_eq_true rfl) dX2_answer_109 ?_
    obtain ⟨u17, e_u17⟩ : ∃ q, q = gput x15 12 x8 (if x9 < (x10 - x11) then (x10 - x11) else x9) := ⟨_, rfl⟩
    replace hF := nm_at hF e_u17
    refine wr_v (runSN (As := [.ref (a (k + 1)), .int x8, .int (if x9 < (x10 - x11) then (x10 - x11) else x9)]) (rest := []) X cq_X8_put lk_X2_42 (t_X8_put l D cI cJ cZ a w A (k + 1) x15 12 x8 (if x9 < (x10 - x11) then (x10 - x11) else x9) u17 e_u17.symm h_k1 hD (by decide)) rfl rfl ⟨Nat.le_of_ble_eq_true rfl, Nat.le_of_ble_eq_true rfl⟩ hP rfl hl.1 rfl (Nat.le_of_ble_eq_true rfl) dX2_answer_112 ⟨Nat.le_of_ble_eq_true rfl, Nat.le_of_ble_eq_true rfl⟩) hS (fun w18 H locs hP hD hk hB hS => ?_)
    have h_k1 : w18[(k + 1)]? = some (a (k + 1), .inl (cI, 12, .inl u17)) := hB
    have h_k0 := (hk k (by simp only [List.mem_cons, List.not_mem_nil, or_false, not_or]; omega)).trans h_k0
    have h_k2 := (hk (k + 2) (by simp only [List.mem_cons, List.not_mem_nil, or_false, not_or]; omega)).trans h_k2
    replace hs := st_tr hk (fun j hj => by simp only [List.mem_cons, List.not_mem_nil, or_false] at hj ⊢; omega) hs
    subst hF
    rw [hQ]
    exact rw_v X hS hP hD hs ⟨h_k0, h_k2, h_k1⟩ dX2_answer_115
  unfold FX2_answer at hF
  refine lv_aload_n hx hb dX2_answer_0 rfl (lv_at hl 0 rfl) ?_
  refine lv_dup hx hb dX2_answer_1 rfl ?_
  refine gf_X2_28 hx hb hts hown hK hP h_k0 dX2_answer_2 ?_
  refine lv_iconst (v := (1 : Int32)) hx hb dX2_answer_5 (by decide) ?_
  refine lv_iadd hx hb dX2_answer_6 ?_
  refine pf_X2_28 hx hb hts hown hK hP hD hS h_k0 rfl rfl dX2_answer_7 (fun w1 H locs hP hD hk hc hS => ?_)
  have h_k0 : w1[k]? = some (a k, .inr (2, [.ref (a (k + 1)), .ref (a (k + 2)), .long p_seed, .int (p_questions + (1 : Int32)), .int p_rightOnes, .int p_wrongOnes, .int p_isKept])) := hc
  have h_k2 := (hk (k + 2) (by omega)).trans h_k2
  have h_k1 := (hk (k + 1) (by omega)).trans h_k1
  replace hs := sm_k hk (by simp) hs
  refine lv_iload_n hx hb dX2_answer_10 rfl (lv_at hl 1 rfl) ?_
  refine lv_bipush (v := (-9 : Int32)) hx hb dX2_answer_11 (by decide) ?_
  refine lv_icmp_ne (tgt := 17) hx hb dX2_answer_13 (by decide) (fun c2 => ?_) (fun c2 => ?_)
  · replace hF := (if_neg c2).symm.trans hF
    refine lv_aload_n hx hb dX2_answer_17 rfl (lv_at hl 0 rfl) ?_
    refine gf_X2_15 hx hb hts hown hK hP h_k0 dX2_answer_18 ?_
    refine lv_iload_n hx hb dX2_answer_21 rfl (lv_at hl 1 rfl) ?_
    refine lv_aload_n hx hb dX2_answer_22 rfl (lv_at hl 0 rfl) ?_
    refine gf_X2_15 hx hb hts hown hK hP h_k0 dX2_answer_23 ?_
    refine lv_iload_n hx hb dX2_answer_26 rfl (lv_at hl 1 rfl) ?_
    refine rd_i (runSN (As := [.ref (a (k + 2)), .int p1]) (rest := [.int p1, .ref (a (k + 2))]) X cq_X8_at lk_X2_38 (t_X8_at l D cI cJ cZ a w1 (k + 2) p_times 12 p1 _ rfl h_k2 (by decide)) rfl rfl ⟨Nat.le_of_ble_eq_true rfl, Nat.le_of_ble_eq_true rfl⟩ hP rfl hl.1 rfl (Nat.le_of_ble_eq_true rfl) dX2_answer_27 ⟨Nat.le_of_ble_eq_true rfl, Nat.le_of_ble_eq_true rfl⟩) ?_
    refine lv_iconst (v := (1 : Int32)) hx hb dX2_answer_30 (by decide) ?_
    refine lv_iadd hx hb dX2_answer_31 ?_
    obtain ⟨u3, e_u3⟩ : ∃ q, q = gput p_times 12 p1 ((gat p_times 12 p1) + (1 : Int32)) := ⟨_, rfl⟩
    replace hF := nm_at hF e_u3
    refine wr_v (runSN (As := [.ref (a (k + 2)), .int p1, .int ((gat p_times 12 p1) + (1 : Int32))]) (rest := []) X cq_X8_put lk_X2_42 (t_X8_put l D cI cJ cZ a w1 A (k + 2) p_times 12 p1 ((gat p_times 12 p1) + (1 : Int32)) u3 e_u3.symm h_k2 hD (by decide)) rfl rfl ⟨Nat.le_of_ble_eq_true rfl, Nat.le_of_ble_eq_true rfl⟩ hP rfl hl.1 rfl (Nat.le_of_ble_eq_true rfl) dX2_answer_32 ⟨Nat.le_of_ble_eq_true rfl, Nat.le_of_ble_eq_true rfl⟩) hS (fun w4 H locs hP hD hk hB hS => ?_)
    have h_k2 : w4[(k + 2)]? = some (a (k + 2), .inl (cI, 12, .inl u3)) := hB
    have h_k0 := (hk k (by simp only [List.mem_cons, List.not_mem_nil, or_false, not_or]; omega)).trans h_k0
    have h_k1 := (hk (k + 1) (by simp only [List.mem_cons, List.not_mem_nil, or_false, not_or]; omega)).trans h_k1
    replace hs := st_tr hk (fun j hj => by simp only [List.mem_cons, List.not_mem_nil, or_false] at hj ⊢; omega) hs
    refine lv_iload_n hx hb dX2_answer_35 rfl (lv_at hl 2 rfl) ?_
    refine lv_if_eq (tgt := 75) hx hb dX2_answer_36 (by decide) (fun c5 => ?_) (fun c5 => ?_)
    · replace hF := (if_pos c5).symm.trans hF
      refine lv_aload_n hx hb dX2_answer_75 rfl (lv_at hl 0 rfl) ?_
      refine lv_dup hx hb dX2_answer_76 rfl ?_
      refine gf_X2_35 hx hb hts hown hK hP h_k0 dX2_answer_77 ?_
      refine lv_iconst (v := (1 : Int32)) hx hb dX2_answer_80 (by decide) ?_
      refine lv_iadd hx hb dX2_answer_81 ?_
      refine pf_X2_35 hx hb hts hown hK hP hD hS h_k0 rfl rfl dX2_answer_82 (fun w6 H locs hP hD hk hc hS => ?_)
      have h_k0 : w6[k]? = some (a k, .inr (2, [.ref (a (k + 1)), .ref (a (k + 2)), .long p_seed, .int (p_questions + (1 : Int32)), .int p_rightOnes, .int (p_wrongOnes + (1 : Int32)), .int p_isKept])) := hc
      have h_k2 := (hk (k + 2) (by omega)).trans h_k2
      have h_k1 := (hk (k + 1) (by omega)).trans h_k1
      replace hs := sm_k hk (by simp) hs
      refine lv_aload_n hx hb dX2_answer_85 rfl (lv_at hl 0 rfl) ?_
      refine gf_X2_9 hx hb hts hown hK hP h_k0 dX2_answer_86 ?_
      refine lv_iload_n hx hb dX2_answer_89 rfl (lv_at hl 1 rfl) ?_
      refine lv_iconst (v := (0 : Int32)) hx hb dX2_answer_90 (by decide) ?_
      refine lv_aload_n hx hb dX2_answer_91 rfl (lv_at hl 0 rfl) ?_
      refine gf_X2_9 hx hb hts hown hK hP h_k0 dX2_answer_92 ?_
      refine lv_iload_n hx hb dX2_answer_95 rfl (lv_at hl 1 rfl) ?_
      refine rd_i (runSN (As := [.ref (a (k + 1)), .int p1]) (rest := [.int (0 : Int32), .int p1, .ref (a (k + 1))]) X cq_X8_at lk_X2_38 (t_X8_at l D cI cJ cZ a w6 (k + 1) p_dares 12 p1 _ rfl h_k1 (by decide)) rfl rfl ⟨Nat.le_of_ble_eq_true rfl, Nat.le_of_ble_eq_true rfl⟩ hP rfl hl.1 rfl (Nat.le_of_ble_eq_true rfl) dX2_answer_96 ⟨Nat.le_of_ble_eq_true rfl, Nat.le_of_ble_eq_true rfl⟩) ?_
      refine lv_iload_n hx hb dX2_answer_99 rfl (lv_at hl 3 rfl) ?_
      refine lv_if_eq (tgt := 107) hx hb dX2_answer_100 (by decide) (fun c7 => ?_) (fun c7 => ?_)
      · replace hF := (if_pos c7).symm.trans hF
        refine lv_iconst (v := (2 : Int32)) hx hb dX2_answer_107 (by decide) ?_
        exact hJ108 p1 (0 : Int32) (gat p_dares 12 p1) (2 : Int32) (p_questions + (1 : Int32)) u3 (p_wrongOnes + (1 : Int32)) p_dares p_rightOnes _ _ _ hP hD hS hs h_k0 h_k2 h_k1 ls (lv_sub hl [] rfl) hF
      · replace hF := (if_neg c7).symm.trans hF
        refine lv_iconst (v := (4 : Int32)) hx hb dX2_answer_103 (by decide) ?_
        refine lv_goto (tgt := 108) hx hb dX2_answer_104 (by decide) ?_
        exact hJ108 p1 (0 : Int32) (gat p_dares 12 p1) (4 : Int32) (p_questions + (1 : Int32)) u3 (p_wrongOnes + (1 : Int32)) p_dares p_rightOnes _ _ _ hP hD hS hs h_k0 h_k2 h_k1 ls (lv_sub hl [] rfl) hF
    · replace hF := (if_neg c5).symm.trans hF
      refine lv_aload_n hx hb dX2_answer_39 rfl (lv_at hl 0 rfl) ?_
      refine lv_dup hx hb dX2_answer_40 rfl ?_
      refine gf_X2_32 hx hb hts hown hK hP h_k0 dX2_answer_41 ?_
      refine lv_iconst (v := (1 : Int32)) hx hb dX2_answer_44 (by decide) ?_
      refine lv_iadd hx hb dX2_answer_45 ?_
      refine pf_X2_32 hx hb hts hown hK hP hD hS h_k0 rfl rfl dX2_answer_46 (fun w19 H locs hP hD hk hc hS => ?_)
      have h_k0 : w19[k]? = some (a k, .inr (2, [.ref (a (k + 1)), .ref (a (k + 2)), .long p_seed, .int (p_questions + (1 : Int32)), .int (p_rightOnes + (1 : Int32)), .int p_wrongOnes, .int p_isKept])) := hc
      have h_k2 := (hk (k + 2) (by omega)).trans h_k2
      have h_k1 := (hk (k + 1) (by omega)).trans h_k1
      replace hs := sm_k hk (by simp) hs
      refine lv_aload_n hx hb dX2_answer_49 rfl (lv_at hl 0 rfl) ?_
      refine gf_X2_9 hx hb hts hown hK hP h_k0 dX2_answer_50 ?_
      refine lv_iload_n hx hb dX2_answer_53 rfl (lv_at hl 1 rfl) ?_
      refine lv_bipush (v := (9 : Int32)) hx hb dX2_answer_54 (by decide) ?_
      refine lv_aload_n hx hb dX2_answer_56 rfl (lv_at hl 0 rfl) ?_
      refine gf_X2_9 hx hb hts hown hK hP h_k0 dX2_answer_57 ?_
      refine lv_iload_n hx hb dX2_answer_60 rfl (lv_at hl 1 rfl) ?_
      refine rd_i (runSN (As := [.ref (a (k + 1)), .int p1]) (rest := [.int (9 : Int32), .int p1, .ref (a (k + 1))]) X cq_X8_at lk_X2_38 (t_X8_at l D cI cJ cZ a w19 (k + 1) p_dares 12 p1 _ rfl h_k1 (by decide)) rfl rfl ⟨Nat.le_of_ble_eq_true rfl, Nat.le_of_ble_eq_true rfl⟩ hP rfl hl.1 rfl (Nat.le_of_ble_eq_true rfl) dX2_answer_61 ⟨Nat.le_of_ble_eq_true rfl, Nat.le_of_ble_eq_true rfl⟩) ?_
      refine lv_iconst (v := (1 : Int32)) hx hb dX2_answer_64 (by decide) ?_
      refine lv_iadd hx hb dX2_answer_65 ?_
      refine va_mmin hx hb (hml.trans hl.1.symm) hown (hts _ lk_X2_50) (hts _ mts_min) (hts _ mti) (hts _ mtc_min) (Nat.le_of_ble_eq_true rfl) (Nat.le_of_ble_eq_true rfl) (Nat.le_of_ble_eq_true rfl) (Nat.le_of_ble_eq_true rfl) dX2_answer_66 ?_
      obtain ⟨u20, e_u20⟩ : ∃ q, q = gput p_dares 12 p1 (if ((gat p_dares 12 p1) + (1 : Int32)) < (9 : Int32) then ((gat p_dares 12 p1) + (1 : Int32)) else (9 : Int32)) := ⟨_, rfl⟩
      replace hF := nm_at hF e_u20
      refine wr_v (runSN (As := [.ref (a (k + 1)), .int p1, .int (if ((gat p_dares 12 p1) + (1 : Int32)) < (9 : Int32) then ((gat p_dares 12 p1) + (1 : Int32)) else (9 : Int32))]) (rest := []) X cq_X8_put lk_X2_42 (t_X8_put l D cI cJ cZ a w19 A (k + 1) p_dares 12 p1 (if ((gat p_dares 12 p1) + (1 : Int32)) < (9 : Int32) then ((gat p_dares 12 p1) + (1 : Int32)) else (9 : Int32)) u20 e_u20.symm h_k1 hD (by decide)) rfl rfl ⟨Nat.le_of_ble_eq_true rfl, Nat.le_of_ble_eq_true rfl⟩ hP rfl hl.1 rfl (Nat.le_of_ble_eq_true rfl) dX2_answer_69 ⟨Nat.le_of_ble_eq_true rfl, Nat.le_of_ble_eq_true rfl⟩) hS (fun w21 H locs hP hD hk hB hS => ?_)
      have h_k1 : w21[(k + 1)]? = some (a (k + 1), .inl (cI, 12, .inl u20)) := hB
      have h_k0 := (hk k (by simp only [List.mem_cons, List.not_mem_nil, or_false, not_or]; omega)).trans h_k0
      have h_k2 := (hk (k + 2) (by simp only [List.mem_cons, List.not_mem_nil, or_false, not_or]; omega)).trans h_k2
      replace hs := st_tr hk (fun j hj => by simp only [List.mem_cons, List.not_mem_nil, or_false] at hj ⊢; omega) hs
      refine lv_goto (tgt := 115) hx hb dX2_answer_72 (by decide) ?_
      subst hF
      rw [hQ]
      exact rw_v X hS hP hD hs ⟨h_k0, h_k2, h_k1⟩ dX2_answer_115
  · replace hF := (if_pos c2).symm.trans hF
    subst hF
    rw [hQ]
    exact rw_v X hS hP hD hs ⟨h_k0, h_k2, h_k1⟩ dX2_answer_16
def FX8_ask (ro_pupils : Int32) (ro_mood : Int32) (ro_letters : Nat → Int32) (ro_rows : Nat → Int32) (ro_columns : Nat → Int32) (ro_needs : Nat → Int32) (le_seed : Int64) (le_questions : Int32) (le_rightOnes : Int32) (le_wrongOnes : Int32) (le_dares : Nat → Int32) (le_times : Nat → Int32) (p1 : Int32) (p2 : Int32) (p3 : Int32) (p4 : Int32) : Option (Int32 × Int64 × Int32 × (Nat → Int32) × Int32 × (Nat → Int32) × Int32) :=
  if (FX8_noRule p3) = true then (some ((-1 : Int32), le_seed, le_questions, le_times, le_wrongOnes, le_dares, le_rightOnes)) else (if (FX3_noBits ro_pupils p1) = true then (some ((-2 : Int32), le_seed, le_questions, le_times, le_wrongOnes, le_dares, le_rightOnes)) else (if (FX8_noSeconds p2) = true then (some ((-2 : Int32), le_seed, le_questions, le_times, le_wrongOnes, le_dares, le_rightOnes)) else ((FX3_choose ro_pupils ro_mood ro_letters ro_needs le_seed le_dares ro_rows ro_columns le_times p1 p2 p3).bind fun u4 => nmb (FX2_answer le_questions le_rightOnes le_wrongOnes le_times le_dares u4.1 (bi (FX3_isRight ro_needs u4.1 (bi (FX8_isIn p1 u4.1)) p2)) p4) fun u6 => some (u4.1, u4.2, u6.1, u6.2.1, u6.2.2.1, u6.2.2.2.1, u6.2.2.2.2))))
def rm_X8_ask : Room := { frames := 6, cells := 0, slots := 0, locals := 134 }
set_option maxHeartbeats 4000000 in
set_option maxRecDepth 100000 in
theorem c_X8_ask (l : Launch) (D : va_G) (cI cJ cZ : ClassId) (a : Nat → Nat) (ws0 : va_W) (A : Nat → Prop)  (ro_pupils : Int32) (ro_mood : Int32) (ro_letters : Nat → Int32) (ro_rows : Nat → Int32) (ro_columns : Nat → Int32) (ro_needs : Nat → Int32) (le_seed : Int64) (le_questions : Int32) (le_rightOnes : Int32) (le_wrongOnes : Int32) (le_isKept : Int32) (le_dares : Nat → Int32) (le_times : Nat → Int32) (p1 : Int32) (p2 : Int32) (p3 : Int32) (p4 : Int32) (u : Int32 × Int64 × Int32 × (Nat → Int32) × Int32 × (Nat → Int32) × Int32) (hF : FX8_ask ro_pupils ro_mood ro_letters ro_rows ro_columns ro_needs le_seed le_questions le_rightOnes le_wrongOnes le_dares le_times p1 p2 p3 p4 = some u) (z0 : ws0[0]? = some (a 0, .inr (8, [.ref (a 1), .ref (a 3), .ref (a 13), .ref (a 16), .ref (a 22), .ref (a 25), .ref (a 28), .ref (a 33)]))) (z3 : ws0[3]? = some (a 3, .inr (3, [.ref (a 4), .ref (a 5), .ref (a 6), .ref (a 7), .ref (a 8), .ref (a 9), .ref (a 10), .int ro_pupils, .int ro_mood]))) (z4 : ws0[4]? = some (a 4, .inl (cI, 12, .inl ro_letters))) (z5 : ws0[5]? = some (a 5, .inl (cI, 12, .inl ro_rows))) (z6 : ws0[6]? = some (a 6, .inl (cI, 12, .inl ro_columns))) (z8 : ws0[8]? = some (a 8, .inl (cI, 12, .inl ro_needs))) (z10 : ws0[10]? = some (a 10, .inr (2, [.ref (a 11), .ref (a 12), .long le_seed, .int le_questions, .int le_rightOnes, .int le_wrongOnes, .int le_isKept]))) (z11 : ws0[11]? = some (a 11, .inl (cI, 12, .inl le_dares))) (z12 : ws0[12]? = some (a 12, .inl (cI, 12, .inl le_times))) (hD : va_D A ws0) : Met l yX8_ask (wq yX8_ask cX8_ask 6 (some .int)) rm_X8_ask (Pq [.ref (a 0), .int p1, .int p2, .int p3, .int p4] D cI cJ cZ ws0) (Qw D A ws0 [10, 12, 11] (some (.int u.1)) (fun w => w[10]? = some (a 10, .inr (2, [.ref (a 11), .ref (a 12), .long u.2.1, .int u.2.2.1, .int u.2.2.2.2.2.2, .int u.2.2.2.2.1, .int le_isKept])) ∧ w[12]? = some (a 12, .inl (cI, 12, .inl u.2.2.2.1)) ∧ w[11]? = some (a 11, .inl (cI, 12, .inl u.2.2.2.2.2.1)))) 0 0 A := by
  refine mq_of (by decide) (Nat.le_of_ble_eq_true rfl) (fun p e s m args below meth c ls Q hQ X _ hP hl => ?_)
  obtain ⟨hx, hb, hr, hml, hown, hts, hlk, hK, hN⟩ := id X
  have hown : s.vm.findClass RX8 = some m.cls := hown
  have hl : lv_has ls 6 [(0, .ref (a 0)), (1, .int p1), (2, .int p2), (3, .int p3), (4, .int p4)] := hl
  have hS : va_S A s.heap s.heap [] := va_S.rf
  have hs : ∀ j : Nat, j ∉ [10, 12, 11] → ws0[j]? = ws0[j]? := fun _ _ => rfl
  have h0 := z0
  have h3 := z3
  have h4 := z4
  have h5 := z5
  have h6 := z6
  have h8 := z8
  have h10 := z10
  have h11 := z11
  have h12 := z12
  unfold FX8_ask at hF
  refine lv_iload_n hx hb dX8_ask_0 rfl (lv_at hl 3 rfl) ?_
  refine rd_i (runS (As := [.int p3]) (rest := []) X cq_X8_noRule lk_X8_144 (c_X8_noRule l D cI cJ cZ a ws0 p3 _ rfl ) rfl rfl ⟨Nat.le_of_ble_eq_true rfl, Nat.le_of_ble_eq_true rfl⟩ hP rfl hl.1 rfl (Nat.le_of_ble_eq_true rfl) dX8_ask_1 ⟨Nat.le_of_ble_eq_true rfl, Nat.le_of_ble_eq_true rfl⟩) ?_
  refine zf_eq (tgt := 9) hx hb dX8_ask_4 (by decide) (fun c1 => ?_) (fun c1 => ?_)
  · replace hF := (if_neg c1).symm.trans hF
    refine lv_aload_n hx hb dX8_ask_9 rfl (lv_at hl 0 rfl) ?_
    refine gf_X8_19 hx hb hts hown hK hP h0 dX8_ask_10 ?_
    refine lv_iload_n hx hb dX8_ask_13 rfl (lv_at hl 1 rfl) ?_
    refine rd_i (runVN (As := [.int p1]) (rest := []) X cq_X3_noBits lk_X8_168 (c_X3_noBits l D cI cJ cZ a ws0 ro_pupils ro_mood p1 _ rfl h3) rfl rfl ⟨Nat.le_of_ble_eq_true rfl, Nat.le_of_ble_eq_true rfl⟩ hP h3 rfl rfl hl.1 rfl (Nat.le_of_ble_eq_true rfl) dX8_ask_14 ⟨Nat.le_of_ble_eq_true rfl, Nat.le_of_ble_eq_true rfl⟩) ?_
    refine zf_ne (tgt := 27) hx hb dX8_ask_17 (by decide) (fun c2 => ?_) (fun c2 => ?_)
    · replace hF := (if_pos c2).symm.trans hF
      refine lv_bipush (v := (-2 : Int32)) hx hb dX8_ask_27 (by decide) ?_
      obtain rfl := Option.some.inj hF
      rw [hQ]
      exact rw_i X hS hP hD hs ⟨h10, h12, h11⟩ dX8_ask_29
    · replace hF := (if_neg c2).symm.trans hF
      refine lv_iload_n hx hb dX8_ask_20 rfl (lv_at hl 2 rfl) ?_
      refine rd_i (runS (As := [.int p2]) (rest := []) X cq_X8_noSeconds lk_X8_99 (c_X8_noSeconds l D cI cJ cZ a ws0 p2 _ rfl ) rfl rfl ⟨Nat.le_of_ble_eq_true rfl, Nat.le_of_ble_eq_true rfl⟩ hP rfl hl.1 rfl (Nat.le_of_ble_eq_true rfl) dX8_ask_21 ⟨Nat.le_of_ble_eq_true rfl, Nat.le_of_ble_eq_true rfl⟩) ?_
      refine zf_eq (tgt := 30) hx hb dX8_ask_24 (by decide) (fun c3 => ?_) (fun c3 => ?_)
      · replace hF := (if_neg c3).symm.trans hF
        refine lv_aload_n hx hb dX8_ask_30 rfl (lv_at hl 0 rfl) ?_
        refine gf_X8_19 hx hb hts hown hK hP h0 dX8_ask_31 ?_
        refine lv_iload_n hx hb dX8_ask_34 rfl (lv_at hl 1 rfl) ?_
        refine lv_iload_n hx hb dX8_ask_35 rfl (lv_at hl 2 rfl) ?_
        refine lv_iload_n hx hb dX8_ask_36 rfl (lv_at hl 3 rfl) ?_
        obtain ⟨u4, hu4, hF⟩ := bd_some hF
        refine wr_i (runVN (As := [.int p1, .int p2, .int p3]) (rest := []) X cq_X3_choose lk_X8_181 (c_X3_choose l D cI cJ cZ a ws0 A ro_pupils ro_mood ro_letters ro_needs le_seed le_questions le_rightOnes le_wrongOnes le_isKept le_dares ro_rows ro_columns le_times p1 p2 p3 u4 hu4 h3 h4 h5 h6 h8 h10 h11 h12 hD) rfl rfl ⟨Nat.le_of_ble_eq_true rfl, Nat.le_of_ble_eq_true rfl⟩ hP h3 rfl rfl hl.1 rfl (Nat.le_of_ble_eq_true rfl) dX8_ask_37 ⟨Nat.le_of_ble_eq_true rfl, Nat.le_of_ble_eq_true rfl⟩) hS (fun w5 H locs hP hD hk hB hS => ?_)
        have h10 : w5[10]? = some (a 10, .inr (2, [.ref (a 11), .ref (a 12), .long u4.2, .int le_questions, .int le_rightOnes, .int le_wrongOnes, .int le_isKept])) := hB
        have h0 := (hk 0 (by simp only [List.mem_cons, List.not_mem_nil, or_false, not_or]; omega)).trans h0
        have h3 := (hk 3 (by simp only [List.mem_cons, List.not_mem_nil, or_false, not_or]; omega)).trans h3
        have h4 := (hk 4 (by simp only [List.mem_cons, List.not_mem_nil, or_false, not_or]; omega)).trans h4
        have h5 := (hk 5 (by simp only [List.mem_cons, List.not_mem_nil, or_false, not_or]; omega)).trans h5
        have h6 := (hk 6 (by simp only [List.mem_cons, List.not_mem_nil, or_false, not_or]; omega)).trans h6
        have h8 := (hk 8 (by simp only [List.mem_cons, List.not_mem_nil, or_false, not_or]; omega)).trans h8
        have h11 := (hk 11 (by simp only [List.mem_cons, List.not_mem_nil, or_false, not_or]; omega)).trans h11
        have h12 := (hk 12 (by simp only [List.mem_cons, List.not_mem_nil, or_false, not_or]; omega)).trans h12
        replace hs := st_tr hk (fun j hj => by simp only [List.mem_cons, List.not_mem_nil, or_false] at hj ⊢; omega) hs
        refine lv_istore (lv' := [(5, .int u4.1), (0, .ref (a 0)), (1, .int p1), (2, .int p2), (3, .int p3), (4, .int p4)]) hx hb dX8_ask_40 hl (by decide) rfl (fun ls hl => ?_)
        refine lv_aload_n hx hb dX8_ask_42 rfl (lv_at hl 1 rfl) ?_
        refine gf_X8_19 hx hb hts hown hK hP h0 dX8_ask_43 ?_
        refine gf_X8_174 hx hb hts hown hK hN hP h3 dX8_ask_46 ?_
        refine lv_iload hx hb dX8_ask_49 (lv_at hl 0 rfl) ?_
        refine lv_aload_n hx hb dX8_ask_51 rfl (lv_at hl 1 rfl) ?_
        refine gf_X8_19 hx hb hts hown hK hP h0 dX8_ask_52 ?_
        refine lv_iload hx hb dX8_ask_55 (lv_at hl 0 rfl) ?_
        refine lv_iload_n hx hb dX8_ask_57 rfl (lv_at hl 2 rfl) ?_
        refine lv_iload hx hb dX8_ask_58 (lv_at hl 0 rfl) ?_
        refine rd_i (runS (As := [.int p1, .int u4.1]) (rest := [.int u4.1, .ref (a 3), .int u4.1, .ref (a 10)]) X cq_X8_isIn lk_X8_185 (c_X8_isIn l D cI cJ cZ a w5 p1 u4.1 _ rfl ) rfl rfl ⟨Nat.le_of_ble_eq_true rfl, Nat.le_of_ble_eq_true rfl⟩ hP rfl hl.1 rfl (Nat.le_of_ble_eq_true rfl) dX8_ask_60 ⟨Nat.le_of_ble_eq_true rfl, Nat.le_of_ble_eq_true rfl⟩) ?_
        refine lv_iload_n hx hb dX8_ask_63 rfl (lv_at hl 3 rfl) ?_
        refine rd_i (runVN (As := [.int u4.1, .int (bi (FX8_isIn p1 u4.1)), .int p2]) (rest := [.int u4.1, .ref (a 10)]) X cq_X3_isRight lk_X8_189 (c_X3_isRight l D cI cJ cZ a w5 ro_pupils ro_mood ro_needs u4.1 (bi (FX8_isIn p1 u4.1)) p2 _ rfl h3 h8) rfl rfl ⟨Nat.le_of_ble_eq_true rfl, Nat.le_of_ble_eq_true rfl⟩ hP h3 rfl rfl hl.1 rfl (Nat.le_of_ble_eq_true rfl) dX8_ask_64 ⟨Nat.le_of_ble_eq_true rfl, Nat.le_of_ble_eq_true rfl⟩) ?_
        refine lv_iload hx hb dX8_ask_67 (lv_at hl 5 rfl) ?_
        obtain ⟨u6, e_u6⟩ : ∃ q, q = FX2_answer le_questions le_rightOnes le_wrongOnes le_times le_dares u4.1 (bi (FX3_isRight ro_needs u4.1 (bi (FX8_isIn p1 u4.1)) p2)) p4 := ⟨_, rfl⟩
        replace hF := nm_at hF e_u6
        refine wr_v (runVN (As := [.int u4.1, .int (bi (FX3_isRight ro_needs u4.1 (bi (FX8_isIn p1 u4.1)) p2)), .int p4]) (rest := []) X cq_X2_answer lk_X8_193 (c_X2_answer l D cI cJ cZ a w5 A 10 u4.2 le_questions le_rightOnes le_wrongOnes le_isKept le_times le_dares u4.1 (bi (FX3_isRight ro_needs u4.1 (bi (FX8_isIn p1 u4.1)) p2)) p4 u6 e_u6.symm h10 h11 h12 hD) rfl rfl ⟨Nat.le_of_ble_eq_true rfl, Nat.le_of_ble_eq_true rfl⟩ hP h10 rfl rfl hl.1 rfl (Nat.le_of_ble_eq_true rfl) dX8_ask_69 ⟨Nat.le_of_ble_eq_true rfl, Nat.le_of_ble_eq_true rfl⟩) hS (fun w7 H locs hP hD hk hB hS => ?_)
        obtain ⟨hB0, hB1, hB2⟩ := hB
        have h10 : w7[10]? = some (a 10, .inr (2, [.ref (a 11), .ref (a 12), .long u4.2, .int u6.1, .int u6.2.2.2.2, .int u6.2.2.1, .int le_isKept])) := hB0
        have h12 : w7[12]? = some (a 12, .inl (cI, 12, .inl u6.2.1)) := hB1
        have h11 : w7[11]? = some (a 11, .inl (cI, 12, .inl u6.2.2.2.1)) := hB2
        have h0 := (hk 0 (by simp only [List.mem_cons, List.not_mem_nil, or_false, not_or]; omega)).trans h0
        have h3 := (hk 3 (by simp only [List.mem_cons, List.not_mem_nil, or_false, not_or]; omega)).trans h3
        have h4 := (hk 4 (by simp only [List.mem_cons, List.not_mem_nil, or_false, not_or]; omega)).trans h4
        have h5 := (hk 5 (by simp only [List.mem_cons, List.not_mem_nil, or_false, not_or]; omega)).trans h5
        have h6 := (hk 6 (by simp only [List.mem_cons, List.not_mem_nil, or_false, not_or]; omega)).trans h6
        have h8 := (hk 8 (by simp only [List.mem_cons, List.not_mem_nil, or_false, not_or]; omega)).trans h8
        replace hs := st_tr hk (fun j hj => by simp only [List.mem_cons, List.not_mem_nil, or_false] at hj ⊢; omega) hs
        refine lv_iload hx hb dX8_ask_72 (lv_at hl 0 rfl) ?_
        obtain rfl := Option.some.inj hF
        rw [hQ]
        exact rw_i X hS hP hD hs ⟨h10, h12, h11⟩ dX8_ask_74
      · replace hF := (if_pos c3).symm.trans hF
        refine lv_bipush (v := (-2 : Int32)) hx hb dX8_ask_27 (by decide) ?_
        obtain rfl := Option.some.inj hF
        rw [hQ]
        exact rw_i X hS hP hD hs ⟨h10, h12, h11⟩ dX8_ask_29
  · replace hF := (if_pos c1).symm.trans hF
    refine lv_iconst (v := (-1 : Int32)) hx hb dX8_ask_7 (by decide) ?_
    obtain rfl := Option.some.inj hF
    rw [hQ]
    exact rw_i X hS hP hD hs ⟨h10, h12, h11⟩ dX8_ask_8
def FX3_neverTaken_S4 (ro_pupils : Int32) (le_times : Nat → Int32) (x1 : Int32) (x2 : Int32) : Option ((Int32 × Int32) ⊕ (Int32)) :=
  if ro_pupils ≤ x2 then (some (.inr x1)) else (if (gat le_times 12 x2) = 0 then (some (.inl (x1 + (1 : Int32), x2 + (1 : Int32)))) else (some (.inl (x1, x2 + (1 : Int32)))))
def FX3_neverTaken (ro_pupils : Int32) (le_times : Nat → Int32) : Option (Int32) :=
  (itr (fun v => FX3_neverTaken_S4 ro_pupils le_times v.1 v.2) fu ((0 : Int32), (0 : Int32))).bind fun o5 => some o5
def rm_X3_neverTaken : Room := { frames := 1, cells := 0, slots := 0, locals := 21 }
set_option maxHeartbeats 4000000 in
set_option maxRecDepth 100000 in
theorem c_X3_neverTaken (l : Launch) (D : va_G) (cI cJ cZ : ClassId) (a : Nat → Nat) (ws0 : va_W)  (ro_pupils : Int32) (ro_mood : Int32) (le_seed : Int64) (le_questions : Int32) (le_rightOnes : Int32) (le_wrongOnes : Int32) (le_isKept : Int32) (le_times : Nat → Int32)  (u : Int32) (hF : FX3_neverTaken ro_pupils le_times = some u) (h3 : ws0[3]? = some (a 3, .inr (3, [.ref (a 4), .ref (a 5), .ref (a 6), .ref (a 7), .ref (a 8), .ref (a 9), .ref (a 10), .int ro_pupils, .int ro_mood]))) (h10 : ws0[10]? = some (a 10, .inr (2, [.ref (a 11), .ref (a 12), .long le_seed, .int le_questions, .int le_rightOnes, .int le_wrongOnes, .int le_isKept]))) (h12 : ws0[12]? = some (a 12, .inl (cI, 12, .inl le_times))) : Met l yX3_neverTaken (wq yX3_neverTaken cX3_neverTaken 3 (some .int)) rm_X3_neverTaken (Pq [.ref (a 3)] D cI cJ cZ ws0) (Qq (some (.int u))) 0 0 (fun _ => False) := by
  refine mq_of (by decide) (Nat.le_of_ble_eq_true rfl) (fun p e s m args below meth c ls Q hQ X _ hP hl => ?_)
  obtain ⟨hx, hb, hr, hml, hown, hts, hlk, hK, hN⟩ := id X
  have hown : s.vm.findClass RX3 = some m.cls := hown
  have hl : lv_has ls 3 [(0, .ref (a 3))] := hl
  unfold FX3_neverTaken at hF
  refine lv_iconst (v := (0 : Int32)) hx hb dX3_neverTaken_0 (by decide) ?_
  refine lv_istore_n (lv' := [(1, .int (0 : Int32)), (0, .ref (a 3))]) hx hb dX3_neverTaken_1 rfl hl (by decide) rfl (fun ls hl => ?_)
  refine lv_iconst (v := (0 : Int32)) hx hb dX3_neverTaken_2 (by decide) ?_
  refine lv_istore_n (lv' := [(2, .int (0 : Int32)), (1, .int (0 : Int32)), (0, .ref (a 3))]) hx hb dX3_neverTaken_3 rfl hl (by decide) rfl (fun ls hl => ?_)
  have hL4 : ∀ (nf : Nat) (x1 : Int32) (x2 : Int32) (r : Int32), itr (fun v => FX3_neverTaken_S4 ro_pupils le_times v.1 v.2) nf (x1, x2) = some r → ∀ ls, lv_has ls 3 [(2, .int x2), (1, .int x1), (0, .ref (a 3))] → (∀ o : Int32, r = o → ∀ ls, lv_has ls 3 [(1, .int o)] → W p l e rm_X3_neverTaken s m args below meth c s.heap [] 0 0 Q (F0 m 35 ls [])) → W p l e rm_X3_neverTaken s m args below meth c s.heap [] 0 0 Q (F0 m 4 ls []) := by
    intro nf
    induction nf with
    | zero => intro _ _ r hF; exact (itr_0 hF).elim
    | succ nf ih =>
      intro x1 x2 r hF ls hl hE
      obtain ⟨wo, hF, hw⟩ := itr_s hF
      replace hF : FX3_neverTaken_S4 ro_pupils le_times x1 x2 = some wo := hF
      unfold FX3_neverTaken_S4 at hF
      refine lv_iload_n hx hb dX3_neverTaken_4 rfl (lv_at hl 0 rfl) ?_
      refine lv_aload_n hx hb dX3_neverTaken_5 rfl (lv_at hl 2 rfl) ?_
      refine gf_X3_46 hx hb hts hown hK hP h3 dX3_neverTaken_6 ?_
      refine lv_icmp_ge (tgt := 35) hx hb dX3_neverTaken_9 (by decide) (fun c3 => ?_) (fun c3 => ?_)
      · replace hF := (if_pos c3).symm.trans hF
        obtain rfl := Option.some.inj hF
        obtain rfl := hw
        exact hE _ rfl ls (lv_sub hl [1] rfl)
      · replace hF := (if_neg c3).symm.trans hF
        refine lv_aload_n hx hb dX3_neverTaken_12 rfl (lv_at hl 2 rfl) ?_
        refine gf_X3_33 hx hb hts hown hK hP h3 dX3_neverTaken_13 ?_
        refine gf_X3_82 hx hb hts hown hK hN hP h10 dX3_neverTaken_16 ?_
        refine lv_iload_n hx hb dX3_neverTaken_19 rfl (lv_at hl 0 rfl) ?_
        refine rd_i (runSN (As := [.ref (a 12), .int x2]) (rest := []) X cq_X8_at lk_X3_74 (t_X8_at l D cI cJ cZ a ws0 12 le_times 12 x2 _ rfl h12 (by decide)) rfl rfl ⟨Nat.le_of_ble_eq_true rfl, Nat.le_of_ble_eq_true rfl⟩ hP rfl hl.1 rfl (Nat.le_of_ble_eq_true rfl) dX3_neverTaken_20 ⟨Nat.le_of_ble_eq_true rfl, Nat.le_of_ble_eq_true rfl⟩) ?_
        refine lv_if_ne (tgt := 29) hx hb dX3_neverTaken_23 (by decide) (fun c4 => ?_) (fun c4 => ?_)
        · replace hF := (if_neg c4).symm.trans hF
          refine lv_iinc (v := x2 + (1 : Int32)) (lv' := [(2, .int (x2 + (1 : Int32))), (1, .int x1), (0, .ref (a 3))]) hx hb dX3_neverTaken_29 hl (k := 0) rfl rfl (by decide) rfl (fun ls hl => ?_)
          refine lv_goto (tgt := 4) hx hb dX3_neverTaken_32 (by decide) ?_
          obtain rfl := Option.some.inj hF
          exact ih _ _ _ hw ls (lv_sub hl [0, 1, 2] rfl) hE
        · replace hF := (if_pos c4).symm.trans hF
          refine lv_iinc (v := x1 + (1 : Int32)) (lv' := [(1, .int (x1 + (1 : Int32))), (2, .int x2), (0, .ref (a 3))]) hx hb dX3_neverTaken_26 hl (k := 1) rfl rfl (by decide) rfl (fun ls hl => ?_)
          refine lv_iinc (v := x2 + (1 : Int32)) (lv' := [(2, .int (x2 + (1 : Int32))), (1, .int (x1 + (1 : Int32))), (0, .ref (a 3))]) hx hb dX3_neverTaken_29 hl (k := 1) rfl rfl (by decide) rfl (fun ls hl => ?_)
          refine lv_goto (tgt := 4) hx hb dX3_neverTaken_32 (by decide) ?_
          obtain rfl := Option.some.inj hF
          exact ih _ _ _ hw ls (lv_sub hl [0, 1, 2] rfl) hE
  obtain ⟨o5, ho5, hF⟩ := bd_some hF
  refine hL4 fu (0 : Int32) (0 : Int32) o5 ho5 ls (lv_sub hl [0, 1, 2] rfl) ?_
  intro _ q_o5 ls hl
  subst q_o5
  refine lv_iload_n hx hb dX3_neverTaken_35 rfl (lv_at hl 0 rfl) ?_
  obtain rfl := Option.some.inj hF
  rw [hQ]
  exact rt_i X dX3_neverTaken_36
def FX3_mostTimes_S4 (ro_pupils : Int32) (le_times : Nat → Int32) (x1 : Int32) (x2 : Int32) : Option ((Int32 × Int32) ⊕ (Int32)) :=
  if ro_pupils ≤ x2 then (some (.inr x1)) else (some (.inl ((if x1 < (gat le_times 12 x2) then (gat le_times 12 x2) else x1), x2 + (1 : Int32))))
def FX3_mostTimes (ro_pupils : Int32) (le_times : Nat → Int32) : Option (Int32) :=
  (itr (fun v => FX3_mostTimes_S4 ro_pupils le_times v.1 v.2) fu ((0 : Int32), (0 : Int32))).bind fun o4 => some o4
def rm_X3_mostTimes : Room := { frames := 1, cells := 0, slots := 0, locals := 21 }
set_option maxHeartbeats 4000000 in
set_option maxRecDepth 100000 in
theorem c_X3_mostTimes (l : Launch) (D : va_G) (cI cJ cZ : ClassId) (a : Nat → Nat) (ws0 : va_W)  (ro_pupils : Int32) (ro_mood : Int32) (le_seed : Int64) (le_questions : Int32) (le_rightOnes : Int32) (le_wrongOnes : Int32) (le_isKept : Int32) (le_times : Nat → Int32)  (u : Int32) (hF : FX3_mostTimes ro_pupils le_times = some u) (h3 : ws0[3]? = some (a 3, .inr (3, [.ref (a 4), .ref (a 5), .ref (a 6), .ref (a 7), .ref (a 8), .ref (a 9), .ref (a 10), .int ro_pupils, .int ro_mood]))) (h10 : ws0[10]? = some (a 10, .inr (2, [.ref (a 11), .ref (a 12), .long le_seed, .int le_questions, .int le_rightOnes, .int le_wrongOnes, .int le_isKept]))) (h12 : ws0[12]? = some (a 12, .inl (cI, 12, .inl le_times))) : Met l yX3_mostTimes (wq yX3_mostTimes cX3_mostTimes 3 (some .int)) rm_X3_mostTimes (Pq [.ref (a 3)] D cI cJ cZ ws0) (Qq (some (.int u))) 0 0 (fun _ => False) := by
  refine mq_of (by decide) (Nat.le_of_ble_eq_true rfl) (fun p e s m args below meth c ls Q hQ X _ hP hl => ?_)
  obtain ⟨hx, hb, hr, hml, hown, hts, hlk, hK, hN⟩ := id X
  have hown : s.vm.findClass RX3 = some m.cls := hown
  have hl : lv_has ls 3 [(0, .ref (a 3))] := hl
  unfold FX3_mostTimes at hF
  refine lv_iconst (v := (0 : Int32)) hx hb dX3_mostTimes_0 (by decide) ?_
  refine lv_istore_n (lv' := [(1, .int (0 : Int32)), (0, .ref (a 3))]) hx hb dX3_mostTimes_1 rfl hl (by decide) rfl (fun ls hl => ?_)
  refine lv_iconst (v := (0 : Int32)) hx hb dX3_mostTimes_2 (by decide) ?_
  refine lv_istore_n (lv' := [(2, .int (0 : Int32)), (1, .int (0 : Int32)), (0, .ref (a 3))]) hx hb dX3_mostTimes_3 rfl hl (by decide) rfl (fun ls hl => ?_)
  have hL4 : ∀ (nf : Nat) (x1 : Int32) (x2 : Int32) (r : Int32), itr (fun v => FX3_mostTimes_S4 ro_pupils le_times v.1 v.2) nf (x1, x2) = some r → ∀ ls, lv_has ls 3 [(2, .int x2), (1, .int x1), (0, .ref (a 3))] → (∀ o : Int32, r = o → ∀ ls, lv_has ls 3 [(1, .int o)] → W p l e rm_X3_mostTimes s m args below meth c s.heap [] 0 0 Q (F0 m 34 ls [])) → W p l e rm_X3_mostTimes s m args below meth c s.heap [] 0 0 Q (F0 m 4 ls []) := by
    intro nf
    induction nf with
    | zero => intro _ _ r hF; exact (itr_0 hF).elim
    | succ nf ih =>
      intro x1 x2 r hF ls hl hE
      obtain ⟨wo, hF, hw⟩ := itr_s hF
      replace hF : FX3_mostTimes_S4 ro_pupils le_times x1 x2 = some wo := hF
      unfold FX3_mostTimes_S4 at hF
      refine lv_iload_n hx hb dX3_mostTimes_4 rfl (lv_at hl 0 rfl) ?_
      refine lv_aload_n hx hb dX3_mostTimes_5 rfl (lv_at hl 2 rfl) ?_
      refine gf_X3_46 hx hb hts hown hK hP h3 dX3_mostTimes_6 ?_
      refine lv_icmp_ge (tgt := 34) hx hb dX3_mostTimes_9 (by decide) (fun c3 => ?_) (fun c3 => ?_)
      · replace hF := (if_pos c3).symm.trans hF
        obtain rfl := Option.some.inj hF
        obtain rfl := hw
        exact hE _ rfl ls (lv_sub hl [1] rfl)
      · replace hF := (if_neg c3).symm.trans hF
        refine lv_iload_n hx hb dX3_mostTimes_12 rfl (lv_at hl 1 rfl) ?_
        refine lv_aload_n hx hb dX3_mostTimes_13 rfl (lv_at hl 2 rfl) ?_
        refine gf_X3_33 hx hb hts hown hK hP h3 dX3_mostTimes_14 ?_
        refine gf_X3_82 hx hb hts hown hK hN hP h10 dX3_mostTimes_17 ?_
        refine lv_iload_n hx hb dX3_mostTimes_20 rfl (lv_at hl 0 rfl) ?_
        refine rd_i (runSN (As := [.ref (a 12), .int x2]) (rest := [.int x1]) X cq_X8_at lk_X3_74 (t_X8_at l D cI cJ cZ a ws0 12 le_times 12 x2 _ rfl h12 (by decide)) rfl rfl ⟨Nat.le_of_ble_eq_true rfl, Nat.le_of_ble_eq_true rfl⟩ hP rfl hl.1 rfl (Nat.le_of_ble_eq_true rfl) dX3_mostTimes_21 ⟨Nat.le_of_ble_eq_true rfl, Nat.le_of_ble_eq_true rfl⟩) ?_
        refine va_mmax hx hb (hml.trans hl.1.symm) hown (hts _ lk_X3_134) (hts _ mts_max) (hts _ mti) (hts _ mtc_max) (Nat.le_of_ble_eq_true rfl) (Nat.le_of_ble_eq_true rfl) (Nat.le_of_ble_eq_true rfl) (Nat.le_of_ble_eq_true rfl) dX3_mostTimes_24 ?_
        refine lv_istore_n (lv' := [(1, .int (if x1 < (gat le_times 12 x2) then (gat le_times 12 x2) else x1)), (2, .int x2), (0, .ref (a 3))]) hx hb dX3_mostTimes_27 rfl hl (by decide) rfl (fun ls hl => ?_)
        refine lv_iinc (v := x2 + (1 : Int32)) (lv' := [(2, .int (x2 + (1 : Int32))), (1, .int (if x1 < (gat le_times 12 x2) then (gat le_times 12 x2) else x1)), (0, .ref (a 3))]) hx hb dX3_mostTimes_28 hl (k := 1) rfl rfl (by decide) rfl (fun ls hl => ?_)
        refine lv_goto (tgt := 4) hx hb dX3_mostTimes_31 (by decide) ?_
        obtain rfl := Option.some.inj hF
        exact ih _ _ _ hw ls (lv_sub hl [0, 1, 2] rfl) hE
  obtain ⟨o4, ho4, hF⟩ := bd_some hF
  refine hL4 fu (0 : Int32) (0 : Int32) o4 ho4 ls (lv_sub hl [0, 1, 2] rfl) ?_
  intro _ q_o4 ls hl
  subst q_o4
  refine lv_iload_n hx hb dX3_mostTimes_34 rfl (lv_at hl 0 rfl) ?_
  obtain rfl := Option.some.inj hF
  rw [hQ]
  exact rt_i X dX3_mostTimes_35
def FX8_lesson (ro_pupils : Int32) (le_questions : Int32) (le_rightOnes : Int32) (le_wrongOnes : Int32) (le_times : Nat → Int32) (p1 : Int32) : Option (Int32) :=
  if p1 = (0 : Int32) then (some le_questions) else if p1 = (1 : Int32) then (some le_rightOnes) else if p1 = (2 : Int32) then (some le_wrongOnes) else if p1 = (3 : Int32) then (some ((le_questions - le_rightOnes) - le_wrongOnes)) else if p1 = (4 : Int32) then ((FX3_neverTaken ro_pupils le_times).bind fun x6 => some x6) else if p1 = (5 : Int32) then ((FX3_mostTimes ro_pupils le_times).bind fun x8 => some x8) else some (-2 : Int32)
def rm_X8_lesson : Room := { frames := 2, cells := 0, slots := 0, locals := 43 }
set_option maxHeartbeats 4000000 in
set_option maxRecDepth 100000 in
theorem c_X8_lesson (l : Launch) (D : va_G) (cI cJ cZ : ClassId) (a : Nat → Nat) (ws0 : va_W)  (ro_pupils : Int32) (ro_mood : Int32) (le_seed : Int64) (le_questions : Int32) (le_rightOnes : Int32) (le_wrongOnes : Int32) (le_isKept : Int32) (le_times : Nat → Int32) (p1 : Int32) (u : Int32) (hF : FX8_lesson ro_pupils le_questions le_rightOnes le_wrongOnes le_times p1 = some u) (h0 : ws0[0]? = some (a 0, .inr (8, [.ref (a 1), .ref (a 3), .ref (a 13), .ref (a 16), .ref (a 22), .ref (a 25), .ref (a 28), .ref (a 33)]))) (h3 : ws0[3]? = some (a 3, .inr (3, [.ref (a 4), .ref (a 5), .ref (a 6), .ref (a 7), .ref (a 8), .ref (a 9), .ref (a 10), .int ro_pupils, .int ro_mood]))) (h10 : ws0[10]? = some (a 10, .inr (2, [.ref (a 11), .ref (a 12), .long le_seed, .int le_questions, .int le_rightOnes, .int le_wrongOnes, .int le_isKept]))) (h12 : ws0[12]? = some (a 12, .inl (cI, 12, .inl le_times))) : Met l yX8_lesson (wq yX8_lesson cX8_lesson 2 (some .int)) rm_X8_lesson (Pq [.ref (a 0), .int p1] D cI cJ cZ ws0) (Qq (some (.int u))) 0 0 (fun _ => False) := by
  refine mq_of (by decide) (Nat.le_of_ble_eq_true rfl) (fun p e s m args below meth c ls Q hQ X _ hP hl => ?_)
  obtain ⟨hx, hb, hr, hml, hown, hts, hlk, hK, hN⟩ := id X
  have hown : s.vm.findClass RX8 = some m.cls := hown
  have hl : lv_has ls 2 [(0, .ref (a 0)), (1, .int p1)] := hl
  unfold FX8_lesson at hF
  refine lv_iload_n hx hb dX8_lesson_0 rfl (lv_at hl 1 rfl) ?_
  by_cases c1 : p1 = (0 : Int32)
  · replace hF := (if_pos c1).symm.trans hF
    refine lv_tableIn (tgt := 40) (off := 39) hx hb dX8_lesson_1 (by rw [c1]; decide) (by rw [c1]; decide) (by rw [c1]; rfl) (by decide) ?_
    refine lv_aload_n hx hb dX8_lesson_40 rfl (lv_at hl 0 rfl) ?_
    refine gf_X8_19 hx hb hts hown hK hP h0 dX8_lesson_41 ?_
    refine gf_X8_174 hx hb hts hown hK hN hP h3 dX8_lesson_44 ?_
    refine gf_X8_197 hx hb hts hown hK hN hP h10 dX8_lesson_47 ?_
    obtain rfl := Option.some.inj hF
    rw [hQ]
    exact rt_i X dX8_lesson_50
  replace hF := (if_neg c1).symm.trans hF
  by_cases c2 : p1 = (1 : Int32)
  · replace hF := (if_pos c2).symm.trans hF
    refine lv_tableIn (tgt := 51) (off := 50) hx hb dX8_lesson_1 (by rw [c2]; decide) (by rw [c2]; decide) (by rw [c2]; rfl) (by decide) ?_
    refine lv_aload_n hx hb dX8_lesson_51 rfl (lv_at hl 0 rfl) ?_
    refine gf_X8_19 hx hb hts hown hK hP h0 dX8_lesson_52 ?_
    refine gf_X8_174 hx hb hts hown hK hN hP h3 dX8_lesson_55 ?_
    refine gf_X8_200 hx hb hts hown hK hN hP h10 dX8_lesson_58 ?_
    obtain rfl := Option.some.inj hF
    rw [hQ]
    exact rt_i X dX8_lesson_61
  replace hF := (if_neg c2).symm.trans hF
  by_cases c3 : p1 = (2 : Int32)
  · replace hF := (if_pos c3).symm.trans hF
    refine lv_tableIn (tgt := 62) (off := 61) hx hb dX8_lesson_1 (by rw [c3]; decide) (by rw [c3]; decide) (by rw [c3]; rfl) (by decide) ?_
    refine lv_aload_n hx hb dX8_lesson_62 rfl (lv_at hl 0 rfl) ?_
    refine gf_X8_19 hx hb hts hown hK hP h0 dX8_lesson_63 ?_
    refine gf_X8_174 hx hb hts hown hK hN hP h3 dX8_lesson_66 ?_
    refine gf_X8_203 hx hb hts hown hK hN hP h10 dX8_lesson_69 ?_
    obtain rfl := Option.some.inj hF
    rw [hQ]
    exact rt_i X dX8_lesson_72
  replace hF := (if_neg c3).symm.trans hF
  by_cases c4 : p1 = (3 : Int32)
  · replace hF := (if_pos c4).symm.trans hF
    refine lv_tableIn (tgt := 73) (off := 72) hx hb dX8_lesson_1 (by rw [c4]; decide) (by rw [c4]; decide) (by rw [c4]; rfl) (by decide) ?_
    refine lv_aload_n hx hb dX8_lesson_73 rfl (lv_at hl 0 rfl) ?_
    refine gf_X8_19 hx hb hts hown hK hP h0 dX8_lesson_74 ?_
    refine gf_X8_174 hx hb hts hown hK hN hP h3 dX8_lesson_77 ?_
    refine gf_X8_197 hx hb hts hown hK hN hP h10 dX8_lesson_80 ?_
    refine lv_aload_n hx hb dX8_lesson_83 rfl (lv_at hl 0 rfl) ?_
    refine gf_X8_19 hx hb hts hown hK hP h0 dX8_lesson_84 ?_
    refine gf_X8_174 hx hb hts hown hK hN hP h3 dX8_lesson_87 ?_
    refine gf_X8_200 hx hb hts hown hK hN hP h10 dX8_lesson_90 ?_
    refine lv_isub hx hb dX8_lesson_93 ?_
    refine lv_aload_n hx hb dX8_lesson_94 rfl (lv_at hl 0 rfl) ?_
    refine gf_X8_19 hx hb hts hown hK hP h0 dX8_lesson_95 ?_
    refine gf_X8_174 hx hb hts hown hK hN hP h3 dX8_lesson_98 ?_
    refine gf_X8_203 hx hb hts hown hK hN hP h10 dX8_lesson_101 ?_
    refine lv_isub hx hb dX8_lesson_104 ?_
    obtain rfl := Option.some.inj hF
    rw [hQ]
    exact rt_i X dX8_lesson_105
  replace hF := (if_neg c4).symm.trans hF
  by_cases c5 : p1 = (4 : Int32)
  · replace hF := (if_pos c5).symm.trans hF
    refine lv_tableIn (tgt := 106) (off := 105) hx hb dX8_lesson_1 (by rw [c5]; decide) (by rw [c5]; decide) (by rw [c5]; rfl) (by decide) ?_
    refine lv_aload_n hx hb dX8_lesson_106 rfl (lv_at hl 0 rfl) ?_
    refine gf_X8_19 hx hb hts hown hK hP h0 dX8_lesson_107 ?_
    obtain ⟨x6, hx6, hF⟩ := bd_some hF
    refine rd_i (runVN (As := []) (rest := []) X cq_X3_neverTaken lk_X8_206 (c_X3_neverTaken l D cI cJ cZ a ws0 ro_pupils ro_mood le_seed le_questions le_rightOnes le_wrongOnes le_isKept le_times x6 hx6 h3 h10 h12) rfl rfl ⟨Nat.le_of_ble_eq_true rfl, Nat.le_of_ble_eq_true rfl⟩ hP h3 rfl rfl hl.1 rfl (Nat.le_of_ble_eq_true rfl) dX8_lesson_110 ⟨Nat.le_of_ble_eq_true rfl, Nat.le_of_ble_eq_true rfl⟩) ?_
    obtain rfl := Option.some.inj hF
    rw [hQ]
    exact rt_i X dX8_lesson_113
  replace hF := (if_neg c5).symm.trans hF
  by_cases c7 : p1 = (5 : Int32)
  · replace hF := (if_pos c7).symm.trans hF
    refine lv_tableIn (tgt := 114) (off := 113) hx hb dX8_lesson_1 (by rw [c7]; decide) (by rw [c7]; decide) (by rw [c7]; rfl) (by decide) ?_
    refine lv_aload_n hx hb dX8_lesson_114 rfl (lv_at hl 0 rfl) ?_
    refine gf_X8_19 hx hb hts hown hK hP h0 dX8_lesson_115 ?_
    obtain ⟨x8, hx8, hF⟩ := bd_some hF
    refine rd_i (runVN (As := []) (rest := []) X cq_X3_mostTimes lk_X8_209 (c_X3_mostTimes l D cI cJ cZ a ws0 ro_pupils ro_mood le_seed le_questions le_rightOnes le_wrongOnes le_isKept le_times x8 hx8 h3 h10 h12) rfl rfl ⟨Nat.le_of_ble_eq_true rfl, Nat.le_of_ble_eq_true rfl⟩ hP h3 rfl rfl hl.1 rfl (Nat.le_of_ble_eq_true rfl) dX8_lesson_118 ⟨Nat.le_of_ble_eq_true rfl, Nat.le_of_ble_eq_true rfl⟩) ?_
    obtain rfl := Option.some.inj hF
    rw [hQ]
    exact rt_i X dX8_lesson_121
  replace hF := (if_neg c7).symm.trans hF
  have zc1 : ¬ p1.toInt = 0 := fun q => c1 (Int32.toInt_inj.mp (q.trans (by decide)))
  have zc2 : ¬ p1.toInt = 1 := fun q => c2 (Int32.toInt_inj.mp (q.trans (by decide)))
  have zc3 : ¬ p1.toInt = 2 := fun q => c3 (Int32.toInt_inj.mp (q.trans (by decide)))
  have zc4 : ¬ p1.toInt = 3 := fun q => c4 (Int32.toInt_inj.mp (q.trans (by decide)))
  have zc5 : ¬ p1.toInt = 4 := fun q => c5 (Int32.toInt_inj.mp (q.trans (by decide)))
  have zc7 : ¬ p1.toInt = 5 := fun q => c7 (Int32.toInt_inj.mp (q.trans (by decide)))
  refine lv_tableOut (tgt := 122) hx hb dX8_lesson_1 (by omega) (by decide) ?_
  refine lv_bipush (v := (-2 : Int32)) hx hb dX8_lesson_122 (by decide) ?_
  obtain rfl := Option.some.inj hF
  rw [hQ]
  exact rt_i X dX8_lesson_124
def FX5_add (ta_size : Int32) (ta_hands : Nat → Int32) (ta_ones : Nat → Int32) (p1 : Int32) (p2 : Int32) : Int32 × (Nat → Int32) × (Nat → Int32) × Int32 :=
  if ta_size < (12 : Int32) then (nmb (gput ta_hands 12 ta_size p1) fun u2 => nmb (gput ta_ones 12 ta_size p2) fun u4 => (ta_size + (1 : Int32), u2, u4, ta_size + (1 : Int32))) else (((-4 : Int32), ta_hands, ta_ones, ta_size))
def rm_X5_add : Room := { frames := 1, cells := 0, slots := 0, locals := 22 }
set_option maxHeartbeats 4000000 in
set_option maxRecDepth 100000 in
theorem c_X5_add (l : Launch) (D : va_G) (cI cJ cZ : ClassId) (a : Nat → Nat) (ws0 : va_W) (A : Nat → Prop)  (ta_size : Int32) (ta_hands : Nat → Int32) (ta_ones : Nat → Int32) (p1 : Int32) (p2 : Int32) (u : Int32 × (Nat → Int32) × (Nat → Int32) × Int32) (hF : FX5_add ta_size ta_hands ta_ones p1 p2 = u) (z28 : ws0[28]? = some (a 28, .inr (5, [.ref (a 29), .ref (a 30), .ref (a 31), .int ta_size]))) (z29 : ws0[29]? = some (a 29, .inl (cI, 12, .inl ta_hands))) (z30 : ws0[30]? = some (a 30, .inl (cI, 12, .inl ta_ones))) (hD : va_D A ws0) : Met l yX5_add (wq yX5_add cX5_add 3 (some .int)) rm_X5_add (Pq [.ref (a 28), .int p1, .int p2] D cI cJ cZ ws0) (Qw D A ws0 [29, 30, 28] (some (.int u.1)) (fun w => w[29]? = some (a 29, .inl (cI, 12, .inl u.2.1)) ∧ w[30]? = some (a 30, .inl (cI, 12, .inl u.2.2.1)) ∧ w[28]? = some (a 28, .inr (5, [.ref (a 29), .ref (a 30), .ref (a 31), .int u.2.2.2])))) 0 0 A := by
  refine mq_of (by decide) (Nat.le_of_ble_eq_true rfl) (fun p e s m args below meth c ls Q hQ X _ hP hl => ?_)
  obtain ⟨hx, hb, hr, hml, hown, hts, hlk, hK, hN⟩ := id X
  have hown : s.vm.findClass RX5 = some m.cls := hown
  have hl : lv_has ls 3 [(0, .ref (a 28)), (1, .int p1), (2, .int p2)] := hl
  have hS : va_S A s.heap s.heap [] := va_S.rf
  have hs : ∀ j : Nat, j ∉ [29, 30, 28] → ws0[j]? = ws0[j]? := fun _ _ => rfl
  have h28 := z28
  have h29 := z29
  have h30 := z30
  unfold FX5_add at hF
  refine lv_aload_n hx hb dX5_add_0 rfl (lv_at hl 0 rfl) ?_
  refine gf_X5_25 hx hb hts hown hK hP h28 dX5_add_1 ?_
  refine lv_bipush (v := (12 : Int32)) hx hb dX5_add_4 (by decide) ?_
  refine lv_icmp_lt (tgt := 12) hx hb dX5_add_6 (by decide) (fun c1 => ?_) (fun c1 => ?_)
  · replace hF := (if_pos c1).symm.trans hF
    refine lv_aload_n hx hb dX5_add_12 rfl (lv_at hl 0 rfl) ?_
    refine gf_X5_9 hx hb hts hown hK hP h28 dX5_add_13 ?_
    refine lv_aload_n hx hb dX5_add_16 rfl (lv_at hl 0 rfl) ?_
    refine gf_X5_25 hx hb hts hown hK hP h28 dX5_add_17 ?_
    refine lv_iload_n hx hb dX5_add_20 rfl (lv_at hl 1 rfl) ?_
    obtain ⟨u2, e_u2⟩ : ∃ q, q = gput ta_hands 12 ta_size p1 := ⟨_, rfl⟩
    replace hF := nm_at hF e_u2
    refine wr_v (runSN (As := [.ref (a 29), .int ta_size, .int p1]) (rest := []) X cq_X8_put lk_X5_29 (t_X8_put l D cI cJ cZ a ws0 A 29 ta_hands 12 ta_size p1 u2 e_u2.symm h29 hD (by decide)) rfl rfl ⟨Nat.le_of_ble_eq_true rfl, Nat.le_of_ble_eq_true rfl⟩ hP rfl hl.1 rfl (Nat.le_of_ble_eq_true rfl) dX5_add_21 ⟨Nat.le_of_ble_eq_true rfl, Nat.le_of_ble_eq_true rfl⟩) hS (fun w3 H locs hP hD hk hB hS => ?_)
    have h29 : w3[29]? = some (a 29, .inl (cI, 12, .inl u2)) := hB
    have h28 := (hk 28 (by simp only [List.mem_cons, List.not_mem_nil, or_false, not_or]; omega)).trans h28
    have h30 := (hk 30 (by simp only [List.mem_cons, List.not_mem_nil, or_false, not_or]; omega)).trans h30
    replace hs := st_tr hk (fun j hj => by simp only [List.mem_cons, List.not_mem_nil, or_false] at hj ⊢; omega) hs
    refine lv_aload_n hx hb dX5_add_24 rfl (lv_at hl 0 rfl) ?_
    refine gf_X5_15 hx hb hts hown hK hP h28 dX5_add_25 ?_
    refine lv_aload_n hx hb dX5_add_28 rfl (lv_at hl 0 rfl) ?_
    refine gf_X5_25 hx hb hts hown hK hP h28 dX5_add_29 ?_
    refine lv_iload_n hx hb dX5_add_32 rfl (lv_at hl 2 rfl) ?_
    obtain ⟨u4, e_u4⟩ : ∃ q, q = gput ta_ones 12 ta_size p2 := ⟨_, rfl⟩
    replace hF := nm_at hF e_u4
    refine wr_v (runSN (As := [.ref (a 30), .int ta_size, .int p2]) (rest := []) X cq_X8_put lk_X5_29 (t_X8_put l D cI cJ cZ a w3 A 30 ta_ones 12 ta_size p2 u4 e_u4.symm h30 hD (by decide)) rfl rfl ⟨Nat.le_of_ble_eq_true rfl, Nat.le_of_ble_eq_true rfl⟩ hP rfl hl.1 rfl (Nat.le_of_ble_eq_true rfl) dX5_add_33 ⟨Nat.le_of_ble_eq_true rfl, Nat.le_of_ble_eq_true rfl⟩) hS (fun w5 H locs hP hD hk hB hS => ?_)
    have h30 : w5[30]? = some (a 30, .inl (cI, 12, .inl u4)) := hB
    have h28 := (hk 28 (by simp only [List.mem_cons, List.not_mem_nil, or_false, not_or]; omega)).trans h28
    have h29 := (hk 29 (by simp only [List.mem_cons, List.not_mem_nil, or_false, not_or]; omega)).trans h29
    replace hs := st_tr hk (fun j hj => by simp only [List.mem_cons, List.not_mem_nil, or_false] at hj ⊢; omega) hs
    refine lv_aload_n hx hb dX5_add_36 rfl (lv_at hl 0 rfl) ?_
    refine lv_dup hx hb dX5_add_37 rfl ?_
    refine gf_X5_25 hx hb hts hown hK hP h28 dX5_add_38 ?_
    refine lv_iconst (v := (1 : Int32)) hx hb dX5_add_41 (by decide) ?_
    refine lv_iadd hx hb dX5_add_42 ?_
    refine pf_X5_25 hx hb hts hown hK hP hD hS h28 rfl rfl dX5_add_43 (fun w6 H locs hP hD hk hc hS => ?_)
    have h28 : w6[28]? = some (a 28, .inr (5, [.ref (a 29), .ref (a 30), .ref (a 31), .int (ta_size + (1 : Int32))])) := hc
    have h29 := (hk 29 (by omega)).trans h29
    have h30 := (hk 30 (by omega)).trans h30
    replace hs := sm_k hk (by simp) hs
    refine lv_aload_n hx hb dX5_add_46 rfl (lv_at hl 0 rfl) ?_
    refine gf_X5_25 hx hb hts hown hK hP h28 dX5_add_47 ?_
    subst hF
    rw [hQ]
    exact rw_i X hS hP hD hs ⟨h29, h30, h28⟩ dX5_add_50
  · replace hF := (if_neg c1).symm.trans hF
    refine lv_bipush (v := (-4 : Int32)) hx hb dX5_add_9 (by decide) ?_
    subst hF
    rw [hQ]
    exact rw_i X hS hP hD hs ⟨h29, h30, h28⟩ dX5_add_11
def FX8_tape (ta_size : Int32) (ta_hands : Nat → Int32) (ta_ones : Nat → Int32) (p1 : Int32) (p2 : Int32) : Int32 × (Nat → Int32) × (Nat → Int32) × Int32 :=
  if (FX8_outside p1 (1 : Int32) (4095 : Int32)) = true then (((-2 : Int32), ta_hands, ta_ones, ta_size)) else (if (FX8_isIn p1 p2) = true then (nmb (FX5_add ta_size ta_hands ta_ones p1 p2) fun u3 => (u3.1, u3.2.1, u3.2.2.1, u3.2.2.2)) else (((-2 : Int32), ta_hands, ta_ones, ta_size)))
def rm_X8_tape : Room := { frames := 2, cells := 0, slots := 0, locals := 44 }
set_option maxHeartbeats 4000000 in
set_option maxRecDepth 100000 in
theorem c_X8_tape (l : Launch) (D : va_G) (cI cJ cZ : ClassId) (a : Nat → Nat) (ws0 : va_W) (A : Nat → Prop)  (ta_size : Int32) (ta_hands : Nat → Int32) (ta_ones : Nat → Int32) (p1 : Int32) (p2 : Int32) (u : Int32 × (Nat → Int32) × (Nat → Int32) × Int32) (hF : FX8_tape ta_size ta_hands ta_ones p1 p2 = u) (z0 : ws0[0]? = some (a 0, .inr (8, [.ref (a 1), .ref (a 3), .ref (a 13), .ref (a 16), .ref (a 22), .ref (a 25), .ref (a 28), .ref (a 33)]))) (z28 : ws0[28]? = some (a 28, .inr (5, [.ref (a 29), .ref (a 30), .ref (a 31), .int ta_size]))) (z29 : ws0[29]? = some (a 29, .inl (cI, 12, .inl ta_hands))) (z30 : ws0[30]? = some (a 30, .inl (cI, 12, .inl ta_ones))) (hD : va_D A ws0) : Met l yX8_tape (wq yX8_tape cX8_tape 3 (some .int)) rm_X8_tape (Pq [.ref (a 0), .int p1, .int p2] D cI cJ cZ ws0) (Qw D A ws0 [29, 30, 28] (some (.int u.1)) (fun w => w[29]? = some (a 29, .inl (cI, 12, .inl u.2.1)) ∧ w[30]? = some (a 30, .inl (cI, 12, .inl u.2.2.1)) ∧ w[28]? = some (a 28, .inr (5, [.ref (a 29), .ref (a 30), .ref (a 31), .int u.2.2.2])))) 0 0 A := by
  refine mq_of (by decide) (Nat.le_of_ble_eq_true rfl) (fun p e s m args below meth c ls Q hQ X _ hP hl => ?_)
  obtain ⟨hx, hb, hr, hml, hown, hts, hlk, hK, hN⟩ := id X
  have hown : s.vm.findClass RX8 = some m.cls := hown
  have hl : lv_has ls 3 [(0, .ref (a 0)), (1, .int p1), (2, .int p2)] := hl
  have hS : va_S A s.heap s.heap [] := va_S.rf
  have hs : ∀ j : Nat, j ∉ [29, 30, 28] → ws0[j]? = ws0[j]? := fun _ _ => rfl
  have h0 := z0
  have h28 := z28
  have h29 := z29
  have h30 := z30
  unfold FX8_tape at hF
  refine lv_iload_n hx hb dX8_tape_0 rfl (lv_at hl 1 rfl) ?_
  refine lv_iconst (v := (1 : Int32)) hx hb dX8_tape_1 (by decide) ?_
  refine lv_sipush (v := (4095 : Int32)) hx hb dX8_tape_2 (by decide) ?_
  refine rd_i (runS (As := [.int p1, .int (1 : Int32), .int (4095 : Int32)]) (rest := []) X cq_X8_outside lk_X8_61 (c_X8_outside l D cI cJ cZ a ws0 p1 (1 : Int32) (4095 : Int32) _ rfl ) rfl rfl ⟨Nat.le_of_ble_eq_true rfl, Nat.le_of_ble_eq_true rfl⟩ hP rfl hl.1 rfl (Nat.le_of_ble_eq_true rfl) dX8_tape_5 ⟨Nat.le_of_ble_eq_true rfl, Nat.le_of_ble_eq_true rfl⟩) ?_
  refine zf_ne (tgt := 19) hx hb dX8_tape_8 (by decide) (fun c1 => ?_) (fun c1 => ?_)
  · replace hF := (if_pos c1).symm.trans hF
    refine lv_bipush (v := (-2 : Int32)) hx hb dX8_tape_19 (by decide) ?_
    subst hF
    rw [hQ]
    exact rw_i X hS hP hD hs ⟨h29, h30, h28⟩ dX8_tape_21
  · replace hF := (if_neg c1).symm.trans hF
    refine lv_iload_n hx hb dX8_tape_11 rfl (lv_at hl 1 rfl) ?_
    refine lv_iload_n hx hb dX8_tape_12 rfl (lv_at hl 2 rfl) ?_
    refine rd_i (runS (As := [.int p1, .int p2]) (rest := []) X cq_X8_isIn lk_X8_185 (c_X8_isIn l D cI cJ cZ a ws0 p1 p2 _ rfl ) rfl rfl ⟨Nat.le_of_ble_eq_true rfl, Nat.le_of_ble_eq_true rfl⟩ hP rfl hl.1 rfl (Nat.le_of_ble_eq_true rfl) dX8_tape_13 ⟨Nat.le_of_ble_eq_true rfl, Nat.le_of_ble_eq_true rfl⟩) ?_
    refine zf_ne (tgt := 22) hx hb dX8_tape_16 (by decide) (fun c2 => ?_) (fun c2 => ?_)
    · replace hF := (if_pos c2).symm.trans hF
      refine lv_aload_n hx hb dX8_tape_22 rfl (lv_at hl 0 rfl) ?_
      refine gf_X8_50 hx hb hts hown hK hP h0 dX8_tape_23 ?_
      refine lv_iload_n hx hb dX8_tape_26 rfl (lv_at hl 1 rfl) ?_
      refine lv_iload_n hx hb dX8_tape_27 rfl (lv_at hl 2 rfl) ?_
      obtain ⟨u3, e_u3⟩ : ∃ q, q = FX5_add ta_size ta_hands ta_ones p1 p2 := ⟨_, rfl⟩
      replace hF := nm_at hF e_u3
      refine wr_i (runVN (As := [.int p1, .int p2]) (rest := []) X cq_X5_add lk_X8_212 (c_X5_add l D cI cJ cZ a ws0 A ta_size ta_hands ta_ones p1 p2 u3 e_u3.symm h28 h29 h30 hD) rfl rfl ⟨Nat.le_of_ble_eq_true rfl, Nat.le_of_ble_eq_true rfl⟩ hP h28 rfl rfl hl.1 rfl (Nat.le_of_ble_eq_true rfl) dX8_tape_28 ⟨Nat.le_of_ble_eq_true rfl, Nat.le_of_ble_eq_true rfl⟩) hS (fun w4 H locs hP hD hk hB hS => ?_)
      obtain ⟨hB0, hB1, hB2⟩ := hB
      have h29 : w4[29]? = some (a 29, .inl (cI, 12, .inl u3.2.1)) := hB0
      have h30 : w4[30]? = some (a 30, .inl (cI, 12, .inl u3.2.2.1)) := hB1
      have h28 : w4[28]? = some (a 28, .inr (5, [.ref (a 29), .ref (a 30), .ref (a 31), .int u3.2.2.2])) := hB2
      have h0 := (hk 0 (by simp only [List.mem_cons, List.not_mem_nil, or_false, not_or]; omega)).trans h0
      replace hs := st_tr hk (fun j hj => by simp only [List.mem_cons, List.not_mem_nil, or_false] at hj ⊢; omega) hs
      subst hF
      rw [hQ]
      exact rw_i X hS hP hD hs ⟨h29, h30, h28⟩ dX8_tape_31
    · replace hF := (if_neg c2).symm.trans hF
      refine lv_bipush (v := (-2 : Int32)) hx hb dX8_tape_19 (by decide) ?_
      subst hF
      rw [hQ]
      exact rw_i X hS hP hD hs ⟨h29, h30, h28⟩ dX8_tape_21
def FX5_empty (ta_size : Int32) : Int32 × Int32 :=
  (ta_size, (0 : Int32))
def rm_X5_empty : Room := { frames := 0, cells := 0, slots := 0, locals := 0 }
set_option maxHeartbeats 4000000 in
set_option maxRecDepth 100000 in
theorem c_X5_empty (l : Launch) (D : va_G) (cI cJ cZ : ClassId) (a : Nat → Nat) (ws0 : va_W) (A : Nat → Prop)  (ta_size : Int32)  (u : Int32 × Int32) (hF : FX5_empty ta_size = u) (z28 : ws0[28]? = some (a 28, .inr (5, [.ref (a 29), .ref (a 30), .ref (a 31), .int ta_size]))) (hD : va_D A ws0) : Met l yX5_empty (wq yX5_empty cX5_empty 2 (some .int)) rm_X5_empty (Pq [.ref (a 28)] D cI cJ cZ ws0) (Qw D A ws0 [28] (some (.int u.1)) (fun w => w[28]? = some (a 28, .inr (5, [.ref (a 29), .ref (a 30), .ref (a 31), .int u.2])))) 0 0 A := by
  refine mq_of (by decide) (Nat.le_of_ble_eq_true rfl) (fun p e s m args below meth c ls Q hQ X _ hP hl => ?_)
  obtain ⟨hx, hb, hr, hml, hown, hts, hlk, hK, hN⟩ := id X
  have hown : s.vm.findClass RX5 = some m.cls := hown
  have hl : lv_has ls 2 [(0, .ref (a 28))] := hl
  have hS : va_S A s.heap s.heap [] := va_S.rf
  have hs : ∀ j : Nat, j ∉ [28] → ws0[j]? = ws0[j]? := fun _ _ => rfl
  have h28 := z28
  unfold FX5_empty at hF
  refine lv_aload_n hx hb dX5_empty_0 rfl (lv_at hl 0 rfl) ?_
  refine gf_X5_25 hx hb hts hown hK hP h28 dX5_empty_1 ?_
  refine lv_istore_n (lv' := [(1, .int ta_size), (0, .ref (a 28))]) hx hb dX5_empty_4 rfl hl (by decide) rfl (fun ls hl => ?_)
  refine lv_aload_n hx hb dX5_empty_5 rfl (lv_at hl 1 rfl) ?_
  refine lv_iconst (v := (0 : Int32)) hx hb dX5_empty_6 (by decide) ?_
  refine pf_X5_25 hx hb hts hown hK hP hD hS h28 rfl rfl dX5_empty_7 (fun w1 H locs hP hD hk hc hS => ?_)
  have h28 : w1[28]? = some (a 28, .inr (5, [.ref (a 29), .ref (a 30), .ref (a 31), .int (0 : Int32)])) := hc
  replace hs := sm_k hk (by simp) hs
  refine lv_iload_n hx hb dX5_empty_10 rfl (lv_at hl 0 rfl) ?_
  subst hF
  rw [hQ]
  exact rw_i X hS hP hD hs h28 dX5_empty_11
def FX8_untape (ta_size : Int32) : Int32 × Int32 :=
  nmb (FX5_empty ta_size) fun u1 => (u1.1, u1.2)
def rm_X8_untape : Room := { frames := 1, cells := 0, slots := 0, locals := 21 }
set_option maxHeartbeats 4000000 in
set_option maxRecDepth 100000 in
theorem c_X8_untape (l : Launch) (D : va_G) (cI cJ cZ : ClassId) (a : Nat → Nat) (ws0 : va_W) (A : Nat → Prop)  (ta_size : Int32)  (u : Int32 × Int32) (hF : FX8_untape ta_size = u) (z0 : ws0[0]? = some (a 0, .inr (8, [.ref (a 1), .ref (a 3), .ref (a 13), .ref (a 16), .ref (a 22), .ref (a 25), .ref (a 28), .ref (a 33)]))) (z28 : ws0[28]? = some (a 28, .inr (5, [.ref (a 29), .ref (a 30), .ref (a 31), .int ta_size]))) (hD : va_D A ws0) : Met l yX8_untape (wq yX8_untape cX8_untape 1 (some .int)) rm_X8_untape (Pq [.ref (a 0)] D cI cJ cZ ws0) (Qw D A ws0 [28] (some (.int u.1)) (fun w => w[28]? = some (a 28, .inr (5, [.ref (a 29), .ref (a 30), .ref (a 31), .int u.2])))) 0 0 A := by
  refine mq_of (by decide) (Nat.le_of_ble_eq_true rfl) (fun p e s m args below meth c ls Q hQ X _ hP hl => ?_)
  obtain ⟨hx, hb, hr, hml, hown, hts, hlk, hK, hN⟩ := id X
  have hown : s.vm.findClass RX8 = some m.cls := hown
  have hl : lv_has ls 1 [(0, .ref (a 0))] := hl
  have hS : va_S A s.heap s.heap [] := va_S.rf
  have hs : ∀ j : Nat, j ∉ [28] → ws0[j]? = ws0[j]? := fun _ _ => rfl
  have h0 := z0
  have h28 := z28
  unfold FX8_untape at hF
  refine lv_aload_n hx hb dX8_untape_0 rfl (lv_at hl 0 rfl) ?_
  refine gf_X8_50 hx hb hts hown hK hP h0 dX8_untape_1 ?_
  obtain ⟨u1, e_u1⟩ : ∃ q, q = FX5_empty ta_size := ⟨_, rfl⟩
  replace hF := nm_at hF e_u1
  refine wr_i (runVN (As := []) (rest := []) X cq_X5_empty lk_X8_215 (c_X5_empty l D cI cJ cZ a ws0 A ta_size u1 e_u1.symm h28 hD) rfl rfl ⟨Nat.le_of_ble_eq_true rfl, Nat.le_of_ble_eq_true rfl⟩ hP h28 rfl rfl hl.1 rfl (Nat.le_of_ble_eq_true rfl) dX8_untape_4 ⟨Nat.le_of_ble_eq_true rfl, Nat.le_of_ble_eq_true rfl⟩) hS (fun w2 H locs hP hD hk hB hS => ?_)
  have h28 : w2[28]? = some (a 28, .inr (5, [.ref (a 29), .ref (a 30), .ref (a 31), .int u1.2])) := hB
  have h0 := (hk 0 (by simp only [List.mem_cons, List.not_mem_nil, or_false, not_or]; omega)).trans h0
  replace hs := st_tr hk (fun j hj => by simp only [List.mem_cons, List.not_mem_nil, or_false] at hj ⊢; omega) hs
  subst hF
  rw [hQ]
  exact rw_i X hS hP hD hs h28 dX8_untape_7
def FX5_takenOf_S4 (ta_size : Int32) (ta_ones : Nat → Int32) (p1 : Int32) (x1 : Int32) (x2 : Int32) : Option ((Int32 × Int32) ⊕ (Int32)) :=
  if ta_size ≤ x2 then (some (.inr x1)) else (if (FX8_isIn p1 (gat ta_ones 12 x2)) = true then (some (.inl (x1 + (1 : Int32), x2 + (1 : Int32)))) else (some (.inl (x1, x2 + (1 : Int32)))))
def FX5_takenOf (ta_size : Int32) (ta_ones : Nat → Int32) (p1 : Int32) : Option (Int32) :=
  (itr (fun v => FX5_takenOf_S4 ta_size ta_ones p1 v.1 v.2) fu ((0 : Int32), (0 : Int32))).bind fun o5 => some o5
def rm_X5_takenOf : Room := { frames := 1, cells := 0, slots := 0, locals := 21 }
set_option maxHeartbeats 4000000 in
set_option maxRecDepth 100000 in
theorem c_X5_takenOf (l : Launch) (D : va_G) (cI cJ cZ : ClassId) (a : Nat → Nat) (ws0 : va_W)  (ta_size : Int32) (ta_ones : Nat → Int32) (p1 : Int32) (u : Int32) (hF : FX5_takenOf ta_size ta_ones p1 = some u) (h28 : ws0[28]? = some (a 28, .inr (5, [.ref (a 29), .ref (a 30), .ref (a 31), .int ta_size]))) (h30 : ws0[30]? = some (a 30, .inl (cI, 12, .inl ta_ones))) : Met l yX5_takenOf (wq yX5_takenOf cX5_takenOf 4 (some .int)) rm_X5_takenOf (Pq [.ref (a 28), .int p1] D cI cJ cZ ws0) (Qq (some (.int u))) 0 0 (fun _ => False) := by
  refine mq_of (by decide) (Nat.le_of_ble_eq_true rfl) (fun p e s m args below meth c ls Q hQ X _ hP hl => ?_)
  obtain ⟨hx, hb, hr, hml, hown, hts, hlk, hK, hN⟩ := id X
  have hown : s.vm.findClass RX5 = some m.cls := hown
  have hl : lv_has ls 4 [(0, .ref (a 28)), (1, .int p1)] := hl
  unfold FX5_takenOf at hF
  refine lv_iconst (v := (0 : Int32)) hx hb dX5_takenOf_0 (by decide) ?_
  refine lv_istore_n (lv' := [(2, .int (0 : Int32)), (0, .ref (a 28)), (1, .int p1)]) hx hb dX5_takenOf_1 rfl hl (by decide) rfl (fun ls hl => ?_)
  refine lv_iconst (v := (0 : Int32)) hx hb dX5_takenOf_2 (by decide) ?_
  refine lv_istore_n (lv' := [(3, .int (0 : Int32)), (2, .int (0 : Int32)), (0, .ref (a 28)), (1, .int p1)]) hx hb dX5_takenOf_3 rfl hl (by decide) rfl (fun ls hl => ?_)
  have hL4 : ∀ (nf : Nat) (x1 : Int32) (x2 : Int32) (r : Int32), itr (fun v => FX5_takenOf_S4 ta_size ta_ones p1 v.1 v.2) nf (x1, x2) = some r → ∀ ls, lv_has ls 4 [(3, .int x2), (2, .int x1), (0, .ref (a 28)), (1, .int p1)] → (∀ o : Int32, r = o → ∀ ls, lv_has ls 4 [(2, .int o)] → W p l e rm_X5_takenOf s m args below meth c s.heap [] 0 0 Q (F0 m 36 ls [])) → W p l e rm_X5_takenOf s m args below meth c s.heap [] 0 0 Q (F0 m 4 ls []) := by
    intro nf
    induction nf with
    | zero => intro _ _ r hF; exact (itr_0 hF).elim
    | succ nf ih =>
      intro x1 x2 r hF ls hl hE
      obtain ⟨wo, hF, hw⟩ := itr_s hF
      replace hF : FX5_takenOf_S4 ta_size ta_ones p1 x1 x2 = some wo := hF
      unfold FX5_takenOf_S4 at hF
      refine lv_iload_n hx hb dX5_takenOf_4 rfl (lv_at hl 0 rfl) ?_
      refine lv_aload_n hx hb dX5_takenOf_5 rfl (lv_at hl 2 rfl) ?_
      refine gf_X5_25 hx hb hts hown hK hP h28 dX5_takenOf_6 ?_
      refine lv_icmp_ge (tgt := 36) hx hb dX5_takenOf_9 (by decide) (fun c3 => ?_) (fun c3 => ?_)
      · replace hF := (if_pos c3).symm.trans hF
        obtain rfl := Option.some.inj hF
        obtain rfl := hw
        exact hE _ rfl ls (lv_sub hl [1] rfl)
      · replace hF := (if_neg c3).symm.trans hF
        refine lv_iload_n hx hb dX5_takenOf_12 rfl (lv_at hl 3 rfl) ?_
        refine lv_aload_n hx hb dX5_takenOf_13 rfl (lv_at hl 2 rfl) ?_
        refine gf_X5_15 hx hb hts hown hK hP h28 dX5_takenOf_14 ?_
        refine lv_iload_n hx hb dX5_takenOf_17 rfl (lv_at hl 0 rfl) ?_
        refine rd_i (runSN (As := [.ref (a 30), .int x2]) (rest := [.int p1]) X cq_X8_at lk_X5_33 (t_X8_at l D cI cJ cZ a ws0 30 ta_ones 12 x2 _ rfl h30 (by decide)) rfl rfl ⟨Nat.le_of_ble_eq_true rfl, Nat.le_of_ble_eq_true rfl⟩ hP rfl hl.1 rfl (Nat.le_of_ble_eq_true rfl) dX5_takenOf_18 ⟨Nat.le_of_ble_eq_true rfl, Nat.le_of_ble_eq_true rfl⟩) ?_
        refine rd_i (runSN (As := [.int p1, .int (gat ta_ones 12 x2)]) (rest := []) X cq_X8_isIn lk_X5_37 (c_X8_isIn l D cI cJ cZ a ws0 p1 (gat ta_ones 12 x2) _ rfl ) rfl rfl ⟨Nat.le_of_ble_eq_true rfl, Nat.le_of_ble_eq_true rfl⟩ hP rfl hl.1 rfl (Nat.le_of_ble_eq_true rfl) dX5_takenOf_21 ⟨Nat.le_of_ble_eq_true rfl, Nat.le_of_ble_eq_true rfl⟩) ?_
        refine zf_eq (tgt := 30) hx hb dX5_takenOf_24 (by decide) (fun c4 => ?_) (fun c4 => ?_)
        · replace hF := (if_neg c4).symm.trans hF
          refine lv_iinc (v := x2 + (1 : Int32)) (lv' := [(3, .int (x2 + (1 : Int32))), (2, .int x1), (0, .ref (a 28)), (1, .int p1)]) hx hb dX5_takenOf_30 hl (k := 0) rfl rfl (by decide) rfl (fun ls hl => ?_)
          refine lv_goto (tgt := 4) hx hb dX5_takenOf_33 (by decide) ?_
          obtain rfl := Option.some.inj hF
          exact ih _ _ _ hw ls (lv_sub hl [0, 1, 2, 3] rfl) hE
        · replace hF := (if_pos c4).symm.trans hF
          refine lv_iinc (v := x1 + (1 : Int32)) (lv' := [(2, .int (x1 + (1 : Int32))), (3, .int x2), (0, .ref (a 28)), (1, .int p1)]) hx hb dX5_takenOf_27 hl (k := 1) rfl rfl (by decide) rfl (fun ls hl => ?_)
          refine lv_iinc (v := x2 + (1 : Int32)) (lv' := [(3, .int (x2 + (1 : Int32))), (2, .int (x1 + (1 : Int32))), (0, .ref (a 28)), (1, .int p1)]) hx hb dX5_takenOf_30 hl (k := 1) rfl rfl (by decide) rfl (fun ls hl => ?_)
          refine lv_goto (tgt := 4) hx hb dX5_takenOf_33 (by decide) ?_
          obtain rfl := Option.some.inj hF
          exact ih _ _ _ hw ls (lv_sub hl [0, 1, 2, 3] rfl) hE
  obtain ⟨o5, ho5, hF⟩ := bd_some hF
  refine hL4 fu (0 : Int32) (0 : Int32) o5 ho5 ls (lv_sub hl [0, 1, 2, 3] rfl) ?_
  intro _ q_o5 ls hl
  subst q_o5
  refine lv_iload_n hx hb dX5_takenOf_36 rfl (lv_at hl 0 rfl) ?_
  obtain rfl := Option.some.inj hF
  rw [hQ]
  exact rt_i X dX5_takenOf_37
def FX8_came (ta_size : Int32) (ta_ones : Nat → Int32) (p1 : Int32) : Option (Int32) :=
  if (FX8_outside p1 (0 : Int32) (4095 : Int32)) = true then (some (-2 : Int32)) else ((FX5_takenOf ta_size ta_ones p1).bind fun x2 => some x2)
def rm_X8_came : Room := { frames := 2, cells := 0, slots := 0, locals := 44 }
set_option maxHeartbeats 4000000 in
set_option maxRecDepth 100000 in
theorem c_X8_came (l : Launch) (D : va_G) (cI cJ cZ : ClassId) (a : Nat → Nat) (ws0 : va_W)  (ta_size : Int32) (ta_ones : Nat → Int32) (p1 : Int32) (u : Int32) (hF : FX8_came ta_size ta_ones p1 = some u) (h0 : ws0[0]? = some (a 0, .inr (8, [.ref (a 1), .ref (a 3), .ref (a 13), .ref (a 16), .ref (a 22), .ref (a 25), .ref (a 28), .ref (a 33)]))) (h28 : ws0[28]? = some (a 28, .inr (5, [.ref (a 29), .ref (a 30), .ref (a 31), .int ta_size]))) (h30 : ws0[30]? = some (a 30, .inl (cI, 12, .inl ta_ones))) : Met l yX8_came (wq yX8_came cX8_came 2 (some .int)) rm_X8_came (Pq [.ref (a 0), .int p1] D cI cJ cZ ws0) (Qq (some (.int u))) 0 0 (fun _ => False) := by
  refine mq_of (by decide) (Nat.le_of_ble_eq_true rfl) (fun p e s m args below meth c ls Q hQ X _ hP hl => ?_)
  obtain ⟨hx, hb, hr, hml, hown, hts, hlk, hK, hN⟩ := id X
  have hown : s.vm.findClass RX8 = some m.cls := hown
  have hl : lv_has ls 2 [(0, .ref (a 0)), (1, .int p1)] := hl
  unfold FX8_came at hF
  refine lv_iload_n hx hb dX8_came_0 rfl (lv_at hl 1 rfl) ?_
  refine lv_iconst (v := (0 : Int32)) hx hb dX8_came_1 (by decide) ?_
  refine lv_sipush (v := (4095 : Int32)) hx hb dX8_came_2 (by decide) ?_
  refine rd_i (runS (As := [.int p1, .int (0 : Int32), .int (4095 : Int32)]) (rest := []) X cq_X8_outside lk_X8_61 (c_X8_outside l D cI cJ cZ a ws0 p1 (0 : Int32) (4095 : Int32) _ rfl ) rfl rfl ⟨Nat.le_of_ble_eq_true rfl, Nat.le_of_ble_eq_true rfl⟩ hP rfl hl.1 rfl (Nat.le_of_ble_eq_true rfl) dX8_came_5 ⟨Nat.le_of_ble_eq_true rfl, Nat.le_of_ble_eq_true rfl⟩) ?_
  refine zf_eq (tgt := 16) hx hb dX8_came_8 (by decide) (fun c1 => ?_) (fun c1 => ?_)
  · replace hF := (if_neg c1).symm.trans hF
    refine lv_aload_n hx hb dX8_came_16 rfl (lv_at hl 0 rfl) ?_
    refine gf_X8_50 hx hb hts hown hK hP h0 dX8_came_17 ?_
    refine lv_iload_n hx hb dX8_came_20 rfl (lv_at hl 1 rfl) ?_
    obtain ⟨x2, hx2, hF⟩ := bd_some hF
    refine rd_i (runVN (As := [.int p1]) (rest := []) X cq_X5_takenOf lk_X8_216 (c_X5_takenOf l D cI cJ cZ a ws0 ta_size ta_ones p1 x2 hx2 h28 h30) rfl rfl ⟨Nat.le_of_ble_eq_true rfl, Nat.le_of_ble_eq_true rfl⟩ hP h28 rfl rfl hl.1 rfl (Nat.le_of_ble_eq_true rfl) dX8_came_21 ⟨Nat.le_of_ble_eq_true rfl, Nat.le_of_ble_eq_true rfl⟩) ?_
    obtain rfl := Option.some.inj hF
    rw [hQ]
    exact rt_i X dX8_came_24
  · replace hF := (if_pos c1).symm.trans hF
    refine lv_bipush (v := (-2 : Int32)) hx hb dX8_came_11 (by decide) ?_
    refine lv_goto (tgt := 24) hx hb dX8_came_13 (by decide) ?_
    obtain rfl := Option.some.inj hF
    rw [hQ]
    exact rt_i X dX8_came_24
def FX5_sharesOf_S5 (ta_size : Int32) (ta_hands : Nat → Int32) (p1 : Int32) (x1 : Int64) (x2 : Int32) : Option ((Int64 × Int32) ⊕ (Int64)) :=
  if ta_size ≤ x2 then (some (.inr x1)) else (nmb (x1 + (((FJ6_bitCount_0f7a4 ((gat ta_hands 12 x2) &&& p1)).toInt64) * (gshare (FJ6_bitCount_0f7a4 (gat ta_hands 12 x2))))) fun y4 => some (.inl (y4, x2 + (1 : Int32))))
def FX5_sharesOf (ta_size : Int32) (ta_hands : Nat → Int32) (p1 : Int32) : Option (Int64) :=
  (itr (fun v => FX5_sharesOf_S5 ta_size ta_hands p1 v.1 v.2) fu ((0 : Int64), (0 : Int32))).bind fun o5 => some o5
def rm_X5_sharesOf : Room := { frames := 1, cells := 0, slots := 0, locals := 21 }
set_option maxHeartbeats 4000000 in
set_option maxRecDepth 100000 in
theorem c_X5_sharesOf (l : Launch) (D : va_G) (cI cJ cZ : ClassId) (a : Nat → Nat) (ws0 : va_W)  (ta_size : Int32) (ta_hands : Nat → Int32) (p1 : Int32) (u : Int64) (hF : FX5_sharesOf ta_size ta_hands p1 = some u) (h28 : ws0[28]? = some (a 28, .inr (5, [.ref (a 29), .ref (a 30), .ref (a 31), .int ta_size]))) (h29 : ws0[29]? = some (a 29, .inl (cI, 12, .inl ta_hands))) : Met l yX5_sharesOf (wq yX5_sharesOf cX5_sharesOf 5 (some .long)) rm_X5_sharesOf (Pq [.ref (a 28), .int p1] D cI cJ cZ ws0) (Qq (some (.long u))) 0 0 (fun _ => False) := by
  refine mq_of (by decide) (Nat.le_of_ble_eq_true rfl) (fun p e s m args below meth c ls Q hQ X _ hP hl => ?_)
  obtain ⟨hx, hb, hr, hml, hown, hts, hlk, hK, hN⟩ := id X
  have hown : s.vm.findClass RX5 = some m.cls := hown
  have hl : lv_has ls 5 [(0, .ref (a 28)), (1, .int p1)] := hl
  unfold FX5_sharesOf at hF
  refine lv_lconst (v := (0 : Int64)) hx hb dX5_sharesOf_0 (by decide) ?_
  refine lv_lstore_n (lv' := [(2, .long (0 : Int64)), (0, .ref (a 28)), (1, .int p1)]) hx hb dX5_sharesOf_1 rfl hl (by decide) rfl (fun ls hl => ?_)
  refine lv_iconst (v := (0 : Int32)) hx hb dX5_sharesOf_2 (by decide) ?_
  refine lv_istore (lv' := [(4, .int (0 : Int32)), (2, .long (0 : Int64)), (0, .ref (a 28)), (1, .int p1)]) hx hb dX5_sharesOf_3 hl (by decide) rfl (fun ls hl => ?_)
  have hL5 : ∀ (nf : Nat) (x1 : Int64) (x2 : Int32) (r : Int64), itr (fun v => FX5_sharesOf_S5 ta_size ta_hands p1 v.1 v.2) nf (x1, x2) = some r → ∀ ls, lv_has ls 5 [(4, .int x2), (2, .long x1), (0, .ref (a 28)), (1, .int p1)] → (∀ o : Int64, r = o → ∀ ls, lv_has ls 5 [(2, .long o)] → W p l e rm_X5_sharesOf s m args below meth c s.heap [] 0 0 Q (F0 m 54 ls [])) → W p l e rm_X5_sharesOf s m args below meth c s.heap [] 0 0 Q (F0 m 5 ls []) := by
    intro nf
    induction nf with
    | zero => intro _ _ r hF; exact (itr_0 hF).elim
    | succ nf ih =>
      intro x1 x2 r hF ls hl hE
      obtain ⟨wo, hF, hw⟩ := itr_s hF
      replace hF : FX5_sharesOf_S5 ta_size ta_hands p1 x1 x2 = some wo := hF
      unfold FX5_sharesOf_S5 at hF
      refine lv_iload hx hb dX5_sharesOf_5 (lv_at hl 0 rfl) ?_
      refine lv_aload_n hx hb dX5_sharesOf_7 rfl (lv_at hl 2 rfl) ?_
      refine gf_X5_25 hx hb hts hown hK hP h28 dX5_sharesOf_8 ?_
      refine lv_icmp_ge (tgt := 54) hx hb dX5_sharesOf_11 (by decide) (fun c3 => ?_) (fun c3 => ?_)
      · replace hF := (if_pos c3).symm.trans hF
        obtain rfl := Option.some.inj hF
        obtain rfl := hw
        exact hE _ rfl ls (lv_sub hl [1] rfl)
      · replace hF := (if_neg c3).symm.trans hF
        refine lv_lload_n hx hb dX5_sharesOf_14 rfl (lv_at hl 1 rfl) ?_
        refine lv_aload_n hx hb dX5_sharesOf_15 rfl (lv_at hl 2 rfl) ?_
        refine gf_X5_9 hx hb hts hown hK hP h28 dX5_sharesOf_16 ?_
        refine lv_iload hx hb dX5_sharesOf_19 (lv_at hl 0 rfl) ?_
        refine rd_i (runSN (As := [.ref (a 29), .int x2]) (rest := [.long x1]) X cq_X8_at lk_X5_33 (t_X8_at l D cI cJ cZ a ws0 29 ta_hands 12 x2 _ rfl h29 (by decide)) rfl rfl ⟨Nat.le_of_ble_eq_true rfl, Nat.le_of_ble_eq_true rfl⟩ hP rfl hl.1 rfl (Nat.le_of_ble_eq_true rfl) dX5_sharesOf_21 ⟨Nat.le_of_ble_eq_true rfl, Nat.le_of_ble_eq_true rfl⟩) ?_
        refine lv_iload_n hx hb dX5_sharesOf_24 rfl (lv_at hl 3 rfl) ?_
        refine lv_iand hx hb dX5_sharesOf_25 ?_
        refine rd_i (runS (As := [.int ((gat ta_hands 12 x2) &&& p1)]) (rest := [.long x1]) X cq_J6_bitCount_0f7a4 lk_X5_41 (c_J6_bitCount_0f7a4 l D cI cJ cZ a ws0 ((gat ta_hands 12 x2) &&& p1) _ rfl ) rfl rfl ⟨Nat.le_of_ble_eq_true rfl, Nat.le_of_ble_eq_true rfl⟩ hP rfl hl.1 rfl (Nat.le_of_ble_eq_true rfl) dX5_sharesOf_26 ⟨Nat.le_of_ble_eq_true rfl, Nat.le_of_ble_eq_true rfl⟩) ?_
        refine lv_i2l hx hb dX5_sharesOf_29 rfl ?_
        refine lv_aload_n hx hb dX5_sharesOf_30 rfl (lv_at hl 2 rfl) ?_
        refine gf_X5_9 hx hb hts hown hK hP h28 dX5_sharesOf_31 ?_
        refine lv_iload hx hb dX5_sharesOf_34 (lv_at hl 0 rfl) ?_
        refine rd_i (runSN (As := [.ref (a 29), .int x2]) (rest := [.long ((FJ6_bitCount_0f7a4 ((gat ta_hands 12 x2) &&& p1)).toInt64), .long x1]) X cq_X8_at lk_X5_33 (t_X8_at l D cI cJ cZ a ws0 29 ta_hands 12 x2 _ rfl h29 (by decide)) rfl rfl ⟨Nat.le_of_ble_eq_true rfl, Nat.le_of_ble_eq_true rfl⟩ hP rfl hl.1 rfl (Nat.le_of_ble_eq_true rfl) dX5_sharesOf_36 ⟨Nat.le_of_ble_eq_true rfl, Nat.le_of_ble_eq_true rfl⟩) ?_
        refine rd_i (runS (As := [.int (gat ta_hands 12 x2)]) (rest := [.long ((FJ6_bitCount_0f7a4 ((gat ta_hands 12 x2) &&& p1)).toInt64), .long x1]) X cq_J6_bitCount_0f7a4 lk_X5_41 (c_J6_bitCount_0f7a4 l D cI cJ cZ a ws0 (gat ta_hands 12 x2) _ rfl ) rfl rfl ⟨Nat.le_of_ble_eq_true rfl, Nat.le_of_ble_eq_true rfl⟩ hP rfl hl.1 rfl (Nat.le_of_ble_eq_true rfl) dX5_sharesOf_39 ⟨Nat.le_of_ble_eq_true rfl, Nat.le_of_ble_eq_true rfl⟩) ?_
        refine rd_l (runSN (As := [.int (FJ6_bitCount_0f7a4 (gat ta_hands 12 x2))]) (rest := [.long ((FJ6_bitCount_0f7a4 ((gat ta_hands 12 x2) &&& p1)).toInt64), .long x1]) X cq_X8_share lk_X5_47 (t_X8_share l D cI cJ cZ a ws0 (FJ6_bitCount_0f7a4 (gat ta_hands 12 x2)) _ rfl ) rfl rfl ⟨Nat.le_of_ble_eq_true rfl, Nat.le_of_ble_eq_true rfl⟩ hP rfl hl.1 rfl (Nat.le_of_ble_eq_true rfl) dX5_sharesOf_42 ⟨Nat.le_of_ble_eq_true rfl, Nat.le_of_ble_eq_true rfl⟩) ?_
        refine lv_lmul hx hb dX5_sharesOf_45 ?_
        refine lv_ladd hx hb dX5_sharesOf_46 ?_
        refine lv_topl (fun y4 e_y4 => ?_)
        replace hF := nm_at hF e_y4
        refine lv_lstore_n (lv' := [(2, .long y4), (4, .int x2), (0, .ref (a 28)), (1, .int p1)]) hx hb dX5_sharesOf_47 rfl hl (by decide) rfl (fun ls hl => ?_)
        refine lv_iinc (v := x2 + (1 : Int32)) (lv' := [(4, .int (x2 + (1 : Int32))), (2, .long y4), (0, .ref (a 28)), (1, .int p1)]) hx hb dX5_sharesOf_48 hl (k := 1) rfl rfl (by decide) rfl (fun ls hl => ?_)
        refine lv_goto (tgt := 5) hx hb dX5_sharesOf_51 (by decide) ?_
        obtain rfl := Option.some.inj hF
        exact ih _ _ _ hw ls (lv_sub hl [0, 1, 2, 3] rfl) hE
  obtain ⟨o5, ho5, hF⟩ := bd_some hF
  refine hL5 fu (0 : Int64) (0 : Int32) o5 ho5 ls (lv_sub hl [0, 1, 2, 3] rfl) ?_
  intro _ q_o5 ls hl
  subst q_o5
  refine lv_lload_n hx hb dX5_sharesOf_54 rfl (lv_at hl 0 rfl) ?_
  obtain rfl := Option.some.inj hF
  rw [hQ]
  exact rt_l X dX5_sharesOf_55
def FX8_due (ta_size : Int32) (ta_hands : Nat → Int32) (p1 : Int32) (p2 : Int32) : Option (Int64) :=
  if (FX8_outside p1 (0 : Int32) (4095 : Int32)) = true then (some (-2 : Int64)) else ((FX5_sharesOf ta_size ta_hands p1).bind fun x2 => (FX8_fraction x2 (27720 : Int64) p2).bind fun x3 => some x3)
def rm_X8_due : Room := { frames := 2, cells := 0, slots := 0, locals := 56 }
set_option maxHeartbeats 4000000 in
set_option maxRecDepth 100000 in
theorem c_X8_due (l : Launch) (D : va_G) (cI cJ cZ : ClassId) (a : Nat → Nat) (ws0 : va_W)  (ta_size : Int32) (ta_hands : Nat → Int32) (p1 : Int32) (p2 : Int32) (u : Int64) (hF : FX8_due ta_size ta_hands p1 p2 = some u) (h0 : ws0[0]? = some (a 0, .inr (8, [.ref (a 1), .ref (a 3), .ref (a 13), .ref (a 16), .ref (a 22), .ref (a 25), .ref (a 28), .ref (a 33)]))) (h28 : ws0[28]? = some (a 28, .inr (5, [.ref (a 29), .ref (a 30), .ref (a 31), .int ta_size]))) (h29 : ws0[29]? = some (a 29, .inl (cI, 12, .inl ta_hands))) : Met l yX8_due (wq yX8_due cX8_due 3 (some .long)) rm_X8_due (Pq [.ref (a 0), .int p1, .int p2] D cI cJ cZ ws0) (Qq (some (.long u))) 0 0 (fun _ => False) := by
  refine mq_of (by decide) (Nat.le_of_ble_eq_true rfl) (fun p e s m args below meth c ls Q hQ X _ hP hl => ?_)
  obtain ⟨hx, hb, hr, hml, hown, hts, hlk, hK, hN⟩ := id X
  have hown : s.vm.findClass RX8 = some m.cls := hown
  have hl : lv_has ls 3 [(0, .ref (a 0)), (1, .int p1), (2, .int p2)] := hl
  unfold FX8_due at hF
  refine lv_iload_n hx hb dX8_due_0 rfl (lv_at hl 1 rfl) ?_
  refine lv_iconst (v := (0 : Int32)) hx hb dX8_due_1 (by decide) ?_
  refine lv_sipush (v := (4095 : Int32)) hx hb dX8_due_2 (by decide) ?_
  refine rd_i (runS (As := [.int p1, .int (0 : Int32), .int (4095 : Int32)]) (rest := []) X cq_X8_outside lk_X8_61 (c_X8_outside l D cI cJ cZ a ws0 p1 (0 : Int32) (4095 : Int32) _ rfl ) rfl rfl ⟨Nat.le_of_ble_eq_true rfl, Nat.le_of_ble_eq_true rfl⟩ hP rfl hl.1 rfl (Nat.le_of_ble_eq_true rfl) dX8_due_5 ⟨Nat.le_of_ble_eq_true rfl, Nat.le_of_ble_eq_true rfl⟩) ?_
  refine zf_eq (tgt := 17) hx hb dX8_due_8 (by decide) (fun c1 => ?_) (fun c1 => ?_)
  · replace hF := (if_neg c1).symm.trans hF
    refine lv_aload_n hx hb dX8_due_17 rfl (lv_at hl 0 rfl) ?_
    refine gf_X8_50 hx hb hts hown hK hP h0 dX8_due_18 ?_
    refine lv_iload_n hx hb dX8_due_21 rfl (lv_at hl 1 rfl) ?_
    obtain ⟨x2, hx2, hF⟩ := bd_some hF
    refine rd_l (runVN (As := [.int p1]) (rest := []) X cq_X5_sharesOf lk_X8_219 (c_X5_sharesOf l D cI cJ cZ a ws0 ta_size ta_hands p1 x2 hx2 h28 h29) rfl rfl ⟨Nat.le_of_ble_eq_true rfl, Nat.le_of_ble_eq_true rfl⟩ hP h28 rfl rfl hl.1 rfl (Nat.le_of_ble_eq_true rfl) dX8_due_22 ⟨Nat.le_of_ble_eq_true rfl, Nat.le_of_ble_eq_true rfl⟩) ?_
    refine lv_ldc2 (v := (27720 : Int64)) hx hb hown (hts _ kl_X8_222) dX8_due_25 ?_
    refine lv_iload_n hx hb dX8_due_28 rfl (lv_at hl 2 rfl) ?_
    obtain ⟨x3, hx3, hF⟩ := bd_some hF
    refine rd_l (runS (As := [.long x2, .long (27720 : Int64), .int p2]) (rest := []) X cq_X8_fraction lk_X8_131 (c_X8_fraction l D cI cJ cZ a ws0 x2 (27720 : Int64) p2 x3 hx3 ) rfl rfl ⟨Nat.le_of_ble_eq_true rfl, Nat.le_of_ble_eq_true rfl⟩ hP rfl hl.1 rfl (Nat.le_of_ble_eq_true rfl) dX8_due_29 ⟨Nat.le_of_ble_eq_true rfl, Nat.le_of_ble_eq_true rfl⟩) ?_
    obtain rfl := Option.some.inj hF
    rw [hQ]
    exact rt_l X dX8_due_32
  · replace hF := (if_pos c1).symm.trans hF
    refine lv_ldc2 (v := (-2 : Int64)) hx hb hown (hts _ kl_X8_112) dX8_due_11 ?_
    refine lv_goto (tgt := 32) hx hb dX8_due_14 (by decide) ?_
    obtain rfl := Option.some.inj hF
    rw [hQ]
    exact rt_l X dX8_due_32
def FX5_waysToAsMany_S9 (ta_size : Int32) (ta_hands : Nat → Int32) (p1 : Int32) (x3 : Int32) (x4 : Nat → Int64) : Option ((Int32 × (Nat → Int64)) ⊕ ((Nat → Int64))) :=
  if ta_size ≤ x3 then (some (.inr x4)) else ((FX4_join x4 (0 : Int64) ((FJ6_bitCount_0f7a4 ((gat ta_hands 12 x3) &&& p1)).toInt64) (0 : Int64) ((FJ6_bitCount_0f7a4 ((gat ta_hands 12 x3) &&& (p1 ^^^ (-1 : Int32)))).toInt64)).bind fun u6 => some (.inl (x3 + (1 : Int32), u6)))
def FX5_waysToAsMany_S66 (ta_size : Int32) (o8 : (Nat → Int64)) (x10 : Int64) (x11 : Int32) : Option ((Int64 × Int32) ⊕ (Int64)) :=
  if ta_size < x11 then (some (.inr x10)) else (some (.inl (x10 + (gget o8 x11 (0 : Int32)), x11 + (1 : Int32))))
def FX5_waysToAsMany (ta_size : Int32) (ta_cells : Nat → Int64) (ta_hands : Nat → Int32) (ta_ones : Nat → Int32) (p1 : Int32) : Option (Int64 × (Nat → Int64)) :=
  nmb (FX4_begin ta_cells) fun u1 => (itr (fun v => FX5_waysToAsMany_S9 ta_size ta_hands p1 v.1 v.2) fu ((0 : Int32), u1)).bind fun o8 => (FX5_takenOf ta_size ta_ones p1).bind fun x9 => (itr (fun v => FX5_waysToAsMany_S66 ta_size o8 v.1 v.2) fu ((0 : Int64), x9)).bind fun o13 => some (o13, o8)
def rm_X5_waysToAsMany : Room := { frames := 2, cells := 0, slots := 0, locals := 54 }
set_option maxHeartbeats 4000000 in
set_option maxRecDepth 100000 in
theorem c_X5_waysToAsMany (l : Launch) (D : va_G) (cI cJ cZ : ClassId) (a : Nat → Nat) (ws0 : va_W) (A : Nat → Prop)  (ta_size : Int32) (ta_cells : Nat → Int64) (ta_hands : Nat → Int32) (ta_ones : Nat → Int32) (p1 : Int32) (u : Int64 × (Nat → Int64)) (hF : FX5_waysToAsMany ta_size ta_cells ta_hands ta_ones p1 = some u) (z28 : ws0[28]? = some (a 28, .inr (5, [.ref (a 29), .ref (a 30), .ref (a 31), .int ta_size]))) (z29 : ws0[29]? = some (a 29, .inl (cI, 12, .inl ta_hands))) (z30 : ws0[30]? = some (a 30, .inl (cI, 12, .inl ta_ones))) (z31 : ws0[31]? = some (a 31, .inr (4, [.ref (a 32)]))) (z32 : ws0[32]? = some (a 32, .inl (cJ, 169, .inr (.inl ta_cells)))) (hD : va_D A ws0) : Met l yX5_waysToAsMany (wq yX5_waysToAsMany cX5_waysToAsMany 5 (some .long)) rm_X5_waysToAsMany (Pq [.ref (a 28), .int p1] D cI cJ cZ ws0) (Qw D A ws0 [32] (some (.long u.1)) (fun w => w[32]? = some (a 32, .inl (cJ, 169, .inr (.inl u.2))))) 0 0 A := by
  refine mq_of (by decide) (Nat.le_of_ble_eq_true rfl) (fun p e s m args below meth c ls Q hQ X _ hP hl => ?_)
  obtain ⟨hx, hb, hr, hml, hown, hts, hlk, hK, hN⟩ := id X
  have hown : s.vm.findClass RX5 = some m.cls := hown
  have hl : lv_has ls 5 [(0, .ref (a 28)), (1, .int p1)] := hl
  have hS : va_S A s.heap s.heap [] := va_S.rf
  have hs : ∀ j : Nat, j ∉ [32] → ws0[j]? = ws0[j]? := fun _ _ => rfl
  have h28 := z28
  have h29 := z29
  have h30 := z30
  have h31 := z31
  have h32 := z32
  unfold FX5_waysToAsMany at hF
  refine lv_aload_n hx hb dX5_waysToAsMany_0 rfl (lv_at hl 0 rfl) ?_
  refine gf_X5_21 hx hb hts hown hK hP h28 dX5_waysToAsMany_1 ?_
  obtain ⟨u1, e_u1⟩ : ∃ q, q = FX4_begin ta_cells := ⟨_, rfl⟩
  replace hF := nm_at hF e_u1
  refine wr_v (runVN (As := []) (rest := []) X cq_X4_begin lk_X5_51 (c_X4_begin l D cI cJ cZ a ws0 A 31 ta_cells u1 e_u1.symm h31 h32 hD) rfl rfl ⟨Nat.le_of_ble_eq_true rfl, Nat.le_of_ble_eq_true rfl⟩ hP h31 rfl rfl hl.1 rfl (Nat.le_of_ble_eq_true rfl) dX5_waysToAsMany_4 ⟨Nat.le_of_ble_eq_true rfl, Nat.le_of_ble_eq_true rfl⟩) hS (fun w2 H locs hP hD hk hB hS => ?_)
  have h32 : w2[32]? = some (a 32, .inl (cJ, 169, .inr (.inl u1))) := hB
  have h28 := (hk 28 (by simp only [List.mem_cons, List.not_mem_nil, or_false, not_or]; omega)).trans h28
  have h31 := (hk 31 (by simp only [List.mem_cons, List.not_mem_nil, or_false, not_or]; omega)).trans h31
  have h29 := (hk 29 (by simp only [List.mem_cons, List.not_mem_nil, or_false, not_or]; omega)).trans h29
  have h30 := (hk 30 (by simp only [List.mem_cons, List.not_mem_nil, or_false, not_or]; omega)).trans h30
  replace hs := st_tr hk (fun j hj => by simp only [List.mem_cons, List.not_mem_nil, or_false] at hj ⊢; omega) hs
  refine lv_iconst (v := (0 : Int32)) hx hb dX5_waysToAsMany_7 (by decide) ?_
  refine lv_istore_n (lv' := [(2, .int (0 : Int32)), (0, .ref (a 28)), (1, .int p1)]) hx hb dX5_waysToAsMany_8 rfl hl (by decide) rfl (fun ls hl => ?_)
  have hL9 : ∀ (nf : Nat) (x3 : Int32) (x4 : Nat → Int64) (r : (Nat → Int64)), itr (fun v => FX5_waysToAsMany_S9 ta_size ta_hands p1 v.1 v.2) nf (x3, x4) = some r → ∀ (wJ : va_W) (HJ : Heap) (lJ : List Loc), va_P D vwCl wJ HJ → va_D A wJ → va_S A s.heap HJ lJ → (∀ j : Nat, j ∉ [32] → wJ[j]? = ws0[j]?) → wJ[32]? = some (a 32, .inl (cJ, 169, .inr (.inl x4))) → ∀ ls, lv_has ls 5 [(2, .int x3), (0, .ref (a 28)), (1, .int p1)] → (∀ o : (Nat → Int64), r = o → ∀ (wK : va_W) (HK : Heap) (lK : List Loc), va_P D vwCl wK HK → va_D A wK → va_S A s.heap HK lK → (∀ j : Nat, j ∉ [32] → wK[j]? = ws0[j]?) → wK[32]? = some (a 32, .inl (cJ, 169, .inr (.inl o))) → ∀ ls, lv_has ls 5 [(0, .ref (a 28)), (1, .int p1)] → W p l e rm_X5_waysToAsMany s m args below meth c HK lK 0 0 Q (F0 m 57 ls [])) → W p l e rm_X5_waysToAsMany s m args below meth c HJ lJ 0 0 Q (F0 m 9 ls []) := by
    intro nf
    induction nf with
    | zero => intro _ _ r hF; exact (itr_0 hF).elim
    | succ nf ih =>
      intro x3 x4 r hF w H locs hP hD hS hs h32 ls hl hE
      obtain ⟨wo, hF, hw⟩ := itr_s hF
      replace hF : FX5_waysToAsMany_S9 ta_size ta_hands p1 x3 x4 = some wo := hF
      have h28 := (hs 28 (by simp only [List.mem_cons, List.not_mem_nil, or_false, not_or]; omega)).trans z28
      have h31 := (hs 31 (by simp only [List.mem_cons, List.not_mem_nil, or_false, not_or]; omega)).trans z31
      have h29 := (hs 29 (by simp only [List.mem_cons, List.not_mem_nil, or_false, not_or]; omega)).trans z29
      have h30 := (hs 30 (by simp only [List.mem_cons, List.not_mem_nil, or_false, not_or]; omega)).trans z30
      unfold FX5_waysToAsMany_S9 at hF
      refine lv_iload_n hx hb dX5_waysToAsMany_9 rfl (lv_at hl 0 rfl) ?_
      refine lv_aload_n hx hb dX5_waysToAsMany_10 rfl (lv_at hl 1 rfl) ?_
      refine gf_X5_25 hx hb hts hown hK hP h28 dX5_waysToAsMany_11 ?_
      refine lv_icmp_ge (tgt := 57) hx hb dX5_waysToAsMany_14 (by decide) (fun c5 => ?_) (fun c5 => ?_)
      · replace hF := (if_pos c5).symm.trans hF
        obtain rfl := Option.some.inj hF
        obtain rfl := hw
        exact hE _ rfl _ _ _ hP hD hS hs h32 ls (lv_sub hl [1, 2] rfl)
      · replace hF := (if_neg c5).symm.trans hF
        refine lv_aload_n hx hb dX5_waysToAsMany_17 rfl (lv_at hl 1 rfl) ?_
        refine gf_X5_9 hx hb hts hown hK hP h28 dX5_waysToAsMany_18 ?_
        refine lv_iload_n hx hb dX5_waysToAsMany_21 rfl (lv_at hl 0 rfl) ?_
        refine rd_i (runSN (As := [.ref (a 29), .int x3]) (rest := []) X cq_X8_at lk_X5_33 (t_X8_at l D cI cJ cZ a w 29 ta_hands 12 x3 _ rfl h29 (by decide)) rfl rfl ⟨Nat.le_of_ble_eq_true rfl, Nat.le_of_ble_eq_true rfl⟩ hP rfl hl.1 rfl (Nat.le_of_ble_eq_true rfl) dX5_waysToAsMany_22 ⟨Nat.le_of_ble_eq_true rfl, Nat.le_of_ble_eq_true rfl⟩) ?_
        refine lv_istore_n (lv' := [(3, .int (gat ta_hands 12 x3)), (2, .int x3), (0, .ref (a 28)), (1, .int p1)]) hx hb dX5_waysToAsMany_25 rfl hl (by decide) rfl (fun ls hl => ?_)
        refine lv_aload_n hx hb dX5_waysToAsMany_26 rfl (lv_at hl 2 rfl) ?_
        refine gf_X5_21 hx hb hts hown hK hP h28 dX5_waysToAsMany_27 ?_
        refine lv_lconst (v := (0 : Int64)) hx hb dX5_waysToAsMany_30 (by decide) ?_
        refine lv_iload_n hx hb dX5_waysToAsMany_31 rfl (lv_at hl 0 rfl) ?_
        refine lv_iload_n hx hb dX5_waysToAsMany_32 rfl (lv_at hl 3 rfl) ?_
        refine lv_iand hx hb dX5_waysToAsMany_33 ?_
        refine rd_i (runS (As := [.int ((gat ta_hands 12 x3) &&& p1)]) (rest := [.long (0 : Int64), .ref (a 31)]) X cq_J6_bitCount_0f7a4 lk_X5_41 (c_J6_bitCount_0f7a4 l D cI cJ cZ a w ((gat ta_hands 12 x3) &&& p1) _ rfl ) rfl rfl ⟨Nat.le_of_ble_eq_true rfl, Nat.le_of_ble_eq_true rfl⟩ hP rfl hl.1 rfl (Nat.le_of_ble_eq_true rfl) dX5_waysToAsMany_34 ⟨Nat.le_of_ble_eq_true rfl, Nat.le_of_ble_eq_true rfl⟩) ?_
        refine lv_i2l hx hb dX5_waysToAsMany_37 rfl ?_
        refine lv_lconst (v := (0 : Int64)) hx hb dX5_waysToAsMany_38 (by decide) ?_
        refine lv_iload_n hx hb dX5_waysToAsMany_39 rfl (lv_at hl 0 rfl) ?_
        refine lv_iload_n hx hb dX5_waysToAsMany_40 rfl (lv_at hl 3 rfl) ?_
        refine lv_iconst (v := (-1 : Int32)) hx hb dX5_waysToAsMany_41 (by decide) ?_
        refine lv_ixor hx hb dX5_waysToAsMany_42 ?_
        refine lv_iand hx hb dX5_waysToAsMany_43 ?_
        refine rd_i (runS (As := [.int ((gat ta_hands 12 x3) &&& (p1 ^^^ (-1 : Int32)))]) (rest := [.long (0 : Int64), .long ((FJ6_bitCount_0f7a4 ((gat ta_hands 12 x3) &&& p1)).toInt64), .long (0 : Int64), .ref (a 31)]) X cq_J6_bitCount_0f7a4 lk_X5_41 (c_J6_bitCount_0f7a4 l D cI cJ cZ a w ((gat ta_hands 12 x3) &&& (p1 ^^^ (-1 : Int32))) _ rfl ) rfl rfl ⟨Nat.le_of_ble_eq_true rfl, Nat.le_of_ble_eq_true rfl⟩ hP rfl hl.1 rfl (Nat.le_of_ble_eq_true rfl) dX5_waysToAsMany_44 ⟨Nat.le_of_ble_eq_true rfl, Nat.le_of_ble_eq_true rfl⟩) ?_
        refine lv_i2l hx hb dX5_waysToAsMany_47 rfl ?_
        obtain ⟨u6, hu6, hF⟩ := bd_some hF
        refine wr_v (runVN (As := [.long (0 : Int64), .long ((FJ6_bitCount_0f7a4 ((gat ta_hands 12 x3) &&& p1)).toInt64), .long (0 : Int64), .long ((FJ6_bitCount_0f7a4 ((gat ta_hands 12 x3) &&& (p1 ^^^ (-1 : Int32)))).toInt64)]) (rest := []) X cq_X4_join lk_X5_54 (c_X4_join l D cI cJ cZ a w A 31 x4 (0 : Int64) ((FJ6_bitCount_0f7a4 ((gat ta_hands 12 x3) &&& p1)).toInt64) (0 : Int64) ((FJ6_bitCount_0f7a4 ((gat ta_hands 12 x3) &&& (p1 ^^^ (-1 : Int32)))).toInt64) u6 hu6 h31 h32 hD) rfl rfl ⟨Nat.le_of_ble_eq_true rfl, Nat.le_of_ble_eq_true rfl⟩ hP h31 rfl rfl hl.1 rfl (Nat.le_of_ble_eq_true rfl) dX5_waysToAsMany_48 ⟨Nat.le_of_ble_eq_true rfl, Nat.le_of_ble_eq_true rfl⟩) hS (fun w7 H locs hP hD hk hB hS => ?_)
        have h32 : w7[32]? = some (a 32, .inl (cJ, 169, .inr (.inl u6))) := hB
        have h28 := (hk 28 (by simp only [List.mem_cons, List.not_mem_nil, or_false, not_or]; omega)).trans h28
        have h31 := (hk 31 (by simp only [List.mem_cons, List.not_mem_nil, or_false, not_or]; omega)).trans h31
        have h29 := (hk 29 (by simp only [List.mem_cons, List.not_mem_nil, or_false, not_or]; omega)).trans h29
        have h30 := (hk 30 (by simp only [List.mem_cons, List.not_mem_nil, or_false, not_or]; omega)).trans h30
        replace hs := st_tr hk (fun j hj => by simp only [List.mem_cons, List.not_mem_nil, or_false] at hj ⊢; omega) hs
        refine lv_iinc (v := x3 + (1 : Int32)) (lv' := [(2, .int (x3 + (1 : Int32))), (3, .int (gat ta_hands 12 x3)), (0, .ref (a 28)), (1, .int p1)]) hx hb dX5_waysToAsMany_51 hl (k := 1) rfl rfl (by decide) rfl (fun ls hl => ?_)
        refine lv_goto (tgt := 9) hx hb dX5_waysToAsMany_54 (by decide) ?_
        obtain rfl := Option.some.inj hF
        exact ih _ _ _ hw _ _ _ hP hD hS hs h32 ls (lv_sub hl [0, 2, 3] rfl) hE
  obtain ⟨o8, ho8, hF⟩ := bd_some hF
  refine hL9 fu (0 : Int32) u1 o8 ho8 _ _ _ hP hD hS hs h32 ls (lv_sub hl [0, 1, 2] rfl) ?_
  intro _ q_o8 w H locs hP hD hS hs h32 ls hl
  subst q_o8
  have h28 := (hs 28 (by simp only [List.mem_cons, List.not_mem_nil, or_false, not_or]; omega)).trans z28
  have h31 := (hs 31 (by simp only [List.mem_cons, List.not_mem_nil, or_false, not_or]; omega)).trans z31
  have h29 := (hs 29 (by simp only [List.mem_cons, List.not_mem_nil, or_false, not_or]; omega)).trans z29
  have h30 := (hs 30 (by simp only [List.mem_cons, List.not_mem_nil, or_false, not_or]; omega)).trans z30
  refine lv_lconst (v := (0 : Int64)) hx hb dX5_waysToAsMany_57 (by decide) ?_
  refine lv_lstore_n (lv' := [(2, .long (0 : Int64)), (0, .ref (a 28)), (1, .int p1)]) hx hb dX5_waysToAsMany_58 rfl hl (by decide) rfl (fun ls hl => ?_)
  refine lv_aload_n hx hb dX5_waysToAsMany_59 rfl (lv_at hl 1 rfl) ?_
  refine lv_iload_n hx hb dX5_waysToAsMany_60 rfl (lv_at hl 2 rfl) ?_
  obtain ⟨x9, hx9, hF⟩ := bd_some hF
  refine rd_i (runV (As := [.int p1]) (rest := []) X cq_X5_takenOf lk_X5_58 (c_X5_takenOf l D cI cJ cZ a w ta_size ta_ones p1 x9 hx9 h28 h30) rfl rfl ⟨Nat.le_of_ble_eq_true rfl, Nat.le_of_ble_eq_true rfl⟩ hP h28 rfl rfl hl.1 rfl (Nat.le_of_ble_eq_true rfl) dX5_waysToAsMany_61 ⟨Nat.le_of_ble_eq_true rfl, Nat.le_of_ble_eq_true rfl⟩) ?_
  refine lv_istore (lv' := [(4, .int x9), (2, .long (0 : Int64)), (0, .ref (a 28)), (1, .int p1)]) hx hb dX5_waysToAsMany_64 hl (by decide) rfl (fun ls hl => ?_)
  have hL66 : ∀ (nf : Nat) (x10 : Int64) (x11 : Int32) (r : Int64), itr (fun v => FX5_waysToAsMany_S66 ta_size o8 v.1 v.2) nf (x10, x11) = some r → ∀ (wJ : va_W) (HJ : Heap) (lJ : List Loc), va_P D vwCl wJ HJ → va_D A wJ → va_S A s.heap HJ lJ → (∀ j : Nat, j ∉ [32] → wJ[j]? = ws0[j]?) → wJ[32]? = some (a 32, .inl (cJ, 169, .inr (.inl o8))) → ∀ ls, lv_has ls 5 [(4, .int x11), (2, .long x10), (0, .ref (a 28))] → (∀ o : Int64, r = o → ∀ (wK : va_W) (HK : Heap) (lK : List Loc), va_P D vwCl wK HK → va_D A wK → va_S A s.heap HK lK → (∀ j : Nat, j ∉ [32] → wK[j]? = ws0[j]?) → wK[32]? = some (a 32, .inl (cJ, 169, .inr (.inl o8))) → ∀ ls, lv_has ls 5 [(2, .long o)] → W p l e rm_X5_waysToAsMany s m args below meth c HK lK 0 0 Q (F0 m 94 ls [])) → W p l e rm_X5_waysToAsMany s m args below meth c HJ lJ 0 0 Q (F0 m 66 ls []) := by
    intro nf
    induction nf with
    | zero => intro _ _ r hF; exact (itr_0 hF).elim
    | succ nf ih =>
      intro x10 x11 r hF w H locs hP hD hS hs h32 ls hl hE
      obtain ⟨wo, hF, hw⟩ := itr_s hF
      replace hF : FX5_waysToAsMany_S66 ta_size o8 x10 x11 = some wo := hF
      have h28 := (hs 28 (by simp only [List.mem_cons, List.not_mem_nil, or_false, not_or]; omega)).trans z28
      have h31 := (hs 31 (by simp only [List.mem_cons, List.not_mem_nil, or_false, not_or]; omega)).trans z31
      have h29 := (hs 29 (by simp only [List.mem_cons, List.not_mem_nil, or_false, not_or]; omega)).trans z29
      have h30 := (hs 30 (by simp only [List.mem_cons, List.not_mem_nil, or_false, not_or]; omega)).trans z30
      unfold FX5_waysToAsMany_S66 at hF
      refine lv_iload hx hb dX5_waysToAsMany_66 (lv_at hl 0 rfl) ?_
      refine lv_aload_n hx hb dX5_waysToAsMany_68 rfl (lv_at hl 2 rfl) ?_
      refine gf_X5_25 hx hb hts hown hK hP h28 dX5_waysToAsMany_69 ?_
      refine lv_icmp_gt (tgt := 94) hx hb dX5_waysToAsMany_72 (by decide) (fun c12 => ?_) (fun c12 => ?_)
      · replace hF := (if_pos c12).symm.trans hF
        obtain rfl := Option.some.inj hF
        obtain rfl := hw
        exact hE _ rfl _ _ _ hP hD hS hs h32 ls (lv_sub hl [1] rfl)
      · replace hF := (if_neg c12).symm.trans hF
        refine lv_lload_n hx hb dX5_waysToAsMany_75 rfl (lv_at hl 1 rfl) ?_
        refine lv_aload_n hx hb dX5_waysToAsMany_76 rfl (lv_at hl 2 rfl) ?_
        refine gf_X5_21 hx hb hts hown hK hP h28 dX5_waysToAsMany_77 ?_
        refine lv_iload hx hb dX5_waysToAsMany_80 (lv_at hl 0 rfl) ?_
        refine lv_iconst (v := (0 : Int32)) hx hb dX5_waysToAsMany_82 (by decide) ?_
        refine rd_l (runVN (As := [.int x11, .int (0 : Int32)]) (rest := [.long x10]) X cq_X4_get lk_X5_61 (t_X4_get l D cI cJ cZ a w 31 o8 x11 (0 : Int32) _ rfl h31 h32) rfl rfl ⟨Nat.le_of_ble_eq_true rfl, Nat.le_of_ble_eq_true rfl⟩ hP h31 rfl rfl hl.1 rfl (Nat.le_of_ble_eq_true rfl) dX5_waysToAsMany_83 ⟨Nat.le_of_ble_eq_true rfl, Nat.le_of_ble_eq_true rfl⟩) ?_
        refine lv_ladd hx hb dX5_waysToAsMany_86 ?_
        refine lv_lstore_n (lv' := [(2, .long (x10 + (gget o8 x11 (0 : Int32)))), (4, .int x11), (0, .ref (a 28))]) hx hb dX5_waysToAsMany_87 rfl hl (by decide) rfl (fun ls hl => ?_)
        refine lv_iinc (v := x11 + (1 : Int32)) (lv' := [(4, .int (x11 + (1 : Int32))), (2, .long (x10 + (gget o8 x11 (0 : Int32)))), (0, .ref (a 28))]) hx hb dX5_waysToAsMany_88 hl (k := 1) rfl rfl (by decide) rfl (fun ls hl => ?_)
        refine lv_goto (tgt := 66) hx hb dX5_waysToAsMany_91 (by decide) ?_
        obtain rfl := Option.some.inj hF
        exact ih _ _ _ hw _ _ _ hP hD hS hs h32 ls (lv_sub hl [0, 1, 2] rfl) hE
  obtain ⟨o13, ho13, hF⟩ := bd_some hF
  refine hL66 fu (0 : Int64) x9 o13 ho13 _ _ _ hP hD hS hs h32 ls (lv_sub hl [0, 1, 2] rfl) ?_
  intro _ q_o13 w H locs hP hD hS hs h32 ls hl
  subst q_o13
  have h28 := (hs 28 (by simp only [List.mem_cons, List.not_mem_nil, or_false, not_or]; omega)).trans z28
  have h31 := (hs 31 (by simp only [List.mem_cons, List.not_mem_nil, or_false, not_or]; omega)).trans z31
  have h29 := (hs 29 (by simp only [List.mem_cons, List.not_mem_nil, or_false, not_or]; omega)).trans z29
  have h30 := (hs 30 (by simp only [List.mem_cons, List.not_mem_nil, or_false, not_or]; omega)).trans z30
  refine lv_lload_n hx hb dX5_waysToAsMany_94 rfl (lv_at hl 0 rfl) ?_
  obtain rfl := Option.some.inj hF
  rw [hQ]
  exact rw_l X hS hP hD hs h32 dX5_waysToAsMany_95
def FX5_ways_S4 (ta_size : Int32) (ta_hands : Nat → Int32) (x1 : Int64) (x2 : Int32) : Option ((Int64 × Int32) ⊕ (Int64)) :=
  if ta_size ≤ x2 then (some (.inr x1)) else (some (.inl (x1 * ((FJ6_bitCount_0f7a4 (gat ta_hands 12 x2)).toInt64), x2 + (1 : Int32))))
def FX5_ways (ta_size : Int32) (ta_hands : Nat → Int32) : Option (Int64) :=
  (itr (fun v => FX5_ways_S4 ta_size ta_hands v.1 v.2) fu ((1 : Int64), (0 : Int32))).bind fun o4 => some o4
def rm_X5_ways : Room := { frames := 1, cells := 0, slots := 0, locals := 21 }
set_option maxHeartbeats 4000000 in
set_option maxRecDepth 100000 in
theorem c_X5_ways (l : Launch) (D : va_G) (cI cJ cZ : ClassId) (a : Nat → Nat) (ws0 : va_W)  (ta_size : Int32) (ta_hands : Nat → Int32)  (u : Int64) (hF : FX5_ways ta_size ta_hands = some u) (h28 : ws0[28]? = some (a 28, .inr (5, [.ref (a 29), .ref (a 30), .ref (a 31), .int ta_size]))) (h29 : ws0[29]? = some (a 29, .inl (cI, 12, .inl ta_hands))) : Met l yX5_ways (wq yX5_ways cX5_ways 4 (some .long)) rm_X5_ways (Pq [.ref (a 28)] D cI cJ cZ ws0) (Qq (some (.long u))) 0 0 (fun _ => False) := by
  refine mq_of (by decide) (Nat.le_of_ble_eq_true rfl) (fun p e s m args below meth c ls Q hQ X _ hP hl => ?_)
  obtain ⟨hx, hb, hr, hml, hown, hts, hlk, hK, hN⟩ := id X
  have hown : s.vm.findClass RX5 = some m.cls := hown
  have hl : lv_has ls 4 [(0, .ref (a 28))] := hl
  unfold FX5_ways at hF
  refine lv_lconst (v := (1 : Int64)) hx hb dX5_ways_0 (by decide) ?_
  refine lv_lstore_n (lv' := [(1, .long (1 : Int64)), (0, .ref (a 28))]) hx hb dX5_ways_1 rfl hl (by decide) rfl (fun ls hl => ?_)
  refine lv_iconst (v := (0 : Int32)) hx hb dX5_ways_2 (by decide) ?_
  refine lv_istore_n (lv' := [(3, .int (0 : Int32)), (1, .long (1 : Int64)), (0, .ref (a 28))]) hx hb dX5_ways_3 rfl hl (by decide) rfl (fun ls hl => ?_)
  have hL4 : ∀ (nf : Nat) (x1 : Int64) (x2 : Int32) (r : Int64), itr (fun v => FX5_ways_S4 ta_size ta_hands v.1 v.2) nf (x1, x2) = some r → ∀ ls, lv_has ls 4 [(3, .int x2), (1, .long x1), (0, .ref (a 28))] → (∀ o : Int64, r = o → ∀ ls, lv_has ls 4 [(1, .long o)] → W p l e rm_X5_ways s m args below meth c s.heap [] 0 0 Q (F0 m 33 ls [])) → W p l e rm_X5_ways s m args below meth c s.heap [] 0 0 Q (F0 m 4 ls []) := by
    intro nf
    induction nf with
    | zero => intro _ _ r hF; exact (itr_0 hF).elim
    | succ nf ih =>
      intro x1 x2 r hF ls hl hE
      obtain ⟨wo, hF, hw⟩ := itr_s hF
      replace hF : FX5_ways_S4 ta_size ta_hands x1 x2 = some wo := hF
      unfold FX5_ways_S4 at hF
      refine lv_iload_n hx hb dX5_ways_4 rfl (lv_at hl 0 rfl) ?_
      refine lv_aload_n hx hb dX5_ways_5 rfl (lv_at hl 2 rfl) ?_
      refine gf_X5_25 hx hb hts hown hK hP h28 dX5_ways_6 ?_
      refine lv_icmp_ge (tgt := 33) hx hb dX5_ways_9 (by decide) (fun c3 => ?_) (fun c3 => ?_)
      · replace hF := (if_pos c3).symm.trans hF
        obtain rfl := Option.some.inj hF
        obtain rfl := hw
        exact hE _ rfl ls (lv_sub hl [1] rfl)
      · replace hF := (if_neg c3).symm.trans hF
        refine lv_lload_n hx hb dX5_ways_12 rfl (lv_at hl 1 rfl) ?_
        refine lv_aload_n hx hb dX5_ways_13 rfl (lv_at hl 2 rfl) ?_
        refine gf_X5_9 hx hb hts hown hK hP h28 dX5_ways_14 ?_
        refine lv_iload_n hx hb dX5_ways_17 rfl (lv_at hl 0 rfl) ?_
        refine rd_i (runSN (As := [.ref (a 29), .int x2]) (rest := [.long x1]) X cq_X8_at lk_X5_33 (t_X8_at l D cI cJ cZ a ws0 29 ta_hands 12 x2 _ rfl h29 (by decide)) rfl rfl ⟨Nat.le_of_ble_eq_true rfl, Nat.le_of_ble_eq_true rfl⟩ hP rfl hl.1 rfl (Nat.le_of_ble_eq_true rfl) dX5_ways_18 ⟨Nat.le_of_ble_eq_true rfl, Nat.le_of_ble_eq_true rfl⟩) ?_
        refine rd_i (runS (As := [.int (gat ta_hands 12 x2)]) (rest := [.long x1]) X cq_J6_bitCount_0f7a4 lk_X5_41 (c_J6_bitCount_0f7a4 l D cI cJ cZ a ws0 (gat ta_hands 12 x2) _ rfl ) rfl rfl ⟨Nat.le_of_ble_eq_true rfl, Nat.le_of_ble_eq_true rfl⟩ hP rfl hl.1 rfl (Nat.le_of_ble_eq_true rfl) dX5_ways_21 ⟨Nat.le_of_ble_eq_true rfl, Nat.le_of_ble_eq_true rfl⟩) ?_
        refine lv_i2l hx hb dX5_ways_24 rfl ?_
        refine lv_lmul hx hb dX5_ways_25 ?_
        refine lv_lstore_n (lv' := [(1, .long (x1 * ((FJ6_bitCount_0f7a4 (gat ta_hands 12 x2)).toInt64))), (3, .int x2), (0, .ref (a 28))]) hx hb dX5_ways_26 rfl hl (by decide) rfl (fun ls hl => ?_)
        refine lv_iinc (v := x2 + (1 : Int32)) (lv' := [(3, .int (x2 + (1 : Int32))), (1, .long (x1 * ((FJ6_bitCount_0f7a4 (gat ta_hands 12 x2)).toInt64))), (0, .ref (a 28))]) hx hb dX5_ways_27 hl (k := 1) rfl rfl (by decide) rfl (fun ls hl => ?_)
        refine lv_goto (tgt := 4) hx hb dX5_ways_30 (by decide) ?_
        obtain rfl := Option.some.inj hF
        exact ih _ _ _ hw ls (lv_sub hl [0, 1, 2] rfl) hE
  obtain ⟨o4, ho4, hF⟩ := bd_some hF
  refine hL4 fu (1 : Int64) (0 : Int32) o4 ho4 ls (lv_sub hl [0, 1, 2] rfl) ?_
  intro _ q_o4 ls hl
  subst q_o4
  refine lv_lload_n hx hb dX5_ways_33 rfl (lv_at hl 0 rfl) ?_
  obtain rfl := Option.some.inj hF
  rw [hQ]
  exact rt_l X dX5_ways_34
def FX8_luck (ta_size : Int32) (ta_hands : Nat → Int32) (ta_ones : Nat → Int32) (ta_cells : Nat → Int64) (p1 : Int32) (p2 : Int32) : Option (Int64 × (Nat → Int64)) :=
  if (FX8_outside p1 (0 : Int32) (4095 : Int32)) = true then (some ((-2 : Int64), ta_cells)) else ((FX5_waysToAsMany ta_size ta_cells ta_hands ta_ones p1).bind fun u2 => (FX5_ways ta_size ta_hands).bind fun x4 => (FX8_fraction u2.1 x4 p2).bind fun x5 => some (x5, u2.2))
def rm_X8_luck : Room := { frames := 3, cells := 0, slots := 0, locals := 78 }
set_option maxHeartbeats 4000000 in
set_option maxRecDepth 100000 in
theorem c_X8_luck (l : Launch) (D : va_G) (cI cJ cZ : ClassId) (a : Nat → Nat) (ws0 : va_W) (A : Nat → Prop)  (ta_size : Int32) (ta_hands : Nat → Int32) (ta_ones : Nat → Int32) (ta_cells : Nat → Int64) (p1 : Int32) (p2 : Int32) (u : Int64 × (Nat → Int64)) (hF : FX8_luck ta_size ta_hands ta_ones ta_cells p1 p2 = some u) (z0 : ws0[0]? = some (a 0, .inr (8, [.ref (a 1), .ref (a 3), .ref (a 13), .ref (a 16), .ref (a 22), .ref (a 25), .ref (a 28), .ref (a 33)]))) (z28 : ws0[28]? = some (a 28, .inr (5, [.ref (a 29), .ref (a 30), .ref (a 31), .int ta_size]))) (z29 : ws0[29]? = some (a 29, .inl (cI, 12, .inl ta_hands))) (z30 : ws0[30]? = some (a 30, .inl (cI, 12, .inl ta_ones))) (z31 : ws0[31]? = some (a 31, .inr (4, [.ref (a 32)]))) (z32 : ws0[32]? = some (a 32, .inl (cJ, 169, .inr (.inl ta_cells)))) (hD : va_D A ws0) : Met l yX8_luck (wq yX8_luck cX8_luck 3 (some .long)) rm_X8_luck (Pq [.ref (a 0), .int p1, .int p2] D cI cJ cZ ws0) (Qw D A ws0 [32] (some (.long u.1)) (fun w => w[32]? = some (a 32, .inl (cJ, 169, .inr (.inl u.2))))) 0 0 A := by
  refine mq_of (by decide) (Nat.le_of_ble_eq_true rfl) (fun p e s m args below meth c ls Q hQ X _ hP hl => ?_)
  obtain ⟨hx, hb, hr, hml, hown, hts, hlk, hK, hN⟩ := id X
  have hown : s.vm.findClass RX8 = some m.cls := hown
  have hl : lv_has ls 3 [(0, .ref (a 0)), (1, .int p1), (2, .int p2)] := hl
  have hS : va_S A s.heap s.heap [] := va_S.rf
  have hs : ∀ j : Nat, j ∉ [32] → ws0[j]? = ws0[j]? := fun _ _ => rfl
  have h0 := z0
  have h28 := z28
  have h29 := z29
  have h30 := z30
  have h31 := z31
  have h32 := z32
  unfold FX8_luck at hF
  refine lv_iload_n hx hb dX8_luck_0 rfl (lv_at hl 1 rfl) ?_
  refine lv_iconst (v := (0 : Int32)) hx hb dX8_luck_1 (by decide) ?_
  refine lv_sipush (v := (4095 : Int32)) hx hb dX8_luck_2 (by decide) ?_
  refine rd_i (runS (As := [.int p1, .int (0 : Int32), .int (4095 : Int32)]) (rest := []) X cq_X8_outside lk_X8_61 (c_X8_outside l D cI cJ cZ a ws0 p1 (0 : Int32) (4095 : Int32) _ rfl ) rfl rfl ⟨Nat.le_of_ble_eq_true rfl, Nat.le_of_ble_eq_true rfl⟩ hP rfl hl.1 rfl (Nat.le_of_ble_eq_true rfl) dX8_luck_5 ⟨Nat.le_of_ble_eq_true rfl, Nat.le_of_ble_eq_true rfl⟩) ?_
  refine zf_eq (tgt := 15) hx hb dX8_luck_8 (by decide) (fun c1 => ?_) (fun c1 => ?_)
  · replace hF := (if_neg c1).symm.trans hF
    refine lv_aload_n hx hb dX8_luck_15 rfl (lv_at hl 0 rfl) ?_
    refine gf_X8_50 hx hb hts hown hK hP h0 dX8_luck_16 ?_
    refine lv_iload_n hx hb dX8_luck_19 rfl (lv_at hl 1 rfl) ?_
    obtain ⟨u2, hu2, hF⟩ := bd_some hF
    refine wr_l (runVN (As := [.int p1]) (rest := []) X cq_X5_waysToAsMany lk_X8_224 (c_X5_waysToAsMany l D cI cJ cZ a ws0 A ta_size ta_cells ta_hands ta_ones p1 u2 hu2 h28 h29 h30 h31 h32 hD) rfl rfl ⟨Nat.le_of_ble_eq_true rfl, Nat.le_of_ble_eq_true rfl⟩ hP h28 rfl rfl hl.1 rfl (Nat.le_of_ble_eq_true rfl) dX8_luck_20 ⟨Nat.le_of_ble_eq_true rfl, Nat.le_of_ble_eq_true rfl⟩) hS (fun w3 H locs hP hD hk hB hS => ?_)
    have h32 : w3[32]? = some (a 32, .inl (cJ, 169, .inr (.inl u2.2))) := hB
    have h0 := (hk 0 (by simp only [List.mem_cons, List.not_mem_nil, or_false, not_or]; omega)).trans h0
    have h28 := (hk 28 (by simp only [List.mem_cons, List.not_mem_nil, or_false, not_or]; omega)).trans h28
    have h29 := (hk 29 (by simp only [List.mem_cons, List.not_mem_nil, or_false, not_or]; omega)).trans h29
    have h30 := (hk 30 (by simp only [List.mem_cons, List.not_mem_nil, or_false, not_or]; omega)).trans h30
    have h31 := (hk 31 (by simp only [List.mem_cons, List.not_mem_nil, or_false, not_or]; omega)).trans h31
    replace hs := st_tr hk (fun j hj => by simp only [List.mem_cons, List.not_mem_nil, or_false] at hj ⊢; omega) hs
    refine lv_aload_n hx hb dX8_luck_23 rfl (lv_at hl 0 rfl) ?_
    refine gf_X8_50 hx hb hts hown hK hP h0 dX8_luck_24 ?_
    obtain ⟨x4, hx4, hF⟩ := bd_some hF
    refine rd_l (runVN (As := []) (rest := [.long u2.1]) X cq_X5_ways lk_X8_227 (c_X5_ways l D cI cJ cZ a w3 ta_size ta_hands x4 hx4 h28 h29) rfl rfl ⟨Nat.le_of_ble_eq_true rfl, Nat.le_of_ble_eq_true rfl⟩ hP h28 rfl rfl hl.1 rfl (Nat.le_of_ble_eq_true rfl) dX8_luck_27 ⟨Nat.le_of_ble_eq_true rfl, Nat.le_of_ble_eq_true rfl⟩) ?_
    refine lv_iload_n hx hb dX8_luck_30 rfl (lv_at hl 2 rfl) ?_
    obtain ⟨x5, hx5, hF⟩ := bd_some hF
    refine rd_l (runS (As := [.long u2.1, .long x4, .int p2]) (rest := []) X cq_X8_fraction lk_X8_131 (c_X8_fraction l D cI cJ cZ a w3 u2.1 x4 p2 x5 hx5 ) rfl rfl ⟨Nat.le_of_ble_eq_true rfl, Nat.le_of_ble_eq_true rfl⟩ hP rfl hl.1 rfl (Nat.le_of_ble_eq_true rfl) dX8_luck_31 ⟨Nat.le_of_ble_eq_true rfl, Nat.le_of_ble_eq_true rfl⟩) ?_
    obtain rfl := Option.some.inj hF
    rw [hQ]
    exact rw_l X hS hP hD hs h32 dX8_luck_34
  · replace hF := (if_pos c1).symm.trans hF
    refine lv_ldc2 (v := (-2 : Int64)) hx hb hown (hts _ kl_X8_112) dX8_luck_11 ?_
    obtain rfl := Option.some.inj hF
    rw [hQ]
    exact rw_l X hS hP hD hs h32 dX8_luck_14
def FX8_choices_S16 (p1 : Int32) (p2 : Int32) (x3 : Int64) (x4 : Int32) : Option ((Int64 × Int32) ⊕ (Int64)) :=
  if p2 < x4 then (some (.inr x3)) else (if x4.toInt64 = 0 then none else some (.inl ((x3 * (((p1 - p2) + x4).toInt64)) / x4.toInt64, x4 + (1 : Int32))))
def FX8_choices (p1 : Int32) (p2 : Int32) : Option (Int64) :=
  if p2 < 0 then (some (0 : Int64)) else (if p2 ≤ p1 then ((itr (fun v => FX8_choices_S16 p1 p2 v.1 v.2) fu ((1 : Int64), (1 : Int32))).bind fun o7 => some o7) else (some (0 : Int64)))
def rm_X8_choices : Room := { frames := 0, cells := 0, slots := 0, locals := 0 }
set_option maxHeartbeats 4000000 in
set_option maxRecDepth 100000 in
theorem c_X8_choices (l : Launch) (D : va_G) (cI cJ cZ : ClassId) (a : Nat → Nat) (ws0 : va_W)   (p1 : Int32) (p2 : Int32) (u : Int64) (hF : FX8_choices p1 p2 = some u) : Met l yX8_choices (wq yX8_choices cX8_choices 5 (some .long)) rm_X8_choices (Pq [.int p1, .int p2] D cI cJ cZ ws0) (Qq (some (.long u))) 0 0 (fun _ => False) := by
  refine mq_of (by decide) (Nat.le_of_ble_eq_true rfl) (fun p e s m args below meth c ls Q hQ X _ hP hl => ?_)
  obtain ⟨hx, hb, hr, hml, hown, hts, hlk, hK, hN⟩ := id X
  have hown : s.vm.findClass RX8 = some m.cls := hown
  have hl : lv_has ls 5 [(0, .int p1), (1, .int p2)] := hl
  unfold FX8_choices at hF
  refine lv_iload_n hx hb dX8_choices_0 rfl (lv_at hl 1 rfl) ?_
  refine lv_if_lt (tgt := 9) hx hb dX8_choices_1 (by decide) (fun c1 => ?_) (fun c1 => ?_)
  · replace hF := (if_pos c1).symm.trans hF
    refine lv_lconst (v := (0 : Int64)) hx hb dX8_choices_9 (by decide) ?_
    obtain rfl := Option.some.inj hF
    rw [hQ]
    exact rt_l X dX8_choices_10
  · replace hF := (if_neg c1).symm.trans hF
    refine lv_iload_n hx hb dX8_choices_4 rfl (lv_at hl 1 rfl) ?_
    refine lv_iload_n hx hb dX8_choices_5 rfl (lv_at hl 0 rfl) ?_
    refine lv_icmp_le (tgt := 11) hx hb dX8_choices_6 (by decide) (fun c2 => ?_) (fun c2 => ?_)
    · replace hF := (if_pos c2).symm.trans hF
      refine lv_lconst (v := (1 : Int64)) hx hb dX8_choices_11 (by decide) ?_
      refine lv_lstore_n (lv' := [(2, .long (1 : Int64)), (0, .int p1), (1, .int p2)]) hx hb dX8_choices_12 rfl hl (by decide) rfl (fun ls hl => ?_)
      refine lv_iconst (v := (1 : Int32)) hx hb dX8_choices_13 (by decide) ?_
      refine lv_istore (lv' := [(4, .int (1 : Int32)), (2, .long (1 : Int64)), (0, .int p1), (1, .int p2)]) hx hb dX8_choices_14 hl (by decide) rfl (fun ls hl => ?_)
      have hL16 : ∀ (nf : Nat) (x3 : Int64) (x4 : Int32) (r : Int64), itr (fun v => FX8_choices_S16 p1 p2 v.1 v.2) nf (x3, x4) = some r → ∀ ls, lv_has ls 5 [(4, .int x4), (2, .long x3), (0, .int p1), (1, .int p2)] → (∀ o : Int64, r = o → ∀ ls, lv_has ls 5 [(2, .long o)] → W p l e rm_X8_choices s m args below meth c s.heap [] 0 0 Q (F0 m 42 ls [])) → W p l e rm_X8_choices s m args below meth c s.heap [] 0 0 Q (F0 m 16 ls []) := by
        intro nf
        induction nf with
        | zero => intro _ _ r hF; exact (itr_0 hF).elim
        | succ nf ih =>
          intro x3 x4 r hF ls hl hE
          obtain ⟨wo, hF, hw⟩ := itr_s hF
          replace hF : FX8_choices_S16 p1 p2 x3 x4 = some wo := hF
          unfold FX8_choices_S16 at hF
          refine lv_iload hx hb dX8_choices_16 (lv_at hl 0 rfl) ?_
          refine lv_iload_n hx hb dX8_choices_18 rfl (lv_at hl 3 rfl) ?_
          refine lv_icmp_gt (tgt := 42) hx hb dX8_choices_19 (by decide) (fun c5 => ?_) (fun c5 => ?_)
          · replace hF := (if_pos c5).symm.trans hF
            obtain rfl := Option.some.inj hF
            obtain rfl := hw
            exact hE _ rfl ls (lv_sub hl [1] rfl)
          · replace hF := (if_neg c5).symm.trans hF
            refine lv_lload_n hx hb dX8_choices_22 rfl (lv_at hl 1 rfl) ?_
            refine lv_iload_n hx hb dX8_choices_23 rfl (lv_at hl 2 rfl) ?_
            refine lv_iload_n hx hb dX8_choices_24 rfl (lv_at hl 3 rfl) ?_
            refine lv_isub hx hb dX8_choices_25 ?_
            refine lv_iload hx hb dX8_choices_26 (lv_at hl 0 rfl) ?_
            refine lv_iadd hx hb dX8_choices_28 ?_
            refine lv_i2l hx hb dX8_choices_29 rfl ?_
            refine lv_lmul hx hb dX8_choices_30 ?_
            refine lv_iload hx hb dX8_choices_31 (lv_at hl 0 rfl) ?_
            refine lv_i2l hx hb dX8_choices_33 rfl ?_
            obtain ⟨hg6, hF⟩ := gd_some hF
            refine lv_ldiv hx hb dX8_choices_34 hg6 ?_
            refine lv_lstore_n (lv' := [(2, .long ((x3 * (((p1 - p2) + x4).toInt64)) / x4.toInt64)), (4, .int x4), (0, .int p1), (1, .int p2)]) hx hb dX8_choices_35 rfl hl (by decide) rfl (fun ls hl => ?_)
            refine lv_iinc (v := x4 + (1 : Int32)) (lv' := [(4, .int (x4 + (1 : Int32))), (2, .long ((x3 * (((p1 - p2) + x4).toInt64)) / x4.toInt64)), (0, .int p1), (1, .int p2)]) hx hb dX8_choices_36 hl (k := 1) rfl rfl (by decide) rfl (fun ls hl => ?_)
            refine lv_goto (tgt := 16) hx hb dX8_choices_39 (by decide) ?_
            obtain rfl := Option.some.inj hF
            exact ih _ _ _ hw ls (lv_sub hl [0, 1, 2, 3] rfl) hE
      obtain ⟨o7, ho7, hF⟩ := bd_some hF
      refine hL16 fu (1 : Int64) (1 : Int32) o7 ho7 ls (lv_sub hl [0, 1, 2, 3] rfl) ?_
      intro _ q_o7 ls hl
      subst q_o7
      refine lv_lload_n hx hb dX8_choices_42 rfl (lv_at hl 0 rfl) ?_
      obtain rfl := Option.some.inj hF
      rw [hQ]
      exact rt_l X dX8_choices_43
    · replace hF := (if_neg c2).symm.trans hF
      refine lv_lconst (v := (0 : Int64)) hx hb dX8_choices_9 (by decide) ?_
      obtain rfl := Option.some.inj hF
      rw [hQ]
      exact rt_l X dX8_choices_10
def FX8_waysToSee (p1 : Int32) (p2 : Int32) (p3 : Int32) (p4 : Int32) : Option (Int64) :=
  (FX8_choices p2 p4).bind fun x1 => (FX8_choices (p1 - p2) (p3 - p4)).bind fun x2 => some (x1 * x2)
def rm_X8_waysToSee : Room := { frames := 1, cells := 0, slots := 0, locals := 24 }
set_option maxHeartbeats 4000000 in
set_option maxRecDepth 100000 in
theorem c_X8_waysToSee (l : Launch) (D : va_G) (cI cJ cZ : ClassId) (a : Nat → Nat) (ws0 : va_W)   (p1 : Int32) (p2 : Int32) (p3 : Int32) (p4 : Int32) (u : Int64) (hF : FX8_waysToSee p1 p2 p3 p4 = some u) : Met l yX8_waysToSee (wq yX8_waysToSee cX8_waysToSee 4 (some .long)) rm_X8_waysToSee (Pq [.int p1, .int p2, .int p3, .int p4] D cI cJ cZ ws0) (Qq (some (.long u))) 0 0 (fun _ => False) := by
  refine mq_of (by decide) (Nat.le_of_ble_eq_true rfl) (fun p e s m args below meth c ls Q hQ X _ hP hl => ?_)
  obtain ⟨hx, hb, hr, hml, hown, hts, hlk, hK, hN⟩ := id X
  have hown : s.vm.findClass RX8 = some m.cls := hown
  have hl : lv_has ls 4 [(0, .int p1), (1, .int p2), (2, .int p3), (3, .int p4)] := hl
  unfold FX8_waysToSee at hF
  refine lv_iload_n hx hb dX8_waysToSee_0 rfl (lv_at hl 1 rfl) ?_
  refine lv_iload_n hx hb dX8_waysToSee_1 rfl (lv_at hl 3 rfl) ?_
  obtain ⟨x1, hx1, hF⟩ := bd_some hF
  refine rd_l (runS (As := [.int p2, .int p4]) (rest := []) X cq_X8_choices lk_X8_234 (c_X8_choices l D cI cJ cZ a ws0 p2 p4 x1 hx1 ) rfl rfl ⟨Nat.le_of_ble_eq_true rfl, Nat.le_of_ble_eq_true rfl⟩ hP rfl hl.1 rfl (Nat.le_of_ble_eq_true rfl) dX8_waysToSee_2 ⟨Nat.le_of_ble_eq_true rfl, Nat.le_of_ble_eq_true rfl⟩) ?_
  refine lv_iload_n hx hb dX8_waysToSee_5 rfl (lv_at hl 0 rfl) ?_
  refine lv_iload_n hx hb dX8_waysToSee_6 rfl (lv_at hl 1 rfl) ?_
  refine lv_isub hx hb dX8_waysToSee_7 ?_
  refine lv_iload_n hx hb dX8_waysToSee_8 rfl (lv_at hl 2 rfl) ?_
  refine lv_iload_n hx hb dX8_waysToSee_9 rfl (lv_at hl 3 rfl) ?_
  refine lv_isub hx hb dX8_waysToSee_10 ?_
  obtain ⟨x2, hx2, hF⟩ := bd_some hF
  refine rd_l (runS (As := [.int (p1 - p2), .int (p3 - p4)]) (rest := [.long x1]) X cq_X8_choices lk_X8_234 (c_X8_choices l D cI cJ cZ a ws0 (p1 - p2) (p3 - p4) x2 hx2 ) rfl rfl ⟨Nat.le_of_ble_eq_true rfl, Nat.le_of_ble_eq_true rfl⟩ hP rfl hl.1 rfl (Nat.le_of_ble_eq_true rfl) dX8_waysToSee_11 ⟨Nat.le_of_ble_eq_true rfl, Nat.le_of_ble_eq_true rfl⟩) ?_
  refine lv_lmul hx hb dX8_waysToSee_14 ?_
  obtain rfl := Option.some.inj hF
  rw [hQ]
  exact rt_l X dX8_waysToSee_15
def FX8_boards (p1 : Int32) (p2 : Int32) (p3 : Int32) (p4 : Int32) (p5 : Int32) : Option (Int64) :=
  if (FX8_outside p1 (1 : Int32) (30 : Int32)) = true then (some (-2 : Int64)) else (if (FX8_outside p2 (0 : Int32) p1) = true then (some (-2 : Int64)) else (if (FX8_outside p3 (1 : Int32) p1) = true then (some (-2 : Int64)) else (if (FX8_outside p4 (0 : Int32) p3) = true then (some (-2 : Int64)) else ((FX8_waysToSee p1 p2 p3 p4).bind fun x5 => (FX8_choices p1 p3).bind fun x6 => (FX8_fraction x5 x6 p5).bind fun x7 => some x7))))
def rm_X8_boards : Room := { frames := 2, cells := 0, slots := 0, locals := 56 }
set_option maxHeartbeats 4000000 in
set_option maxRecDepth 100000 in
theorem c_X8_boards (l : Launch) (D : va_G) (cI cJ cZ : ClassId) (a : Nat → Nat) (ws0 : va_W)   (p1 : Int32) (p2 : Int32) (p3 : Int32) (p4 : Int32) (p5 : Int32) (u : Int64) (hF : FX8_boards p1 p2 p3 p4 p5 = some u) : Met l yX8_boards (wq yX8_boards cX8_boards 6 (some .long)) rm_X8_boards (Pq [.ref (a 0), .int p1, .int p2, .int p3, .int p4, .int p5] D cI cJ cZ ws0) (Qq (some (.long u))) 0 0 (fun _ => False) := by
  refine mq_of (by decide) (Nat.le_of_ble_eq_true rfl) (fun p e s m args below meth c ls Q hQ X _ hP hl => ?_)
  obtain ⟨hx, hb, hr, hml, hown, hts, hlk, hK, hN⟩ := id X
  have hown : s.vm.findClass RX8 = some m.cls := hown
  have hl : lv_has ls 6 [(0, .ref (a 0)), (1, .int p1), (2, .int p2), (3, .int p3), (4, .int p4), (5, .int p5)] := hl
  unfold FX8_boards at hF
  refine lv_iload_n hx hb dX8_boards_0 rfl (lv_at hl 1 rfl) ?_
  refine lv_iconst (v := (1 : Int32)) hx hb dX8_boards_1 (by decide) ?_
  refine lv_bipush (v := (30 : Int32)) hx hb dX8_boards_2 (by decide) ?_
  refine rd_i (runS (As := [.int p1, .int (1 : Int32), .int (30 : Int32)]) (rest := []) X cq_X8_outside lk_X8_61 (c_X8_outside l D cI cJ cZ a ws0 p1 (1 : Int32) (30 : Int32) _ rfl ) rfl rfl ⟨Nat.le_of_ble_eq_true rfl, Nat.le_of_ble_eq_true rfl⟩ hP rfl hl.1 rfl (Nat.le_of_ble_eq_true rfl) dX8_boards_4 ⟨Nat.le_of_ble_eq_true rfl, Nat.le_of_ble_eq_true rfl⟩) ?_
  refine zf_ne (tgt := 38) hx hb dX8_boards_7 (by decide) (fun c1 => ?_) (fun c1 => ?_)
  · replace hF := (if_pos c1).symm.trans hF
    refine lv_ldc2 (v := (-2 : Int64)) hx hb hown (hts _ kl_X8_112) dX8_boards_38 ?_
    obtain rfl := Option.some.inj hF
    rw [hQ]
    exact rt_l X dX8_boards_41
  · replace hF := (if_neg c1).symm.trans hF
    refine lv_iload_n hx hb dX8_boards_10 rfl (lv_at hl 2 rfl) ?_
    refine lv_iconst (v := (0 : Int32)) hx hb dX8_boards_11 (by decide) ?_
    refine lv_iload_n hx hb dX8_boards_12 rfl (lv_at hl 1 rfl) ?_
    refine rd_i (runS (As := [.int p2, .int (0 : Int32), .int p1]) (rest := []) X cq_X8_outside lk_X8_61 (c_X8_outside l D cI cJ cZ a ws0 p2 (0 : Int32) p1 _ rfl ) rfl rfl ⟨Nat.le_of_ble_eq_true rfl, Nat.le_of_ble_eq_true rfl⟩ hP rfl hl.1 rfl (Nat.le_of_ble_eq_true rfl) dX8_boards_13 ⟨Nat.le_of_ble_eq_true rfl, Nat.le_of_ble_eq_true rfl⟩) ?_
    refine zf_ne (tgt := 38) hx hb dX8_boards_16 (by decide) (fun c2 => ?_) (fun c2 => ?_)
    · replace hF := (if_pos c2).symm.trans hF
      refine lv_ldc2 (v := (-2 : Int64)) hx hb hown (hts _ kl_X8_112) dX8_boards_38 ?_
      obtain rfl := Option.some.inj hF
      rw [hQ]
      exact rt_l X dX8_boards_41
    · replace hF := (if_neg c2).symm.trans hF
      refine lv_iload_n hx hb dX8_boards_19 rfl (lv_at hl 3 rfl) ?_
      refine lv_iconst (v := (1 : Int32)) hx hb dX8_boards_20 (by decide) ?_
      refine lv_iload_n hx hb dX8_boards_21 rfl (lv_at hl 1 rfl) ?_
      refine rd_i (runS (As := [.int p3, .int (1 : Int32), .int p1]) (rest := []) X cq_X8_outside lk_X8_61 (c_X8_outside l D cI cJ cZ a ws0 p3 (1 : Int32) p1 _ rfl ) rfl rfl ⟨Nat.le_of_ble_eq_true rfl, Nat.le_of_ble_eq_true rfl⟩ hP rfl hl.1 rfl (Nat.le_of_ble_eq_true rfl) dX8_boards_22 ⟨Nat.le_of_ble_eq_true rfl, Nat.le_of_ble_eq_true rfl⟩) ?_
      refine zf_ne (tgt := 38) hx hb dX8_boards_25 (by decide) (fun c3 => ?_) (fun c3 => ?_)
      · replace hF := (if_pos c3).symm.trans hF
        refine lv_ldc2 (v := (-2 : Int64)) hx hb hown (hts _ kl_X8_112) dX8_boards_38 ?_
        obtain rfl := Option.some.inj hF
        rw [hQ]
        exact rt_l X dX8_boards_41
      · replace hF := (if_neg c3).symm.trans hF
        refine lv_iload hx hb dX8_boards_28 (lv_at hl 4 rfl) ?_
        refine lv_iconst (v := (0 : Int32)) hx hb dX8_boards_30 (by decide) ?_
        refine lv_iload_n hx hb dX8_boards_31 rfl (lv_at hl 3 rfl) ?_
        refine rd_i (runS (As := [.int p4, .int (0 : Int32), .int p3]) (rest := []) X cq_X8_outside lk_X8_61 (c_X8_outside l D cI cJ cZ a ws0 p4 (0 : Int32) p3 _ rfl ) rfl rfl ⟨Nat.le_of_ble_eq_true rfl, Nat.le_of_ble_eq_true rfl⟩ hP rfl hl.1 rfl (Nat.le_of_ble_eq_true rfl) dX8_boards_32 ⟨Nat.le_of_ble_eq_true rfl, Nat.le_of_ble_eq_true rfl⟩) ?_
        refine zf_eq (tgt := 42) hx hb dX8_boards_35 (by decide) (fun c4 => ?_) (fun c4 => ?_)
        · replace hF := (if_neg c4).symm.trans hF
          refine lv_iload_n hx hb dX8_boards_42 rfl (lv_at hl 1 rfl) ?_
          refine lv_iload_n hx hb dX8_boards_43 rfl (lv_at hl 2 rfl) ?_
          refine lv_iload_n hx hb dX8_boards_44 rfl (lv_at hl 3 rfl) ?_
          refine lv_iload hx hb dX8_boards_45 (lv_at hl 4 rfl) ?_
          obtain ⟨x5, hx5, hF⟩ := bd_some hF
          refine rd_l (runS (As := [.int p1, .int p2, .int p3, .int p4]) (rest := []) X cq_X8_waysToSee lk_X8_230 (c_X8_waysToSee l D cI cJ cZ a ws0 p1 p2 p3 p4 x5 hx5 ) rfl rfl ⟨Nat.le_of_ble_eq_true rfl, Nat.le_of_ble_eq_true rfl⟩ hP rfl hl.1 rfl (Nat.le_of_ble_eq_true rfl) dX8_boards_47 ⟨Nat.le_of_ble_eq_true rfl, Nat.le_of_ble_eq_true rfl⟩) ?_
          refine lv_iload_n hx hb dX8_boards_50 rfl (lv_at hl 1 rfl) ?_
          refine lv_iload_n hx hb dX8_boards_51 rfl (lv_at hl 3 rfl) ?_
          obtain ⟨x6, hx6, hF⟩ := bd_some hF
          refine rd_l (runS (As := [.int p1, .int p3]) (rest := [.long x5]) X cq_X8_choices lk_X8_234 (c_X8_choices l D cI cJ cZ a ws0 p1 p3 x6 hx6 ) rfl rfl ⟨Nat.le_of_ble_eq_true rfl, Nat.le_of_ble_eq_true rfl⟩ hP rfl hl.1 rfl (Nat.le_of_ble_eq_true rfl) dX8_boards_52 ⟨Nat.le_of_ble_eq_true rfl, Nat.le_of_ble_eq_true rfl⟩) ?_
          refine lv_iload hx hb dX8_boards_55 (lv_at hl 5 rfl) ?_
          obtain ⟨x7, hx7, hF⟩ := bd_some hF
          refine rd_l (runS (As := [.long x5, .long x6, .int p5]) (rest := []) X cq_X8_fraction lk_X8_131 (c_X8_fraction l D cI cJ cZ a ws0 x5 x6 p5 x7 hx7 ) rfl rfl ⟨Nat.le_of_ble_eq_true rfl, Nat.le_of_ble_eq_true rfl⟩ hP rfl hl.1 rfl (Nat.le_of_ble_eq_true rfl) dX8_boards_57 ⟨Nat.le_of_ble_eq_true rfl, Nat.le_of_ble_eq_true rfl⟩) ?_
          obtain rfl := Option.some.inj hF
          rw [hQ]
          exact rt_l X dX8_boards_60
        · replace hF := (if_pos c4).symm.trans hF
          refine lv_ldc2 (v := (-2 : Int64)) hx hb hown (hts _ kl_X8_112) dX8_boards_38 ?_
          obtain rfl := Option.some.inj hF
          rw [hQ]
          exact rt_l X dX8_boards_41
def FX8_span_J93L45 (x15 : Int32) : Option ((Int32 × Int32) ⊕ (Int32)) :=
  some (.inl (x15, x15 + (1 : Int32)))
def FX8_span_J74L45 (p4 : Int32) (x10 : Int32) (x11 : Int32) (x12 : Int32) : Option ((Int32 × Int32) ⊕ (Int32)) :=
  if x12 = 0 then (some (.inl (x11, x10 + (1 : Int32)))) else (if p4 = 0 then (if x11 = (-9 : Int32) then (FX8_span_J93L45 x10) else (some (.inl (x11, x10 + (1 : Int32))))) else (FX8_span_J93L45 x10))
def FX8_span_S45 (p1 : Int32) (p2 : Int32) (p3 : Int32) (p4 : Int32) (x4 : Int64) (x5 : Int32) (x6 : Int32) : Option ((Int32 × Int32) ⊕ (Int32)) :=
  if p1 < x6 then (some (.inr x5)) else ((FX8_waysToSee p1 x6 p2 p3).bind fun x8 => if ((20 : Int64) * x8) < x4 then (FX8_span_J74L45 p4 x6 x5 (0 : Int32)) else (FX8_span_J74L45 p4 x6 x5 (1 : Int32)))
def FX8_span (p1 : Int32) (p2 : Int32) (p3 : Int32) (p4 : Int32) : Option (Int32) :=
  if (FX8_outside p1 (1 : Int32) (30 : Int32)) = true then (some (-2 : Int32)) else (if (FX8_outside p2 (1 : Int32) p1) = true then (some (-2 : Int32)) else (if (FX8_outside p3 (0 : Int32) p2) = true then (some (-2 : Int32)) else ((FX8_choices p1 p2).bind fun x4 => (itr (fun v => FX8_span_S45 p1 p2 p3 p4 x4 v.1 v.2) fu ((-9 : Int32), (0 : Int32))).bind fun o17 => some o17)))
def rm_X8_span : Room := { frames := 2, cells := 0, slots := 0, locals := 47 }
set_option maxHeartbeats 4000000 in
set_option maxRecDepth 100000 in
theorem c_X8_span (l : Launch) (D : va_G) (cI cJ cZ : ClassId) (a : Nat → Nat) (ws0 : va_W)   (p1 : Int32) (p2 : Int32) (p3 : Int32) (p4 : Int32) (u : Int32) (hF : FX8_span p1 p2 p3 p4 = some u) : Met l yX8_span (wq yX8_span cX8_span 10 (some .int)) rm_X8_span (Pq [.ref (a 0), .int p1, .int p2, .int p3, .int p4] D cI cJ cZ ws0) (Qq (some (.int u))) 0 0 (fun _ => False) := by
  refine mq_of (by decide) (Nat.le_of_ble_eq_true rfl) (fun p e s m args below meth c ls Q hQ X _ hP hl => ?_)
  obtain ⟨hx, hb, hr, hml, hown, hts, hlk, hK, hN⟩ := id X
  have hown : s.vm.findClass RX8 = some m.cls := hown
  have hl : lv_has ls 10 [(0, .ref (a 0)), (1, .int p1), (2, .int p2), (3, .int p3), (4, .int p4)] := hl
  unfold FX8_span at hF
  refine lv_iload_n hx hb dX8_span_0 rfl (lv_at hl 1 rfl) ?_
  refine lv_iconst (v := (1 : Int32)) hx hb dX8_span_1 (by decide) ?_
  refine lv_bipush (v := (30 : Int32)) hx hb dX8_span_2 (by decide) ?_
  refine rd_i (runS (As := [.int p1, .int (1 : Int32), .int (30 : Int32)]) (rest := []) X cq_X8_outside lk_X8_61 (c_X8_outside l D cI cJ cZ a ws0 p1 (1 : Int32) (30 : Int32) _ rfl ) rfl rfl ⟨Nat.le_of_ble_eq_true rfl, Nat.le_of_ble_eq_true rfl⟩ hP rfl hl.1 rfl (Nat.le_of_ble_eq_true rfl) dX8_span_4 ⟨Nat.le_of_ble_eq_true rfl, Nat.le_of_ble_eq_true rfl⟩) ?_
  refine zf_ne (tgt := 28) hx hb dX8_span_7 (by decide) (fun c1 => ?_) (fun c1 => ?_)
  · replace hF := (if_pos c1).symm.trans hF
    refine lv_bipush (v := (-2 : Int32)) hx hb dX8_span_28 (by decide) ?_
    obtain rfl := Option.some.inj hF
    rw [hQ]
    exact rt_i X dX8_span_30
  · replace hF := (if_neg c1).symm.trans hF
    refine lv_iload_n hx hb dX8_span_10 rfl (lv_at hl 2 rfl) ?_
    refine lv_iconst (v := (1 : Int32)) hx hb dX8_span_11 (by decide) ?_
    refine lv_iload_n hx hb dX8_span_12 rfl (lv_at hl 1 rfl) ?_
    refine rd_i (runS (As := [.int p2, .int (1 : Int32), .int p1]) (rest := []) X cq_X8_outside lk_X8_61 (c_X8_outside l D cI cJ cZ a ws0 p2 (1 : Int32) p1 _ rfl ) rfl rfl ⟨Nat.le_of_ble_eq_true rfl, Nat.le_of_ble_eq_true rfl⟩ hP rfl hl.1 rfl (Nat.le_of_ble_eq_true rfl) dX8_span_13 ⟨Nat.le_of_ble_eq_true rfl, Nat.le_of_ble_eq_true rfl⟩) ?_
    refine zf_ne (tgt := 28) hx hb dX8_span_16 (by decide) (fun c2 => ?_) (fun c2 => ?_)
    · replace hF := (if_pos c2).symm.trans hF
      refine lv_bipush (v := (-2 : Int32)) hx hb dX8_span_28 (by decide) ?_
      obtain rfl := Option.some.inj hF
      rw [hQ]
      exact rt_i X dX8_span_30
    · replace hF := (if_neg c2).symm.trans hF
      refine lv_iload_n hx hb dX8_span_19 rfl (lv_at hl 3 rfl) ?_
      refine lv_iconst (v := (0 : Int32)) hx hb dX8_span_20 (by decide) ?_
      refine lv_iload_n hx hb dX8_span_21 rfl (lv_at hl 2 rfl) ?_
      refine rd_i (runS (As := [.int p3, .int (0 : Int32), .int p2]) (rest := []) X cq_X8_outside lk_X8_61 (c_X8_outside l D cI cJ cZ a ws0 p3 (0 : Int32) p2 _ rfl ) rfl rfl ⟨Nat.le_of_ble_eq_true rfl, Nat.le_of_ble_eq_true rfl⟩ hP rfl hl.1 rfl (Nat.le_of_ble_eq_true rfl) dX8_span_22 ⟨Nat.le_of_ble_eq_true rfl, Nat.le_of_ble_eq_true rfl⟩) ?_
      refine zf_eq (tgt := 31) hx hb dX8_span_25 (by decide) (fun c3 => ?_) (fun c3 => ?_)
      · replace hF := (if_neg c3).symm.trans hF
        refine lv_iload_n hx hb dX8_span_31 rfl (lv_at hl 1 rfl) ?_
        refine lv_iload_n hx hb dX8_span_32 rfl (lv_at hl 2 rfl) ?_
        obtain ⟨x4, hx4, hF⟩ := bd_some hF
        refine rd_l (runS (As := [.int p1, .int p2]) (rest := []) X cq_X8_choices lk_X8_234 (c_X8_choices l D cI cJ cZ a ws0 p1 p2 x4 hx4 ) rfl rfl ⟨Nat.le_of_ble_eq_true rfl, Nat.le_of_ble_eq_true rfl⟩ hP rfl hl.1 rfl (Nat.le_of_ble_eq_true rfl) dX8_span_33 ⟨Nat.le_of_ble_eq_true rfl, Nat.le_of_ble_eq_true rfl⟩) ?_
        refine lv_lstore (lv' := [(5, .long x4), (0, .ref (a 0)), (1, .int p1), (2, .int p2), (3, .int p3), (4, .int p4)]) hx hb dX8_span_36 hl (by decide) rfl (fun ls hl => ?_)
        refine lv_bipush (v := (-9 : Int32)) hx hb dX8_span_38 (by decide) ?_
        refine lv_istore (lv' := [(7, .int (-9 : Int32)), (5, .long x4), (0, .ref (a 0)), (1, .int p1), (2, .int p2), (3, .int p3), (4, .int p4)]) hx hb dX8_span_40 hl (by decide) rfl (fun ls hl => ?_)
        refine lv_iconst (v := (0 : Int32)) hx hb dX8_span_42 (by decide) ?_
        refine lv_istore (lv' := [(8, .int (0 : Int32)), (7, .int (-9 : Int32)), (5, .long x4), (0, .ref (a 0)), (1, .int p1), (2, .int p2), (3, .int p3), (4, .int p4)]) hx hb dX8_span_43 hl (by decide) rfl (fun ls hl => ?_)
        have hL45 : ∀ (nf : Nat) (x5 : Int32) (x6 : Int32) (r : Int32), itr (fun v => FX8_span_S45 p1 p2 p3 p4 x4 v.1 v.2) nf (x5, x6) = some r → ∀ ls, lv_has ls 10 [(8, .int x6), (7, .int x5), (5, .long x4), (1, .int p1), (2, .int p2), (3, .int p3), (4, .int p4)] → (∀ o : Int32, r = o → ∀ ls, lv_has ls 10 [(7, .int o)] → W p l e rm_X8_span s m args below meth c s.heap [] 0 0 Q (F0 m 103 ls [])) → W p l e rm_X8_span s m args below meth c s.heap [] 0 0 Q (F0 m 45 ls []) := by
          intro nf
          induction nf with
          | zero => intro _ _ r hF; exact (itr_0 hF).elim
          | succ nf ih =>
            intro x5 x6 r hF ls hl hE
            obtain ⟨wo, hF, hw⟩ := itr_s hF
            replace hF : FX8_span_S45 p1 p2 p3 p4 x4 x5 x6 = some wo := hF
            have hJ93 : ∀ (x15 : Int32), ∀ ls, lv_has ls 10 [(8, .int x15), (5, .long x4), (1, .int p1), (2, .int p2), (3, .int p3), (4, .int p4)] → FX8_span_J93L45 x15 = some wo → W p l e rm_X8_span s m args below meth c s.heap [] 0 0 Q (F0 m 93 ls []) := by
              intro x15 ls hl hF
              unfold FX8_span_J93L45 at hF
              refine lv_iload hx hb dX8_span_93 (lv_at hl 0 rfl) ?_
              refine lv_istore (lv' := [(7, .int x15), (8, .int x15), (5, .long x4), (1, .int p1), (2, .int p2), (3, .int p3), (4, .int p4)]) hx hb dX8_span_95 hl (by decide) rfl (fun ls hl => ?_)
              refine lv_iinc (v := x15 + (1 : Int32)) (lv' := [(8, .int (x15 + (1 : Int32))), (7, .int x15), (5, .long x4), (1, .int p1), (2, .int p2), (3, .int p3), (4, .int p4)]) hx hb dX8_span_97 hl (k := 1) rfl rfl (by decide) rfl (fun ls hl => ?_)
              refine lv_goto (tgt := 45) hx hb dX8_span_100 (by decide) ?_
              obtain rfl := Option.some.inj hF
              exact ih _ _ _ hw ls (lv_sub hl [0, 1, 2, 3, 4, 5, 6] rfl) hE
            have hJ74 : ∀ (x10 : Int32) (x11 : Int32) (x12 : Int32), ∀ ls, lv_has ls 10 [(8, .int x10), (7, .int x11), (5, .long x4), (1, .int p1), (2, .int p2), (3, .int p3), (4, .int p4)] → FX8_span_J74L45 p4 x10 x11 x12 = some wo → W p l e rm_X8_span s m args below meth c s.heap [] 0 0 Q (F0 m 74 ls [.int x12]) := by
              intro x10 x11 x12 ls hl hF
              unfold FX8_span_J74L45 at hF
              refine lv_istore (lv' := [(9, .int x12), (8, .int x10), (7, .int x11), (5, .long x4), (1, .int p1), (2, .int p2), (3, .int p3), (4, .int p4)]) hx hb dX8_span_74 hl (by decide) rfl (fun ls hl => ?_)
              refine lv_iload hx hb dX8_span_76 (lv_at hl 0 rfl) ?_
              refine lv_if_eq (tgt := 97) hx hb dX8_span_78 (by decide) (fun c13 => ?_) (fun c13 => ?_)
              · replace hF := (if_pos c13).symm.trans hF
                refine lv_iinc (v := x10 + (1 : Int32)) (lv' := [(8, .int (x10 + (1 : Int32))), (9, .int x12), (7, .int x11), (5, .long x4), (1, .int p1), (2, .int p2), (3, .int p3), (4, .int p4)]) hx hb dX8_span_97 hl (k := 1) rfl rfl (by decide) rfl (fun ls hl => ?_)
                refine lv_goto (tgt := 45) hx hb dX8_span_100 (by decide) ?_
                obtain rfl := Option.some.inj hF
                exact ih _ _ _ hw ls (lv_sub hl [0, 2, 3, 4, 5, 6, 7] rfl) hE
              · replace hF := (if_neg c13).symm.trans hF
                refine lv_iload hx hb dX8_span_81 (lv_at hl 7 rfl) ?_
                refine lv_if_ne (tgt := 93) hx hb dX8_span_83 (by decide) (fun c14 => ?_) (fun c14 => ?_)
                · replace hF := (if_neg c14).symm.trans hF
                  exact hJ93 x10 ls (lv_sub hl [1, 3, 4, 5, 6, 7] rfl) hF
                · replace hF := (if_pos c14).symm.trans hF
                  refine lv_iload hx hb dX8_span_86 (lv_at hl 2 rfl) ?_
                  refine lv_bipush (v := (-9 : Int32)) hx hb dX8_span_88 (by decide) ?_
                  refine lv_icmp_ne (tgt := 97) hx hb dX8_span_90 (by decide) (fun c16 => ?_) (fun c16 => ?_)
                  · replace hF := (if_neg c16).symm.trans hF
                    refine lv_iinc (v := x10 + (1 : Int32)) (lv' := [(8, .int (x10 + (1 : Int32))), (9, .int x12), (7, .int x11), (5, .long x4), (1, .int p1), (2, .int p2), (3, .int p3), (4, .int p4)]) hx hb dX8_span_97 hl (k := 1) rfl rfl (by decide) rfl (fun ls hl => ?_)
                    refine lv_goto (tgt := 45) hx hb dX8_span_100 (by decide) ?_
                    obtain rfl := Option.some.inj hF
                    exact ih _ _ _ hw ls (lv_sub hl [0, 2, 3, 4, 5, 6, 7] rfl) hE
                  · replace hF := (if_pos c16).symm.trans hF
                    exact hJ93 x10 ls (lv_sub hl [1, 3, 4, 5, 6, 7] rfl) hF
            unfold FX8_span_S45 at hF
            refine lv_iload hx hb dX8_span_45 (lv_at hl 0 rfl) ?_
            refine lv_iload_n hx hb dX8_span_47 rfl (lv_at hl 3 rfl) ?_
            refine lv_icmp_gt (tgt := 103) hx hb dX8_span_48 (by decide) (fun c7 => ?_) (fun c7 => ?_)
            · replace hF := (if_pos c7).symm.trans hF
              obtain rfl := Option.some.inj hF
              obtain rfl := hw
              exact hE _ rfl ls (lv_sub hl [1] rfl)
            · replace hF := (if_neg c7).symm.trans hF
              refine lv_ldc2 (v := (20 : Int64)) hx hb hown (hts _ kl_X8_237) dX8_span_51 ?_
              refine lv_iload_n hx hb dX8_span_54 rfl (lv_at hl 3 rfl) ?_
              refine lv_iload hx hb dX8_span_55 (lv_at hl 0 rfl) ?_
              refine lv_iload_n hx hb dX8_span_57 rfl (lv_at hl 4 rfl) ?_
              refine lv_iload_n hx hb dX8_span_58 rfl (lv_at hl 5 rfl) ?_
              obtain ⟨x8, hx8, hF⟩ := bd_some hF
              refine rd_l (runS (As := [.int p1, .int x6, .int p2, .int p3]) (rest := [.long (20 : Int64)]) X cq_X8_waysToSee lk_X8_230 (c_X8_waysToSee l D cI cJ cZ a ws0 p1 x6 p2 p3 x8 hx8 ) rfl rfl ⟨Nat.le_of_ble_eq_true rfl, Nat.le_of_ble_eq_true rfl⟩ hP rfl hl.1 rfl (Nat.le_of_ble_eq_true rfl) dX8_span_59 ⟨Nat.le_of_ble_eq_true rfl, Nat.le_of_ble_eq_true rfl⟩) ?_
              refine lv_lmul hx hb dX8_span_62 ?_
              refine lv_lload hx hb dX8_span_63 (lv_at hl 2 rfl) ?_
              refine W.lcmp hx hb dX8_span_65 ?_
              refine lv_if_lt (tgt := 73) hx hb dX8_span_66 (by decide) (fun c9 => ?_) (fun c9 => ?_)
              · replace c9 := (lc_lt ((20 : Int64) * x8) x4).mp c9
                replace hF := (if_pos c9).symm.trans hF
                refine lv_iconst (v := (0 : Int32)) hx hb dX8_span_73 (by decide) ?_
                exact hJ74 x6 x5 (0 : Int32) ls (lv_sub hl [0, 1, 2, 3, 4, 5, 6] rfl) hF
              · replace c9 := fun q => c9 ((lc_lt ((20 : Int64) * x8) x4).mpr q)
                replace hF := (if_neg c9).symm.trans hF
                refine lv_iconst (v := (1 : Int32)) hx hb dX8_span_69 (by decide) ?_
                refine lv_goto (tgt := 74) hx hb dX8_span_70 (by decide) ?_
                exact hJ74 x6 x5 (1 : Int32) ls (lv_sub hl [0, 1, 2, 3, 4, 5, 6] rfl) hF
        obtain ⟨o17, ho17, hF⟩ := bd_some hF
        refine hL45 fu (-9 : Int32) (0 : Int32) o17 ho17 ls (lv_sub hl [0, 1, 2, 4, 5, 6, 7] rfl) ?_
        intro _ q_o17 ls hl
        subst q_o17
        refine lv_iload hx hb dX8_span_103 (lv_at hl 0 rfl) ?_
        obtain rfl := Option.some.inj hF
        rw [hQ]
        exact rt_i X dX8_span_105
      · replace hF := (if_pos c3).symm.trans hF
        refine lv_bipush (v := (-2 : Int32)) hx hb dX8_span_28 (by decide) ?_
        obtain rfl := Option.some.inj hF
        rw [hQ]
        exact rt_i X dX8_span_30
def FX7_add_J43 (x5 : Nat → Int32) (x6 : Int32) (x7 : Int32) : Int32 × (Nat → Int32) × Int32 × Int32 :=
  (x6 + (1 : Int32), x5, x6 + (1 : Int32), x7)
def FX7_add (tr_waited : Int32) (tr_size : Int32) (tr_hands : Nat → Int32) (p1 : Int32) (p2 : Int32) : Int32 × (Nat → Int32) × Int32 × Int32 :=
  if tr_size < (10 : Int32) then (nmb (gput tr_hands 10 tr_size p1) fun u2 => if p2 = 0 then (FX7_add_J43 u2 tr_size tr_waited) else (FX7_add_J43 u2 tr_size (tr_waited ||| ((1 : Int32) <<< (tr_size &&& 31))))) else (((-4 : Int32), tr_hands, tr_size, tr_waited))
def rm_X7_add : Room := { frames := 1, cells := 0, slots := 0, locals := 22 }
set_option maxHeartbeats 4000000 in
set_option maxRecDepth 100000 in
theorem c_X7_add (l : Launch) (D : va_G) (cI cJ cZ : ClassId) (a : Nat → Nat) (ws0 : va_W) (A : Nat → Prop)  (tr_waited : Int32) (tr_size : Int32) (tr_hands : Nat → Int32) (p1 : Int32) (p2 : Int32) (u : Int32 × (Nat → Int32) × Int32 × Int32) (hF : FX7_add tr_waited tr_size tr_hands p1 p2 = u) (z33 : ws0[33]? = some (a 33, .inr (7, [.ref (a 34), .int tr_waited, .int tr_size]))) (z34 : ws0[34]? = some (a 34, .inl (cI, 10, .inl tr_hands))) (hD : va_D A ws0) : Met l yX7_add (wq yX7_add cX7_add 3 (some .int)) rm_X7_add (Pq [.ref (a 33), .int p1, .int p2] D cI cJ cZ ws0) (Qw D A ws0 [34, 33] (some (.int u.1)) (fun w => w[34]? = some (a 34, .inl (cI, 10, .inl u.2.1)) ∧ w[33]? = some (a 33, .inr (7, [.ref (a 34), .int u.2.2.2, .int u.2.2.1])))) 0 0 A := by
  refine mq_of (by decide) (Nat.le_of_ble_eq_true rfl) (fun p e s m args below meth c ls Q hQ X _ hP hl => ?_)
  obtain ⟨hx, hb, hr, hml, hown, hts, hlk, hK, hN⟩ := id X
  have hown : s.vm.findClass RX7 = some m.cls := hown
  have hl : lv_has ls 3 [(0, .ref (a 33)), (1, .int p1), (2, .int p2)] := hl
  have hS : va_S A s.heap s.heap [] := va_S.rf
  have hs : ∀ j : Nat, j ∉ [34, 33] → ws0[j]? = ws0[j]? := fun _ _ => rfl
  have h33 := z33
  have h34 := z34
  have hJ43 : ∀ (x5 : Nat → Int32) (x6 : Int32) (x7 : Int32), ∀ (wJ : va_W) (HJ : Heap) (lJ : List Loc), va_P D vwCl wJ HJ → va_D A wJ → va_S A s.heap HJ lJ → (∀ j : Nat, j ∉ [34, 33] → wJ[j]? = ws0[j]?) → wJ[34]? = some (a 34, .inl (cI, 10, .inl x5)) → wJ[33]? = some (a 33, .inr (7, [.ref (a 34), .int x7, .int x6])) → ∀ ls, lv_has ls 3 [(0, .ref (a 33))] → FX7_add_J43 x5 x6 x7 = u → W p l e rm_X7_add s m args below meth c HJ lJ 0 0 Q (F0 m 43 ls []) := by
    intro x5 x6 x7 w H locs hP hD hS hs h34 h33 ls hl hF
    unfold FX7_add_J43 at hF
    refine lv_aload_n hx hb dX7_add_43 rfl (lv_at hl 0 rfl) ?_
    refine lv_dup hx hb dX7_add_44 rfl ?_
    refine gf_X7_15 hx hb hts hown hK hP h33 dX7_add_45 ?_
    refine lv_iconst (v := (1 : Int32)) hx hb dX7_add_48 (by decide) ?_
    refine lv_iadd hx hb dX7_add_49 ?_
    refine pf_X7_15 hx hb hts hown hK hP hD hS h33 rfl rfl dX7_add_50 (fun w8 H locs hP hD hk hc hS => ?_)
    have h33 : w8[33]? = some (a 33, .inr (7, [.ref (a 34), .int x7, .int (x6 + (1 : Int32))])) := hc
    have h34 := (hk 34 (by omega)).trans h34
    replace hs := sm_k hk (by simp) hs
    refine lv_aload_n hx hb dX7_add_53 rfl (lv_at hl 0 rfl) ?_
    refine gf_X7_15 hx hb hts hown hK hP h33 dX7_add_54 ?_
    subst hF
    rw [hQ]
    exact rw_i X hS hP hD hs ⟨h34, h33⟩ dX7_add_57
  unfold FX7_add at hF
  refine lv_aload_n hx hb dX7_add_0 rfl (lv_at hl 0 rfl) ?_
  refine gf_X7_15 hx hb hts hown hK hP h33 dX7_add_1 ?_
  refine lv_bipush (v := (10 : Int32)) hx hb dX7_add_4 (by decide) ?_
  refine lv_icmp_lt (tgt := 12) hx hb dX7_add_6 (by decide) (fun c1 => ?_) (fun c1 => ?_)
  · replace hF := (if_pos c1).symm.trans hF
    refine lv_aload_n hx hb dX7_add_12 rfl (lv_at hl 0 rfl) ?_
    refine gf_X7_9 hx hb hts hown hK hP h33 dX7_add_13 ?_
    refine lv_aload_n hx hb dX7_add_16 rfl (lv_at hl 0 rfl) ?_
    refine gf_X7_15 hx hb hts hown hK hP h33 dX7_add_17 ?_
    refine lv_iload_n hx hb dX7_add_20 rfl (lv_at hl 1 rfl) ?_
    obtain ⟨u2, e_u2⟩ : ∃ q, q = gput tr_hands 10 tr_size p1 := ⟨_, rfl⟩
    replace hF := nm_at hF e_u2
    refine wr_v (runSN (As := [.ref (a 34), .int tr_size, .int p1]) (rest := []) X cq_X8_put lk_X7_19 (t_X8_put l D cI cJ cZ a ws0 A 34 tr_hands 10 tr_size p1 u2 e_u2.symm h34 hD (by decide)) rfl rfl ⟨Nat.le_of_ble_eq_true rfl, Nat.le_of_ble_eq_true rfl⟩ hP rfl hl.1 rfl (Nat.le_of_ble_eq_true rfl) dX7_add_21 ⟨Nat.le_of_ble_eq_true rfl, Nat.le_of_ble_eq_true rfl⟩) hS (fun w3 H locs hP hD hk hB hS => ?_)
    have h34 : w3[34]? = some (a 34, .inl (cI, 10, .inl u2)) := hB
    have h33 := (hk 33 (by simp only [List.mem_cons, List.not_mem_nil, or_false, not_or]; omega)).trans h33
    replace hs := st_tr hk (fun j hj => by simp only [List.mem_cons, List.not_mem_nil, or_false] at hj ⊢; omega) hs
    refine lv_iload_n hx hb dX7_add_24 rfl (lv_at hl 2 rfl) ?_
    refine lv_if_eq (tgt := 43) hx hb dX7_add_25 (by decide) (fun c4 => ?_) (fun c4 => ?_)
    · replace hF := (if_pos c4).symm.trans hF
      exact hJ43 u2 tr_size tr_waited _ _ _ hP hD hS hs h34 h33 ls (lv_sub hl [0] rfl) hF
    · replace hF := (if_neg c4).symm.trans hF
      refine lv_aload_n hx hb dX7_add_28 rfl (lv_at hl 0 rfl) ?_
      refine lv_dup hx hb dX7_add_29 rfl ?_
      refine gf_X7_23 hx hb hts hown hK hP h33 dX7_add_30 ?_
      refine lv_iconst (v := (1 : Int32)) hx hb dX7_add_33 (by decide) ?_
      refine lv_aload_n hx hb dX7_add_34 rfl (lv_at hl 0 rfl) ?_
      refine gf_X7_15 hx hb hts hown hK hP h33 dX7_add_35 ?_
      refine lv_ishl hx hb dX7_add_38 ?_
      refine lv_ior hx hb dX7_add_39 ?_
      refine pf_X7_23 hx hb hts hown hK hP hD hS h33 rfl rfl dX7_add_40 (fun w9 H locs hP hD hk hc hS => ?_)
      have h33 : w9[33]? = some (a 33, .inr (7, [.ref (a 34), .int (tr_waited ||| ((1 : Int32) <<< (tr_size &&& 31))), .int tr_size])) := hc
      have h34 := (hk 34 (by omega)).trans h34
      replace hs := sm_k hk (by simp) hs
      exact hJ43 u2 tr_size (tr_waited ||| ((1 : Int32) <<< (tr_size &&& 31))) _ _ _ hP hD hS hs h34 h33 ls (lv_sub hl [0] rfl) hF
  · replace hF := (if_neg c1).symm.trans hF
    refine lv_bipush (v := (-4 : Int32)) hx hb dX7_add_9 (by decide) ?_
    subst hF
    rw [hQ]
    exact rw_i X hS hP hD hs ⟨h34, h33⟩ dX7_add_11
def FX8_trial (tr_waited : Int32) (tr_size : Int32) (tr_hands : Nat → Int32) (p1 : Int32) (p2 : Int32) : Int32 × (Nat → Int32) × Int32 × Int32 :=
  if (FX8_outside p1 (0 : Int32) (99 : Int32)) = true then (((-2 : Int32), tr_hands, tr_size, tr_waited)) else (nmb (FX7_add tr_waited tr_size tr_hands p1 p2) fun u2 => (u2.1, u2.2.1, u2.2.2.1, u2.2.2.2))
def rm_X8_trial : Room := { frames := 2, cells := 0, slots := 0, locals := 44 }
set_option maxHeartbeats 4000000 in
set_option maxRecDepth 100000 in
theorem c_X8_trial (l : Launch) (D : va_G) (cI cJ cZ : ClassId) (a : Nat → Nat) (ws0 : va_W) (A : Nat → Prop)  (tr_waited : Int32) (tr_size : Int32) (tr_hands : Nat → Int32) (p1 : Int32) (p2 : Int32) (u : Int32 × (Nat → Int32) × Int32 × Int32) (hF : FX8_trial tr_waited tr_size tr_hands p1 p2 = u) (z0 : ws0[0]? = some (a 0, .inr (8, [.ref (a 1), .ref (a 3), .ref (a 13), .ref (a 16), .ref (a 22), .ref (a 25), .ref (a 28), .ref (a 33)]))) (z33 : ws0[33]? = some (a 33, .inr (7, [.ref (a 34), .int tr_waited, .int tr_size]))) (z34 : ws0[34]? = some (a 34, .inl (cI, 10, .inl tr_hands))) (hD : va_D A ws0) : Met l yX8_trial (wq yX8_trial cX8_trial 3 (some .int)) rm_X8_trial (Pq [.ref (a 0), .int p1, .int p2] D cI cJ cZ ws0) (Qw D A ws0 [34, 33] (some (.int u.1)) (fun w => w[34]? = some (a 34, .inl (cI, 10, .inl u.2.1)) ∧ w[33]? = some (a 33, .inr (7, [.ref (a 34), .int u.2.2.2, .int u.2.2.1])))) 0 0 A := by
  refine mq_of (by decide) (Nat.le_of_ble_eq_true rfl) (fun p e s m args below meth c ls Q hQ X _ hP hl => ?_)
  obtain ⟨hx, hb, hr, hml, hown, hts, hlk, hK, hN⟩ := id X
  have hown : s.vm.findClass RX8 = some m.cls := hown
  have hl : lv_has ls 3 [(0, .ref (a 0)), (1, .int p1), (2, .int p2)] := hl
  have hS : va_S A s.heap s.heap [] := va_S.rf
  have hs : ∀ j : Nat, j ∉ [34, 33] → ws0[j]? = ws0[j]? := fun _ _ => rfl
  have h0 := z0
  have h33 := z33
  have h34 := z34
  unfold FX8_trial at hF
  refine lv_iload_n hx hb dX8_trial_0 rfl (lv_at hl 1 rfl) ?_
  refine lv_iconst (v := (0 : Int32)) hx hb dX8_trial_1 (by decide) ?_
  refine lv_bipush (v := (99 : Int32)) hx hb dX8_trial_2 (by decide) ?_
  refine rd_i (runS (As := [.int p1, .int (0 : Int32), .int (99 : Int32)]) (rest := []) X cq_X8_outside lk_X8_61 (c_X8_outside l D cI cJ cZ a ws0 p1 (0 : Int32) (99 : Int32) _ rfl ) rfl rfl ⟨Nat.le_of_ble_eq_true rfl, Nat.le_of_ble_eq_true rfl⟩ hP rfl hl.1 rfl (Nat.le_of_ble_eq_true rfl) dX8_trial_4 ⟨Nat.le_of_ble_eq_true rfl, Nat.le_of_ble_eq_true rfl⟩) ?_
  refine zf_eq (tgt := 15) hx hb dX8_trial_7 (by decide) (fun c1 => ?_) (fun c1 => ?_)
  · replace hF := (if_neg c1).symm.trans hF
    refine lv_aload_n hx hb dX8_trial_15 rfl (lv_at hl 0 rfl) ?_
    refine gf_X8_57 hx hb hts hown hK hP h0 dX8_trial_16 ?_
    refine lv_iload_n hx hb dX8_trial_19 rfl (lv_at hl 1 rfl) ?_
    refine lv_iload_n hx hb dX8_trial_20 rfl (lv_at hl 2 rfl) ?_
    obtain ⟨u2, e_u2⟩ : ∃ q, q = FX7_add tr_waited tr_size tr_hands p1 p2 := ⟨_, rfl⟩
    replace hF := nm_at hF e_u2
    refine wr_i (runVN (As := [.int p1, .int p2]) (rest := []) X cq_X7_add lk_X8_239 (c_X7_add l D cI cJ cZ a ws0 A tr_waited tr_size tr_hands p1 p2 u2 e_u2.symm h33 h34 hD) rfl rfl ⟨Nat.le_of_ble_eq_true rfl, Nat.le_of_ble_eq_true rfl⟩ hP h33 rfl rfl hl.1 rfl (Nat.le_of_ble_eq_true rfl) dX8_trial_21 ⟨Nat.le_of_ble_eq_true rfl, Nat.le_of_ble_eq_true rfl⟩) hS (fun w3 H locs hP hD hk hB hS => ?_)
    obtain ⟨hB0, hB1⟩ := hB
    have h34 : w3[34]? = some (a 34, .inl (cI, 10, .inl u2.2.1)) := hB0
    have h33 : w3[33]? = some (a 33, .inr (7, [.ref (a 34), .int u2.2.2.2, .int u2.2.2.1])) := hB1
    have h0 := (hk 0 (by simp only [List.mem_cons, List.not_mem_nil, or_false, not_or]; omega)).trans h0
    replace hs := st_tr hk (fun j hj => by simp only [List.mem_cons, List.not_mem_nil, or_false] at hj ⊢; omega) hs
    subst hF
    rw [hQ]
    exact rw_i X hS hP hD hs ⟨h34, h33⟩ dX8_trial_24
  · replace hF := (if_pos c1).symm.trans hF
    refine lv_bipush (v := (-2 : Int32)) hx hb dX8_trial_10 (by decide) ?_
    refine lv_goto (tgt := 24) hx hb dX8_trial_12 (by decide) ?_
    subst hF
    rw [hQ]
    exact rw_i X hS hP hD hs ⟨h34, h33⟩ dX8_trial_24
def FX7_empty (tr_size : Int32) : Int32 × Int32 × Int32 :=
  (tr_size, (0 : Int32), (0 : Int32))
def rm_X7_empty : Room := { frames := 0, cells := 0, slots := 0, locals := 0 }
set_option maxHeartbeats 4000000 in
set_option maxRecDepth 100000 in
theorem c_X7_empty (l : Launch) (D : va_G) (cI cJ cZ : ClassId) (a : Nat → Nat) (ws0 : va_W) (A : Nat → Prop)  (tr_waited : Int32) (tr_size : Int32)  (u : Int32 × Int32 × Int32) (hF : FX7_empty tr_size = u) (z33 : ws0[33]? = some (a 33, .inr (7, [.ref (a 34), .int tr_waited, .int tr_size]))) (hD : va_D A ws0) : Met l yX7_empty (wq yX7_empty cX7_empty 2 (some .int)) rm_X7_empty (Pq [.ref (a 33)] D cI cJ cZ ws0) (Qw D A ws0 [33] (some (.int u.1)) (fun w => w[33]? = some (a 33, .inr (7, [.ref (a 34), .int u.2.2, .int u.2.1])))) 0 0 A := by
  refine mq_of (by decide) (Nat.le_of_ble_eq_true rfl) (fun p e s m args below meth c ls Q hQ X _ hP hl => ?_)
  obtain ⟨hx, hb, hr, hml, hown, hts, hlk, hK, hN⟩ := id X
  have hown : s.vm.findClass RX7 = some m.cls := hown
  have hl : lv_has ls 2 [(0, .ref (a 33))] := hl
  have hS : va_S A s.heap s.heap [] := va_S.rf
  have hs : ∀ j : Nat, j ∉ [33] → ws0[j]? = ws0[j]? := fun _ _ => rfl
  have h33 := z33
  unfold FX7_empty at hF
  refine lv_aload_n hx hb dX7_empty_0 rfl (lv_at hl 0 rfl) ?_
  refine gf_X7_15 hx hb hts hown hK hP h33 dX7_empty_1 ?_
  refine lv_istore_n (lv' := [(1, .int tr_size), (0, .ref (a 33))]) hx hb dX7_empty_4 rfl hl (by decide) rfl (fun ls hl => ?_)
  refine lv_aload_n hx hb dX7_empty_5 rfl (lv_at hl 1 rfl) ?_
  refine lv_iconst (v := (0 : Int32)) hx hb dX7_empty_6 (by decide) ?_
  refine pf_X7_15 hx hb hts hown hK hP hD hS h33 rfl rfl dX7_empty_7 (fun w1 H locs hP hD hk hc hS => ?_)
  have h33 : w1[33]? = some (a 33, .inr (7, [.ref (a 34), .int tr_waited, .int (0 : Int32)])) := hc
  replace hs := sm_k hk (by simp) hs
  refine lv_aload_n hx hb dX7_empty_10 rfl (lv_at hl 1 rfl) ?_
  refine lv_iconst (v := (0 : Int32)) hx hb dX7_empty_11 (by decide) ?_
  refine pf_X7_23 hx hb hts hown hK hP hD hS h33 rfl rfl dX7_empty_12 (fun w2 H locs hP hD hk hc hS => ?_)
  have h33 : w2[33]? = some (a 33, .inr (7, [.ref (a 34), .int (0 : Int32), .int (0 : Int32)])) := hc
  replace hs := sm_k hk (by simp) hs
  refine lv_iload_n hx hb dX7_empty_15 rfl (lv_at hl 0 rfl) ?_
  subst hF
  rw [hQ]
  exact rw_i X hS hP hD hs h33 dX7_empty_16
def FX8_untrial (tr_size : Int32) : Int32 × Int32 × Int32 :=
  nmb (FX7_empty tr_size) fun u1 => (u1.1, u1.2.1, u1.2.2)
def rm_X8_untrial : Room := { frames := 1, cells := 0, slots := 0, locals := 21 }
set_option maxHeartbeats 4000000 in
set_option maxRecDepth 100000 in
theorem c_X8_untrial (l : Launch) (D : va_G) (cI cJ cZ : ClassId) (a : Nat → Nat) (ws0 : va_W) (A : Nat → Prop)  (tr_waited : Int32) (tr_size : Int32)  (u : Int32 × Int32 × Int32) (hF : FX8_untrial tr_size = u) (z0 : ws0[0]? = some (a 0, .inr (8, [.ref (a 1), .ref (a 3), .ref (a 13), .ref (a 16), .ref (a 22), .ref (a 25), .ref (a 28), .ref (a 33)]))) (z33 : ws0[33]? = some (a 33, .inr (7, [.ref (a 34), .int tr_waited, .int tr_size]))) (hD : va_D A ws0) : Met l yX8_untrial (wq yX8_untrial cX8_untrial 1 (some .int)) rm_X8_untrial (Pq [.ref (a 0)] D cI cJ cZ ws0) (Qw D A ws0 [33] (some (.int u.1)) (fun w => w[33]? = some (a 33, .inr (7, [.ref (a 34), .int u.2.2, .int u.2.1])))) 0 0 A := by
  refine mq_of (by decide) (Nat.le_of_ble_eq_true rfl) (fun p e s m args below meth c ls Q hQ X _ hP hl => ?_)
  obtain ⟨hx, hb, hr, hml, hown, hts, hlk, hK, hN⟩ := id X
  have hown : s.vm.findClass RX8 = some m.cls := hown
  have hl : lv_has ls 1 [(0, .ref (a 0))] := hl
  have hS : va_S A s.heap s.heap [] := va_S.rf
  have hs : ∀ j : Nat, j ∉ [33] → ws0[j]? = ws0[j]? := fun _ _ => rfl
  have h0 := z0
  have h33 := z33
  unfold FX8_untrial at hF
  refine lv_aload_n hx hb dX8_untrial_0 rfl (lv_at hl 0 rfl) ?_
  refine gf_X8_57 hx hb hts hown hK hP h0 dX8_untrial_1 ?_
  obtain ⟨u1, e_u1⟩ : ∃ q, q = FX7_empty tr_size := ⟨_, rfl⟩
  replace hF := nm_at hF e_u1
  refine wr_i (runVN (As := []) (rest := []) X cq_X7_empty lk_X8_242 (c_X7_empty l D cI cJ cZ a ws0 A tr_waited tr_size u1 e_u1.symm h33 hD) rfl rfl ⟨Nat.le_of_ble_eq_true rfl, Nat.le_of_ble_eq_true rfl⟩ hP h33 rfl rfl hl.1 rfl (Nat.le_of_ble_eq_true rfl) dX8_untrial_4 ⟨Nat.le_of_ble_eq_true rfl, Nat.le_of_ble_eq_true rfl⟩) hS (fun w2 H locs hP hD hk hB hS => ?_)
  have h33 : w2[33]? = some (a 33, .inr (7, [.ref (a 34), .int u1.2.2, .int u1.2.1])) := hB
  have h0 := (hk 0 (by simp only [List.mem_cons, List.not_mem_nil, or_false, not_or]; omega)).trans h0
  replace hs := st_tr hk (fun j hj => by simp only [List.mem_cons, List.not_mem_nil, or_false] at hj ⊢; omega) hs
  subst hF
  rw [hQ]
  exact rw_i X hS hP hD hs h33 dX8_untrial_7
