def FX4_set (p_cells : Nat → Int64) (p1 : Int32) (p2 : Int32) (p3 : Int64) : Option ((Nat → Int64)) :=
  if p1 < 0 then (some p_cells) else (if p2 < 0 then (some p_cells) else (if (13 : Int32) ≤ p1 then (some p_cells) else (if (13 : Int32) ≤ p2 then (some p_cells) else (if ((p1 * (13 : Int32)) + p2) < 0 ∨ 169 ≤ ((p1 * (13 : Int32)) + p2).toNatClampNeg then none else some (vp_updL p_cells ((p1 * (13 : Int32)) + p2).toNatClampNeg p3)))))
def gset (c : Nat → Int64) (a b : Int32) (v : Int64) : Nat → Int64 := if a < 0 then c else if b < 0 then c else if (13 : Int32) ≤ a then c else if (13 : Int32) ≤ b then c else vp_updL c (a * (13 : Int32) + b).toNatClampNeg v
theorem FX4_set_eq (c : Nat → Int64) (a b : Int32) (v : Int64) : FX4_set c a b v = some (gset c a b v) := by
  unfold FX4_set gset
  by_cases h1 : a < 0
  · rw [if_pos h1, if_pos h1]
  · by_cases h2 : b < 0
    · rw [if_neg h1, if_neg h1, if_pos h2, if_pos h2]
    · by_cases h3 : (13 : Int32) ≤ a
      · rw [if_neg h1, if_neg h1, if_neg h2, if_neg h2, if_pos h3, if_pos h3]
      · by_cases h4 : (13 : Int32) ≤ b
        · rw [if_neg h1, if_neg h1, if_neg h2, if_neg h2, if_neg h3, if_neg h3, if_pos h4, if_pos h4]
        · obtain ⟨i, j, hi, hj, -, -, e⟩ := g13 h1 h2 h3 (Int32.not_le.mp h4)
          rw [if_neg h1, if_neg h1, if_neg h2, if_neg h2, if_neg h3, if_neg h3, if_neg h4, if_neg h4, e, if_neg (vp_in_nI (by omega) (by decide))]
def rm_X4_set : Room := { frames := 0, cells := 0, slots := 0, locals := 0 }
set_option maxHeartbeats 4000000 in
set_option maxRecDepth 100000 in
theorem c_X4_set (l : Launch) (D : va_G) (cI cJ cZ : ClassId) (a : Nat → Nat) (ws0 : va_W) (A : Nat → Prop) (k : Nat) (p_cells : Nat → Int64) (p1 : Int32) (p2 : Int32) (p3 : Int64) (u : (Nat → Int64)) (hF : FX4_set p_cells p1 p2 p3 = some u) (z_k0 : ws0[k]? = some (a k, .inr (4, [.ref (a (k + 1))]))) (z_k1 : ws0[(k + 1)]? = some (a (k + 1), .inl (cJ, 169, .inr (.inl p_cells)))) (hD : va_D A ws0) : Met l yX4_set (wq yX4_set cX4_set 5 none) rm_X4_set (Pq [.ref (a k), .int p1, .int p2, .long p3] D cI cJ cZ ws0) (Qw D A ws0 [(k + 1)] none (fun w => w[(k + 1)]? = some (a (k + 1), .inl (cJ, 169, .inr (.inl u))))) 0 0 A := by
  refine mq_of (by decide) (Nat.le_of_ble_eq_true rfl) (fun p e s m args below meth c ls Q hQ X _ hP hl => ?_)
  obtain ⟨hx, hb, hr, hml, hown, hts, hlk, hK, hN⟩ := id X
  have hown : s.vm.findClass RX4 = some m.cls := hown
  have hl : lv_has ls 5 [(0, .ref (a k)), (1, .int p1), (2, .int p2), (3, .long p3)] := hl
  have hS : va_S A s.heap s.heap [] := va_S.rf
  have hs : ∀ j : Nat, j ∉ [(k + 1)] → ws0[j]? = ws0[j]? := fun _ _ => rfl
  have h_k0 := z_k0
  have h_k1 := z_k1
  unfold FX4_set at hF
  refine lv_iload_n hx hb dX4_set_0 rfl (lv_at hl 1 rfl) ?_
  refine lv_if_lt (tgt := 32) hx hb dX4_set_1 (by decide) (fun c1 => ?_) (fun c1 => ?_)
  · replace hF := (if_pos c1).symm.trans hF
    obtain rfl := Option.some.inj hF
    rw [hQ]
    exact rw_v X hS hP hD hs h_k1 dX4_set_32
  · replace hF := (if_neg c1).symm.trans hF
    refine lv_iload_n hx hb dX4_set_4 rfl (lv_at hl 2 rfl) ?_
    refine lv_if_lt (tgt := 32) hx hb dX4_set_5 (by decide) (fun c2 => ?_) (fun c2 => ?_)
    · replace hF := (if_pos c2).symm.trans hF
      obtain rfl := Option.some.inj hF
      rw [hQ]
      exact rw_v X hS hP hD hs h_k1 dX4_set_32
    · replace hF := (if_neg c2).symm.trans hF
      refine lv_iload_n hx hb dX4_set_8 rfl (lv_at hl 1 rfl) ?_
      refine lv_bipush (v := (13 : Int32)) hx hb dX4_set_9 (by decide) ?_
      refine lv_icmp_ge (tgt := 32) hx hb dX4_set_11 (by decide) (fun c3 => ?_) (fun c3 => ?_)
      · replace hF := (if_pos c3).symm.trans hF
        obtain rfl := Option.some.inj hF
        rw [hQ]
        exact rw_v X hS hP hD hs h_k1 dX4_set_32
      · replace hF := (if_neg c3).symm.trans hF
        refine lv_iload_n hx hb dX4_set_14 rfl (lv_at hl 2 rfl) ?_
        refine lv_bipush (v := (13 : Int32)) hx hb dX4_set_15 (by decide) ?_
        refine lv_icmp_ge (tgt := 32) hx hb dX4_set_17 (by decide) (fun c4 => ?_) (fun c4 => ?_)
        · replace hF := (if_pos c4).symm.trans hF
          obtain rfl := Option.some.inj hF
          rw [hQ]
          exact rw_v X hS hP hD hs h_k1 dX4_set_32
        · replace hF := (if_neg c4).symm.trans hF
          refine lv_aload_n hx hb dX4_set_20 rfl (lv_at hl 0 rfl) ?_
          refine gf_X4_11 hx hb hts hown hK hP h_k0 dX4_set_21 ?_
          refine lv_iload_n hx hb dX4_set_24 rfl (lv_at hl 1 rfl) ?_
          refine lv_bipush (v := (13 : Int32)) hx hb dX4_set_25 (by decide) ?_
          refine lv_imul hx hb dX4_set_27 ?_
          refine lv_iload_n hx hb dX4_set_28 rfl (lv_at hl 2 rfl) ?_
          refine lv_iadd hx hb dX4_set_29 ?_
          refine lv_lload_n hx hb dX4_set_30 rfl (lv_at hl 3 rfl) ?_
          obtain ⟨hg5, hF⟩ := gd_some hF
          refine ast_l hx hb hK hP hD hS h_k1 hg5 dX4_set_31 (fun w6 H locs hP hD hk hc hS => ?_)
          have h_k1 : w6[(k + 1)]? = some (a (k + 1), .inl (cJ, 169, .inr (.inl (vp_updL p_cells ((p1 * (13 : Int32)) + p2).toNatClampNeg p3)))) := hc
          have h_k0 := (hk k (by omega)).trans h_k0
          replace hs := sm_k hk (by simp) hs
          obtain rfl := Option.some.inj hF
          rw [hQ]
          exact rw_v X hS hP hD hs h_k1 dX4_set_32
theorem t_X4_set (l : Launch) (D : va_G) (cI cJ cZ : ClassId) (a : Nat → Nat) (ws0 : va_W) (A : Nat → Prop) (k : Nat) (p_cells : Nat → Int64) (p1 : Int32) (p2 : Int32) (p3 : Int64) (u : (Nat → Int64)) (hF : gset p_cells p1 p2 p3 = u) (z_k0 : ws0[k]? = some (a k, .inr (4, [.ref (a (k + 1))]))) (z_k1 : ws0[(k + 1)]? = some (a (k + 1), .inl (cJ, 169, .inr (.inl p_cells)))) (hD : va_D A ws0)  : Met l yX4_set (wq yX4_set cX4_set 5 none) rm_X4_set (Pq [.ref (a k), .int p1, .int p2, .long p3] D cI cJ cZ ws0) (Qw D A ws0 [(k + 1)] none (fun w => w[(k + 1)]? = some (a (k + 1), .inl (cJ, 169, .inr (.inl u))))) 0 0 A :=
  c_X4_set l D cI cJ cZ a ws0 A k p_cells p1 p2 p3 u ((FX4_set_eq p_cells p1 p2 p3).trans (congrArg some hF)) z_k0 z_k1 hD
def FX4_begin (p_cells : Nat → Int64) : (Nat → Int64) :=
  nmb (gfillL p_cells 169 (0 : Int64)) fun u1 => nmb (gset u1 (0 : Int32) (0 : Int32) (1 : Int64)) fun u3 => u3
def rm_X4_begin : Room := { frames := 1, cells := 0, slots := 0, locals := 24 }
set_option maxHeartbeats 4000000 in
set_option maxRecDepth 100000 in
theorem c_X4_begin (l : Launch) (D : va_G) (cI cJ cZ : ClassId) (a : Nat → Nat) (ws0 : va_W) (A : Nat → Prop) (k : Nat) (p_cells : Nat → Int64)  (u : (Nat → Int64)) (hF : FX4_begin p_cells = u) (z_k0 : ws0[k]? = some (a k, .inr (4, [.ref (a (k + 1))]))) (z_k1 : ws0[(k + 1)]? = some (a (k + 1), .inl (cJ, 169, .inr (.inl p_cells)))) (hD : va_D A ws0) : Met l yX4_begin (wq yX4_begin cX4_begin 1 none) rm_X4_begin (Pq [.ref (a k)] D cI cJ cZ ws0) (Qw D A ws0 [(k + 1)] none (fun w => w[(k + 1)]? = some (a (k + 1), .inl (cJ, 169, .inr (.inl u))))) 0 0 A := by
  refine mq_of (by decide) (Nat.le_of_ble_eq_true rfl) (fun p e s m args below meth c ls Q hQ X _ hP hl => ?_)
  obtain ⟨hx, hb, hr, hml, hown, hts, hlk, hK, hN⟩ := id X
  have hown : s.vm.findClass RX4 = some m.cls := hown
  have hl : lv_has ls 1 [(0, .ref (a k))] := hl
  have hS : va_S A s.heap s.heap [] := va_S.rf
  have hs : ∀ j : Nat, j ∉ [(k + 1)] → ws0[j]? = ws0[j]? := fun _ _ => rfl
  have h_k0 := z_k0
  have h_k1 := z_k1
  unfold FX4_begin at hF
  refine lv_aload_n hx hb dX4_begin_0 rfl (lv_at hl 0 rfl) ?_
  refine gf_X4_11 hx hb hts hown hK hP h_k0 dX4_begin_1 ?_
  refine lv_lconst (v := (0 : Int64)) hx hb dX4_begin_4 (by decide) ?_
  obtain ⟨u1, e_u1⟩ : ∃ q, q = gfillL p_cells 169 (0 : Int64) := ⟨_, rfl⟩
  replace hF := nm_at hF e_u1
  refine wr_v (runS (As := [.ref (a (k + 1)), .long (0 : Int64)]) (rest := []) X cq_J7_fill_d0a16 lk_X4_15 (t_J7_fill_d0a16 l D cI cJ cZ a ws0 A (k + 1) p_cells 169 (0 : Int64) u1 e_u1.symm h_k1 hD (by decide)) rfl rfl ⟨Nat.le_of_ble_eq_true rfl, Nat.le_of_ble_eq_true rfl⟩ hP rfl hl.1 rfl (Nat.le_of_ble_eq_true rfl) dX4_begin_5 ⟨Nat.le_of_ble_eq_true rfl, Nat.le_of_ble_eq_true rfl⟩) hS (fun w2 H locs hP hD hk hB hS => ?_)
  have h_k1 : w2[(k + 1)]? = some (a (k + 1), .inl (cJ, 169, .inr (.inl u1))) := hB
  have h_k0 := (hk k (by simp only [List.mem_cons, List.not_mem_nil, or_false, not_or]; omega)).trans h_k0
  replace hs := st_tr hk (fun j hj => by simp only [List.mem_cons, List.not_mem_nil, or_false] at hj ⊢; omega) hs
  refine lv_aload_n hx hb dX4_begin_8 rfl (lv_at hl 0 rfl) ?_
  refine lv_iconst (v := (0 : Int32)) hx hb dX4_begin_9 (by decide) ?_
  refine lv_iconst (v := (0 : Int32)) hx hb dX4_begin_10 (by decide) ?_
  refine lv_lconst (v := (1 : Int64)) hx hb dX4_begin_11 (by decide) ?_
  obtain ⟨u3, e_u3⟩ : ∃ q, q = gset u1 (0 : Int32) (0 : Int32) (1 : Int64) := ⟨_, rfl⟩
  replace hF := nm_at hF e_u3
  refine wr_v (runV (As := [.int (0 : Int32), .int (0 : Int32), .long (1 : Int64)]) (rest := []) X cq_X4_set lk_X4_21 (t_X4_set l D cI cJ cZ a w2 A k u1 (0 : Int32) (0 : Int32) (1 : Int64) u3 e_u3.symm h_k0 h_k1 hD) rfl rfl ⟨Nat.le_of_ble_eq_true rfl, Nat.le_of_ble_eq_true rfl⟩ hP h_k0 rfl rfl hl.1 rfl (Nat.le_of_ble_eq_true rfl) dX4_begin_12 ⟨Nat.le_of_ble_eq_true rfl, Nat.le_of_ble_eq_true rfl⟩) hS (fun w4 H locs hP hD hk hB hS => ?_)
  have h_k1 : w4[(k + 1)]? = some (a (k + 1), .inl (cJ, 169, .inr (.inl u3))) := hB
  have h_k0 := (hk k (by simp only [List.mem_cons, List.not_mem_nil, or_false, not_or]; omega)).trans h_k0
  replace hs := st_tr hk (fun j hj => by simp only [List.mem_cons, List.not_mem_nil, or_false] at hj ⊢; omega) hs
  subst hF
  rw [hQ]
  exact rw_v X hS hP hD hs h_k1 dX4_begin_15
def FX4_get (p_cells : Nat → Int64) (p1 : Int32) (p2 : Int32) : Option (Int64) :=
  if p1 < 0 then (some (0 : Int64)) else (if p2 < 0 then (some (0 : Int64)) else (if (13 : Int32) ≤ p1 then (some (0 : Int64)) else (if p2 < (13 : Int32) then (if ((p1 * (13 : Int32)) + p2) < 0 ∨ 169 ≤ ((p1 * (13 : Int32)) + p2).toNatClampNeg then none else some (p_cells ((p1 * (13 : Int32)) + p2).toNatClampNeg)) else (some (0 : Int64)))))
def gget (c : Nat → Int64) (a b : Int32) : Int64 := if a < 0 then 0 else if b < 0 then 0 else if (13 : Int32) ≤ a then 0 else if b < (13 : Int32) then c (a * (13 : Int32) + b).toNatClampNeg else 0
theorem FX4_get_eq (c : Nat → Int64) (a b : Int32) : FX4_get c a b = some (gget c a b) := by
  unfold FX4_get gget
  by_cases h1 : a < 0
  · rw [if_pos h1, if_pos h1]
  · by_cases h2 : b < 0
    · rw [if_neg h1, if_neg h1, if_pos h2, if_pos h2]
    · by_cases h3 : (13 : Int32) ≤ a
      · rw [if_neg h1, if_neg h1, if_neg h2, if_neg h2, if_pos h3, if_pos h3]
      · by_cases h4 : b < (13 : Int32)
        · obtain ⟨i, j, hi, hj, -, -, e⟩ := g13 h1 h2 h3 h4
          rw [if_neg h1, if_neg h1, if_neg h2, if_neg h2, if_neg h3, if_neg h3, if_pos h4, if_pos h4, e, if_neg (vp_in_nI (by omega) (by decide))]
        · rw [if_neg h1, if_neg h1, if_neg h2, if_neg h2, if_neg h3, if_neg h3, if_neg h4, if_neg h4]
def rm_X4_get : Room := { frames := 0, cells := 0, slots := 0, locals := 0 }
set_option maxHeartbeats 4000000 in
set_option maxRecDepth 100000 in
theorem c_X4_get (l : Launch) (D : va_G) (cI cJ cZ : ClassId) (a : Nat → Nat) (ws0 : va_W) (k : Nat) (p_cells : Nat → Int64) (p1 : Int32) (p2 : Int32) (u : Int64) (hF : FX4_get p_cells p1 p2 = some u) (h_k0 : ws0[k]? = some (a k, .inr (4, [.ref (a (k + 1))]))) (h_k1 : ws0[(k + 1)]? = some (a (k + 1), .inl (cJ, 169, .inr (.inl p_cells)))) : Met l yX4_get (wq yX4_get cX4_get 3 (some .long)) rm_X4_get (Pq [.ref (a k), .int p1, .int p2] D cI cJ cZ ws0) (Qq (some (.long u))) 0 0 (fun _ => False) := by
  refine mq_of (by decide) (Nat.le_of_ble_eq_true rfl) (fun p e s m args below meth c ls Q hQ X _ hP hl => ?_)
  obtain ⟨hx, hb, hr, hml, hown, hts, hlk, hK, hN⟩ := id X
  have hown : s.vm.findClass RX4 = some m.cls := hown
  have hl : lv_has ls 3 [(0, .ref (a k)), (1, .int p1), (2, .int p2)] := hl
  unfold FX4_get at hF
  refine lv_iload_n hx hb dX4_get_0 rfl (lv_at hl 1 rfl) ?_
  refine lv_if_lt (tgt := 20) hx hb dX4_get_1 (by decide) (fun c1 => ?_) (fun c1 => ?_)
  · replace hF := (if_pos c1).symm.trans hF
    refine lv_lconst (v := (0 : Int64)) hx hb dX4_get_20 (by decide) ?_
    refine lv_goto (tgt := 35) hx hb dX4_get_21 (by decide) ?_
    obtain rfl := Option.some.inj hF
    rw [hQ]
    exact rt_l X dX4_get_35
  · replace hF := (if_neg c1).symm.trans hF
    refine lv_iload_n hx hb dX4_get_4 rfl (lv_at hl 2 rfl) ?_
    refine lv_if_lt (tgt := 20) hx hb dX4_get_5 (by decide) (fun c2 => ?_) (fun c2 => ?_)
    · replace hF := (if_pos c2).symm.trans hF
      refine lv_lconst (v := (0 : Int64)) hx hb dX4_get_20 (by decide) ?_
      refine lv_goto (tgt := 35) hx hb dX4_get_21 (by decide) ?_
      obtain rfl := Option.some.inj hF
      rw [hQ]
      exact rt_l X dX4_get_35
    · replace hF := (if_neg c2).symm.trans hF
      refine lv_iload_n hx hb dX4_get_8 rfl (lv_at hl 1 rfl) ?_
      refine lv_bipush (v := (13 : Int32)) hx hb dX4_get_9 (by decide) ?_
      refine lv_icmp_ge (tgt := 20) hx hb dX4_get_11 (by decide) (fun c3 => ?_) (fun c3 => ?_)
      · replace hF := (if_pos c3).symm.trans hF
        refine lv_lconst (v := (0 : Int64)) hx hb dX4_get_20 (by decide) ?_
        refine lv_goto (tgt := 35) hx hb dX4_get_21 (by decide) ?_
        obtain rfl := Option.some.inj hF
        rw [hQ]
        exact rt_l X dX4_get_35
      · replace hF := (if_neg c3).symm.trans hF
        refine lv_iload_n hx hb dX4_get_14 rfl (lv_at hl 2 rfl) ?_
        refine lv_bipush (v := (13 : Int32)) hx hb dX4_get_15 (by decide) ?_
        refine lv_icmp_lt (tgt := 24) hx hb dX4_get_17 (by decide) (fun c4 => ?_) (fun c4 => ?_)
        · replace hF := (if_pos c4).symm.trans hF
          refine lv_aload_n hx hb dX4_get_24 rfl (lv_at hl 0 rfl) ?_
          refine gf_X4_11 hx hb hts hown hK hP h_k0 dX4_get_25 ?_
          refine lv_iload_n hx hb dX4_get_28 rfl (lv_at hl 1 rfl) ?_
          refine lv_bipush (v := (13 : Int32)) hx hb dX4_get_29 (by decide) ?_
          refine lv_imul hx hb dX4_get_31 ?_
          refine lv_iload_n hx hb dX4_get_32 rfl (lv_at hl 2 rfl) ?_
          refine lv_iadd hx hb dX4_get_33 ?_
          obtain ⟨hg5, hF⟩ := gd_some hF
          refine va_lald hx hb hK hP (k + 1) 1 h_k1 rfl hg5 dX4_get_34 ?_
          obtain rfl := Option.some.inj hF
          rw [hQ]
          exact rt_l X dX4_get_35
        · replace hF := (if_neg c4).symm.trans hF
          refine lv_lconst (v := (0 : Int64)) hx hb dX4_get_20 (by decide) ?_
          refine lv_goto (tgt := 35) hx hb dX4_get_21 (by decide) ?_
          obtain rfl := Option.some.inj hF
          rw [hQ]
          exact rt_l X dX4_get_35
theorem t_X4_get (l : Launch) (D : va_G) (cI cJ cZ : ClassId) (a : Nat → Nat) (ws0 : va_W) (k : Nat) (p_cells : Nat → Int64) (p1 : Int32) (p2 : Int32) (u : Int64) (hF : gget p_cells p1 p2 = u) (h_k0 : ws0[k]? = some (a k, .inr (4, [.ref (a (k + 1))]))) (h_k1 : ws0[(k + 1)]? = some (a (k + 1), .inl (cJ, 169, .inr (.inl p_cells))))  : Met l yX4_get (wq yX4_get cX4_get 3 (some .long)) rm_X4_get (Pq [.ref (a k), .int p1, .int p2] D cI cJ cZ ws0) (Qq (some (.long u))) 0 0 (fun _ => False) :=
  c_X4_get l D cI cJ cZ a ws0 k p_cells p1 p2 u ((FX4_get_eq p_cells p1 p2).trans (congrArg some hF)) h_k0 h_k1
def FX4_join_S13 (p1 : Int64) (p2 : Int64) (p3 : Int64) (p4 : Int64) (x1 : Int32) (x4 : Int32) (x5 : Nat → Int64) : Option ((Int32 × (Nat → Int64)) ⊕ ((Nat → Int64))) :=
  if x4 < 0 then (some (.inr x5)) else (nmb (gset x5 x1 x4 (((((gget x5 x1 x4) * p4) + ((gget x5 (x1 - (1 : Int32)) x4) * p2)) + ((gget x5 x1 (x4 - (1 : Int32))) * p3)) + ((gget x5 (x1 - (1 : Int32)) (x4 - (1 : Int32))) * p1))) fun u7 => some (.inl (x4 + (-1 : Int32), u7)))
def FX4_join_S4 (p1 : Int64) (p2 : Int64) (p3 : Int64) (p4 : Int64) (x1 : Int32) (x2 : Nat → Int64) : Option ((Int32 × (Nat → Int64)) ⊕ ((Nat → Int64))) :=
  if x1 < 0 then (some (.inr x2)) else ((itr (fun v => FX4_join_S13 p1 p2 p3 p4 x1 v.1 v.2) fu ((12 : Int32), x2)).bind fun o9 => some (.inl (x1 + (-1 : Int32), o9)))
def FX4_join (p_cells : Nat → Int64) (p1 : Int64) (p2 : Int64) (p3 : Int64) (p4 : Int64) : Option ((Nat → Int64)) :=
  (itr (fun v => FX4_join_S4 p1 p2 p3 p4 v.1 v.2) fu ((12 : Int32), p_cells)).bind fun o10 => some o10
def rm_X4_join : Room := { frames := 1, cells := 0, slots := 0, locals := 24 }
set_option maxHeartbeats 4000000 in
set_option maxRecDepth 100000 in
theorem c_X4_join (l : Launch) (D : va_G) (cI cJ cZ : ClassId) (a : Nat → Nat) (ws0 : va_W) (A : Nat → Prop) (k : Nat) (p_cells : Nat → Int64) (p1 : Int64) (p2 : Int64) (p3 : Int64) (p4 : Int64) (u : (Nat → Int64)) (hF : FX4_join p_cells p1 p2 p3 p4 = some u) (z_k0 : ws0[k]? = some (a k, .inr (4, [.ref (a (k + 1))]))) (z_k1 : ws0[(k + 1)]? = some (a (k + 1), .inl (cJ, 169, .inr (.inl p_cells)))) (hD : va_D A ws0) : Met l yX4_join (wq yX4_join cX4_join 11 none) rm_X4_join (Pq [.ref (a k), .long p1, .long p2, .long p3, .long p4] D cI cJ cZ ws0) (Qw D A ws0 [(k + 1)] none (fun w => w[(k + 1)]? = some (a (k + 1), .inl (cJ, 169, .inr (.inl u))))) 0 0 A := by
  refine mq_of (by decide) (Nat.le_of_ble_eq_true rfl) (fun p e s m args below meth c ls Q hQ X _ hP hl => ?_)
  obtain ⟨hx, hb, hr, hml, hown, hts, hlk, hK, hN⟩ := id X
  have hown : s.vm.findClass RX4 = some m.cls := hown
  have hl : lv_has ls 11 [(0, .ref (a k)), (1, .long p1), (3, .long p2), (5, .long p3), (7, .long p4)] := hl
  have hS : va_S A s.heap s.heap [] := va_S.rf
  have hs : ∀ j : Nat, j ∉ [(k + 1)] → ws0[j]? = ws0[j]? := fun _ _ => rfl
  have h_k0 := z_k0
  have h_k1 := z_k1
  unfold FX4_join at hF
  refine lv_bipush (v := (12 : Int32)) hx hb dX4_join_0 (by decide) ?_
  refine lv_istore (lv' := [(9, .int (12 : Int32)), (0, .ref (a k)), (1, .long p1), (3, .long p2), (5, .long p3), (7, .long p4)]) hx hb dX4_join_2 hl (by decide) rfl (fun ls hl => ?_)
  have hL4 : ∀ (nf : Nat) (x1 : Int32) (x2 : Nat → Int64) (r : (Nat → Int64)), itr (fun v => FX4_join_S4 p1 p2 p3 p4 v.1 v.2) nf (x1, x2) = some r → ∀ (wJ : va_W) (HJ : Heap) (lJ : List Loc), va_P D vwCl wJ HJ → va_D A wJ → va_S A s.heap HJ lJ → (∀ j : Nat, j ∉ [(k + 1)] → wJ[j]? = ws0[j]?) → wJ[(k + 1)]? = some (a (k + 1), .inl (cJ, 169, .inr (.inl x2))) → ∀ ls, lv_has ls 11 [(9, .int x1), (0, .ref (a k)), (1, .long p1), (3, .long p2), (5, .long p3), (7, .long p4)] → (∀ o : (Nat → Int64), r = o → ∀ (wK : va_W) (HK : Heap) (lK : List Loc), va_P D vwCl wK HK → va_D A wK → va_S A s.heap HK lK → (∀ j : Nat, j ∉ [(k + 1)] → wK[j]? = ws0[j]?) → wK[(k + 1)]? = some (a (k + 1), .inl (cJ, 169, .inr (.inl o))) → ∀ ls, lv_has ls 11 [] → W p l e rm_X4_join s m args below meth c HK lK 0 0 Q (F0 m 91 ls [])) → W p l e rm_X4_join s m args below meth c HJ lJ 0 0 Q (F0 m 4 ls []) := by
    intro nf
    induction nf with
    | zero => intro _ _ r hF; exact (itr_0 hF).elim
    | succ nf ih =>
      intro x1 x2 r hF w H locs hP hD hS hs h_k1 ls hl hE
      obtain ⟨wo, hF, hw⟩ := itr_s hF
      replace hF : FX4_join_S4 p1 p2 p3 p4 x1 x2 = some wo := hF
      have h_k0 := (hs k (by simp only [List.mem_cons, List.not_mem_nil, or_false, not_or]; omega)).trans z_k0
      unfold FX4_join_S4 at hF
      refine lv_iload hx hb dX4_join_4 (lv_at hl 0 rfl) ?_
      refine lv_if_lt (tgt := 91) hx hb dX4_join_6 (by decide) (fun c3 => ?_) (fun c3 => ?_)
      · replace hF := (if_pos c3).symm.trans hF
        obtain rfl := Option.some.inj hF
        obtain rfl := hw
        exact hE _ rfl _ _ _ hP hD hS hs h_k1 ls (lv_sub hl [] rfl)
      · replace hF := (if_neg c3).symm.trans hF
        refine lv_bipush (v := (12 : Int32)) hx hb dX4_join_9 (by decide) ?_
        refine lv_istore (lv' := [(10, .int (12 : Int32)), (9, .int x1), (0, .ref (a k)), (1, .long p1), (3, .long p2), (5, .long p3), (7, .long p4)]) hx hb dX4_join_11 hl (by decide) rfl (fun ls hl => ?_)
        have hL13 : ∀ (nf : Nat) (x4 : Int32) (x5 : Nat → Int64) (r : (Nat → Int64)), itr (fun v => FX4_join_S13 p1 p2 p3 p4 x1 v.1 v.2) nf (x4, x5) = some r → ∀ (wJ : va_W) (HJ : Heap) (lJ : List Loc), va_P D vwCl wJ HJ → va_D A wJ → va_S A s.heap HJ lJ → (∀ j : Nat, j ∉ [(k + 1)] → wJ[j]? = ws0[j]?) → wJ[(k + 1)]? = some (a (k + 1), .inl (cJ, 169, .inr (.inl x5))) → ∀ ls, lv_has ls 11 [(10, .int x4), (9, .int x1), (0, .ref (a k)), (1, .long p1), (3, .long p2), (5, .long p3), (7, .long p4)] → (∀ o : (Nat → Int64), r = o → ∀ (wK : va_W) (HK : Heap) (lK : List Loc), va_P D vwCl wK HK → va_D A wK → va_S A s.heap HK lK → (∀ j : Nat, j ∉ [(k + 1)] → wK[j]? = ws0[j]?) → wK[(k + 1)]? = some (a (k + 1), .inl (cJ, 169, .inr (.inl o))) → ∀ ls, lv_has ls 11 [(9, .int x1), (0, .ref (a k)), (1, .long p1), (3, .long p2), (5, .long p3), (7, .long p4)] → W p l e rm_X4_join s m args below meth c HK lK 0 0 Q (F0 m 85 ls [])) → W p l e rm_X4_join s m args below meth c HJ lJ 0 0 Q (F0 m 13 ls []) := by
          intro nf
          induction nf with
          | zero => intro _ _ r hF; exact (itr_0 hF).elim
          | succ nf ih =>
            intro x4 x5 r hF w H locs hP hD hS hs h_k1 ls hl hE
            obtain ⟨wo, hF, hw⟩ := itr_s hF
            replace hF : FX4_join_S13 p1 p2 p3 p4 x1 x4 x5 = some wo := hF
            have h_k0 := (hs k (by simp only [List.mem_cons, List.not_mem_nil, or_false, not_or]; omega)).trans z_k0
            unfold FX4_join_S13 at hF
            refine lv_iload hx hb dX4_join_13 (lv_at hl 0 rfl) ?_
            refine lv_if_lt (tgt := 85) hx hb dX4_join_15 (by decide) (fun c6 => ?_) (fun c6 => ?_)
            · replace hF := (if_pos c6).symm.trans hF
              obtain rfl := Option.some.inj hF
              obtain rfl := hw
              exact hE _ rfl _ _ _ hP hD hS hs h_k1 ls (lv_sub hl [1, 2, 3, 4, 5, 6] rfl)
            · replace hF := (if_neg c6).symm.trans hF
              refine lv_aload_n hx hb dX4_join_18 rfl (lv_at hl 2 rfl) ?_
              refine lv_iload hx hb dX4_join_19 (lv_at hl 1 rfl) ?_
              refine lv_iload hx hb dX4_join_21 (lv_at hl 0 rfl) ?_
              refine lv_aload_n hx hb dX4_join_23 rfl (lv_at hl 2 rfl) ?_
              refine lv_iload hx hb dX4_join_24 (lv_at hl 1 rfl) ?_
              refine lv_iload hx hb dX4_join_26 (lv_at hl 0 rfl) ?_
              refine rd_l (runV (As := [.int x1, .int x4]) (rest := [.int x4, .int x1, .ref (a k)]) X cq_X4_get lk_X4_25 (t_X4_get l D cI cJ cZ a w k x5 x1 x4 _ rfl h_k0 h_k1) rfl rfl ⟨Nat.le_of_ble_eq_true rfl, Nat.le_of_ble_eq_true rfl⟩ hP h_k0 rfl rfl hl.1 rfl (Nat.le_of_ble_eq_true rfl) dX4_join_28 ⟨Nat.le_of_ble_eq_true rfl, Nat.le_of_ble_eq_true rfl⟩) ?_
              refine lv_lload hx hb dX4_join_31 (lv_at hl 6 rfl) ?_
              refine lv_lmul hx hb dX4_join_33 ?_
              refine lv_aload_n hx hb dX4_join_34 rfl (lv_at hl 2 rfl) ?_
              refine lv_iload hx hb dX4_join_35 (lv_at hl 1 rfl) ?_
              refine lv_iconst (v := (1 : Int32)) hx hb dX4_join_37 (by decide) ?_
              refine lv_isub hx hb dX4_join_38 ?_
              refine lv_iload hx hb dX4_join_39 (lv_at hl 0 rfl) ?_
              refine rd_l (runV (As := [.int (x1 - (1 : Int32)), .int x4]) (rest := [.long ((gget x5 x1 x4) * p4), .int x4, .int x1, .ref (a k)]) X cq_X4_get lk_X4_25 (t_X4_get l D cI cJ cZ a w k x5 (x1 - (1 : Int32)) x4 _ rfl h_k0 h_k1) rfl rfl ⟨Nat.le_of_ble_eq_true rfl, Nat.le_of_ble_eq_true rfl⟩ hP h_k0 rfl rfl hl.1 rfl (Nat.le_of_ble_eq_true rfl) dX4_join_41 ⟨Nat.le_of_ble_eq_true rfl, Nat.le_of_ble_eq_true rfl⟩) ?_
              refine lv_lload_n hx hb dX4_join_44 rfl (lv_at hl 4 rfl) ?_
              refine lv_lmul hx hb dX4_join_45 ?_
              refine lv_ladd hx hb dX4_join_46 ?_
              refine lv_aload_n hx hb dX4_join_47 rfl (lv_at hl 2 rfl) ?_
              refine lv_iload hx hb dX4_join_48 (lv_at hl 1 rfl) ?_
              refine lv_iload hx hb dX4_join_50 (lv_at hl 0 rfl) ?_
              refine lv_iconst (v := (1 : Int32)) hx hb dX4_join_52 (by decide) ?_
              refine lv_isub hx hb dX4_join_53 ?_
              refine rd_l (runV (As := [.int x1, .int (x4 - (1 : Int32))]) (rest := [.long (((gget x5 x1 x4) * p4) + ((gget x5 (x1 - (1 : Int32)) x4) * p2)), .int x4, .int x1, .ref (a k)]) X cq_X4_get lk_X4_25 (t_X4_get l D cI cJ cZ a w k x5 x1 (x4 - (1 : Int32)) _ rfl h_k0 h_k1) rfl rfl ⟨Nat.le_of_ble_eq_true rfl, Nat.le_of_ble_eq_true rfl⟩ hP h_k0 rfl rfl hl.1 rfl (Nat.le_of_ble_eq_true rfl) dX4_join_54 ⟨Nat.le_of_ble_eq_true rfl, Nat.le_of_ble_eq_true rfl⟩) ?_
              refine lv_lload hx hb dX4_join_57 (lv_at hl 5 rfl) ?_
              refine lv_lmul hx hb dX4_join_59 ?_
              refine lv_ladd hx hb dX4_join_60 ?_
              refine lv_aload_n hx hb dX4_join_61 rfl (lv_at hl 2 rfl) ?_
              refine lv_iload hx hb dX4_join_62 (lv_at hl 1 rfl) ?_
              refine lv_iconst (v := (1 : Int32)) hx hb dX4_join_64 (by decide) ?_
              refine lv_isub hx hb dX4_join_65 ?_
              refine lv_iload hx hb dX4_join_66 (lv_at hl 0 rfl) ?_
              refine lv_iconst (v := (1 : Int32)) hx hb dX4_join_68 (by decide) ?_
              refine lv_isub hx hb dX4_join_69 ?_
              refine rd_l (runV (As := [.int (x1 - (1 : Int32)), .int (x4 - (1 : Int32))]) (rest := [.long ((((gget x5 x1 x4) * p4) + ((gget x5 (x1 - (1 : Int32)) x4) * p2)) + ((gget x5 x1 (x4 - (1 : Int32))) * p3)), .int x4, .int x1, .ref (a k)]) X cq_X4_get lk_X4_25 (t_X4_get l D cI cJ cZ a w k x5 (x1 - (1 : Int32)) (x4 - (1 : Int32)) _ rfl h_k0 h_k1) rfl rfl ⟨Nat.le_of_ble_eq_true rfl, Nat.le_of_ble_eq_true rfl⟩ hP h_k0 rfl rfl hl.1 rfl (Nat.le_of_ble_eq_true rfl) dX4_join_70 ⟨Nat.le_of_ble_eq_true rfl, Nat.le_of_ble_eq_true rfl⟩) ?_
              refine lv_lload_n hx hb dX4_join_73 rfl (lv_at hl 3 rfl) ?_
              refine lv_lmul hx hb dX4_join_74 ?_
              refine lv_ladd hx hb dX4_join_75 ?_
              obtain ⟨u7, e_u7⟩ : ∃ q, q = gset x5 x1 x4 (((((gget x5 x1 x4) * p4) + ((gget x5 (x1 - (1 : Int32)) x4) * p2)) + ((gget x5 x1 (x4 - (1 : Int32))) * p3)) + ((gget x5 (x1 - (1 : Int32)) (x4 - (1 : Int32))) * p1)) := ⟨_, rfl⟩
              replace hF := nm_at hF e_u7
              refine wr_v (runV (As := [.int x1, .int x4, .long (((((gget x5 x1 x4) * p4) + ((gget x5 (x1 - (1 : Int32)) x4) * p2)) + ((gget x5 x1 (x4 - (1 : Int32))) * p3)) + ((gget x5 (x1 - (1 : Int32)) (x4 - (1 : Int32))) * p1))]) (rest := []) X cq_X4_set lk_X4_21 (t_X4_set l D cI cJ cZ a w A k x5 x1 x4 (((((gget x5 x1 x4) * p4) + ((gget x5 (x1 - (1 : Int32)) x4) * p2)) + ((gget x5 x1 (x4 - (1 : Int32))) * p3)) + ((gget x5 (x1 - (1 : Int32)) (x4 - (1 : Int32))) * p1)) u7 e_u7.symm h_k0 h_k1 hD) rfl rfl ⟨Nat.le_of_ble_eq_true rfl, Nat.le_of_ble_eq_true rfl⟩ hP h_k0 rfl rfl hl.1 rfl (Nat.le_of_ble_eq_true rfl) dX4_join_76 ⟨Nat.le_of_ble_eq_true rfl, Nat.le_of_ble_eq_true rfl⟩) hS (fun w8 H locs hP hD hk hB hS => ?_)
              have h_k1 : w8[(k + 1)]? = some (a (k + 1), .inl (cJ, 169, .inr (.inl u7))) := hB
              have h_k0 := (hk k (by simp only [List.mem_cons, List.not_mem_nil, or_false, not_or]; omega)).trans h_k0
              replace hs := st_tr hk (fun j hj => by simp only [List.mem_cons, List.not_mem_nil, or_false] at hj ⊢; omega) hs
              refine lv_iinc (v := x4 + (-1 : Int32)) (lv' := [(10, .int (x4 + (-1 : Int32))), (9, .int x1), (0, .ref (a k)), (1, .long p1), (3, .long p2), (5, .long p3), (7, .long p4)]) hx hb dX4_join_79 hl (k := 0) rfl rfl (by decide) rfl (fun ls hl => ?_)
              refine lv_goto (tgt := 13) hx hb dX4_join_82 (by decide) ?_
              obtain rfl := Option.some.inj hF
              exact ih _ _ _ hw _ _ _ hP hD hS hs h_k1 ls (lv_sub hl [0, 1, 2, 3, 4, 5, 6] rfl) hE
        obtain ⟨o9, ho9, hF⟩ := bd_some hF
        refine hL13 fu (12 : Int32) x2 o9 ho9 _ _ _ hP hD hS hs h_k1 ls (lv_sub hl [0, 1, 2, 3, 4, 5, 6] rfl) ?_
        intro _ q_o9 w H locs hP hD hS hs h_k1 ls hl
        subst q_o9
        have h_k0 := (hs k (by simp only [List.mem_cons, List.not_mem_nil, or_false, not_or]; omega)).trans z_k0
        refine lv_iinc (v := x1 + (-1 : Int32)) (lv' := [(9, .int (x1 + (-1 : Int32))), (0, .ref (a k)), (1, .long p1), (3, .long p2), (5, .long p3), (7, .long p4)]) hx hb dX4_join_85 hl (k := 0) rfl rfl (by decide) rfl (fun ls hl => ?_)
        refine lv_goto (tgt := 4) hx hb dX4_join_88 (by decide) ?_
        obtain rfl := Option.some.inj hF
        exact ih _ _ _ hw _ _ _ hP hD hS hs h_k1 ls (lv_sub hl [0, 1, 2, 3, 4, 5] rfl) hE
  obtain ⟨o10, ho10, hF⟩ := bd_some hF
  refine hL4 fu (12 : Int32) p_cells o10 ho10 _ _ _ hP hD hS hs h_k1 ls (lv_sub hl [0, 1, 2, 3, 4, 5] rfl) ?_
  intro _ q_o10 w H locs hP hD hS hs h_k1 ls hl
  subst q_o10
  have h_k0 := (hs k (by simp only [List.mem_cons, List.not_mem_nil, or_false, not_or]; omega)).trans z_k0
  obtain rfl := Option.some.inj hF
  rw [hQ]
  exact rw_v X hS hP hD hs h_k1 dX4_join_91
def FX1_look_J103L9 (x30 : Int32) (x31 : Int64) (x32 : Int64) (x33 : Int64) (x34 : Int64) (x35 : Nat → Int64) : Option ((Int32 × (Nat → Int64)) ⊕ ((Nat → Int64))) :=
  (FX4_join x35 x31 x32 x33 x34).bind fun u36 => some (.inl (x30 + (1 : Int32), u36))
def FX1_look_J88L9 (x22 : Int32) (x23 : Int32) (x24 : Int32) (x25 : Int64) (x26 : Int64) (x27 : Int64) (x28 : Nat → Int64) : Option ((Int32 × (Nat → Int64)) ⊕ ((Nat → Int64))) :=
  if x22 = 0 then (FX1_look_J103L9 x24 x25 x26 x27 (((10 : Int32) - x23).toInt64) x28) else (FX1_look_J103L9 x24 x25 x26 x27 (0 : Int64) x28)
def FX1_look_J76L9 (x14 : Int32) (x15 : Int32) (x16 : Int32) (x17 : Int32) (x18 : Int64) (x19 : Int64) (x20 : Nat → Int64) : Option ((Int32 × (Nat → Int64)) ⊕ ((Nat → Int64))) :=
  if x15 = 0 then (FX1_look_J88L9 x14 x16 x17 x18 x19 x16.toInt64 x20) else (FX1_look_J88L9 x14 x16 x17 x18 x19 (0 : Int64) x20)
def FX1_look_J61L9 (x7 : Int32) (x8 : Int32) (x9 : Int32) (x10 : Int32) (x11 : Int64) (x12 : Nat → Int64) : Option ((Int32 × (Nat → Int64)) ⊕ ((Nat → Int64))) :=
  if x7 = 0 then (FX1_look_J76L9 x7 x8 x9 x10 x11 (0 : Int64) x12) else (FX1_look_J76L9 x7 x8 x9 x10 x11 (((10 : Int32) - x9).toInt64) x12)
def FX1_look_S9 (ro_pupils : Int32) (ro_mood : Int32) (ro_tenths : Nat → Int32) (ro_letters : Nat → Int32) (ro_needs : Nat → Int32) (le_dares : Nat → Int32) (p2 : Int32) (x3 : Int32) (x4 : Nat → Int64) : Option ((Int32 × (Nat → Int64)) ⊕ ((Nat → Int64))) :=
  if ro_pupils ≤ x3 then (some (.inr x4)) else (if (FX3_isUp ro_mood le_dares ro_letters ro_needs x3 (1 : Int32) p2) = true then (FX1_look_J61L9 (bi (FX3_isUp ro_mood le_dares ro_letters ro_needs x3 (0 : Int32) p2)) (bi (FX3_isUp ro_mood le_dares ro_letters ro_needs x3 (1 : Int32) p2)) (gat ro_tenths 12 x3) x3 ((gat ro_tenths 12 x3).toInt64) x4) else (FX1_look_J61L9 (bi (FX3_isUp ro_mood le_dares ro_letters ro_needs x3 (0 : Int32) p2)) (bi (FX3_isUp ro_mood le_dares ro_letters ro_needs x3 (1 : Int32) p2)) (gat ro_tenths 12 x3) x3 (0 : Int64) x4))
def FX1_look (ha_cells : Nat → Int64) (ro_pupils : Int32) (ro_mood : Int32) (ro_tenths : Nat → Int32) (ro_letters : Nat → Int32) (ro_needs : Nat → Int32) (le_dares : Nat → Int32) (p2 : Int32) : Option ((Nat → Int64)) :=
  nmb (FX4_begin ha_cells) fun u1 => (itr (fun v => FX1_look_S9 ro_pupils ro_mood ro_tenths ro_letters ro_needs le_dares p2 v.1 v.2) fu ((0 : Int32), u1)).bind fun o38 => some o38
def rm_X1_look : Room := { frames := 3, cells := 0, slots := 0, locals := 67 }
set_option maxHeartbeats 4000000 in
set_option maxRecDepth 100000 in
theorem c_X1_look (l : Launch) (D : va_G) (cI cJ cZ : ClassId) (a : Nat → Nat) (ws0 : va_W) (A : Nat → Prop)  (ha_cells : Nat → Int64) (ro_pupils : Int32) (ro_mood : Int32) (ro_tenths : Nat → Int32) (ro_letters : Nat → Int32) (ro_needs : Nat → Int32) (le_seed : Int64) (le_questions : Int32) (le_rightOnes : Int32) (le_wrongOnes : Int32) (le_isKept : Int32) (le_dares : Nat → Int32) (p2 : Int32) (u : (Nat → Int64)) (hF : FX1_look ha_cells ro_pupils ro_mood ro_tenths ro_letters ro_needs le_dares p2 = some u) (z3 : ws0[3]? = some (a 3, .inr (3, [.ref (a 4), .ref (a 5), .ref (a 6), .ref (a 7), .ref (a 8), .ref (a 9), .ref (a 10), .int ro_pupils, .int ro_mood]))) (z4 : ws0[4]? = some (a 4, .inl (cI, 12, .inl ro_letters))) (z7 : ws0[7]? = some (a 7, .inl (cI, 12, .inl ro_tenths))) (z8 : ws0[8]? = some (a 8, .inl (cI, 12, .inl ro_needs))) (z10 : ws0[10]? = some (a 10, .inr (2, [.ref (a 11), .ref (a 12), .long le_seed, .int le_questions, .int le_rightOnes, .int le_wrongOnes, .int le_isKept]))) (z11 : ws0[11]? = some (a 11, .inl (cI, 12, .inl le_dares))) (z13 : ws0[13]? = some (a 13, .inr (1, [.ref (a 14)]))) (z14 : ws0[14]? = some (a 14, .inr (4, [.ref (a 15)]))) (z15 : ws0[15]? = some (a 15, .inl (cJ, 169, .inr (.inl ha_cells)))) (hD : va_D A ws0) : Met l yX1_look (wq yX1_look cX1_look 7 none) rm_X1_look (Pq [.ref (a 13), .ref (a 3), .int p2] D cI cJ cZ ws0) (Qw D A ws0 [15] none (fun w => w[15]? = some (a 15, .inl (cJ, 169, .inr (.inl u))))) 0 0 A := by
  refine mq_of (by decide) (Nat.le_of_ble_eq_true rfl) (fun p e s m args below meth c ls Q hQ X _ hP hl => ?_)
  obtain ⟨hx, hb, hr, hml, hown, hts, hlk, hK, hN⟩ := id X
  have hown : s.vm.findClass RX1 = some m.cls := hown
  have hl : lv_has ls 7 [(0, .ref (a 13)), (1, .ref (a 3)), (2, .int p2)] := hl
  have hS : va_S A s.heap s.heap [] := va_S.rf
  have hs : ∀ j : Nat, j ∉ [15] → ws0[j]? = ws0[j]? := fun _ _ => rfl
  have h3 := z3
  have h4 := z4
  have h7 := z7
  have h8 := z8
  have h10 := z10
  have h11 := z11
  have h13 := z13
  have h14 := z14
  have h15 := z15
  unfold FX1_look at hF
  refine lv_aload_n hx hb dX1_look_0 rfl (lv_at hl 0 rfl) ?_
  refine gf_X1_12 hx hb hts hown hK hP h13 dX1_look_1 ?_
  obtain ⟨u1, e_u1⟩ : ∃ q, q = FX4_begin ha_cells := ⟨_, rfl⟩
  replace hF := nm_at hF e_u1
  refine wr_v (runVN (As := []) (rest := []) X cq_X4_begin lk_X1_18 (c_X4_begin l D cI cJ cZ a ws0 A 14 ha_cells u1 e_u1.symm h14 h15 hD) rfl rfl ⟨Nat.le_of_ble_eq_true rfl, Nat.le_of_ble_eq_true rfl⟩ hP h14 rfl rfl hl.1 rfl (Nat.le_of_ble_eq_true rfl) dX1_look_4 ⟨Nat.le_of_ble_eq_true rfl, Nat.le_of_ble_eq_true rfl⟩) hS (fun w2 H locs hP hD hk hB hS => ?_)
  have h15 : w2[15]? = some (a 15, .inl (cJ, 169, .inr (.inl u1))) := hB
  have h13 := (hk 13 (by simp only [List.mem_cons, List.not_mem_nil, or_false, not_or]; omega)).trans h13
  have h14 := (hk 14 (by simp only [List.mem_cons, List.not_mem_nil, or_false, not_or]; omega)).trans h14
  have h3 := (hk 3 (by simp only [List.mem_cons, List.not_mem_nil, or_false, not_or]; omega)).trans h3
  have h7 := (hk 7 (by simp only [List.mem_cons, List.not_mem_nil, or_false, not_or]; omega)).trans h7
  have h4 := (hk 4 (by simp only [List.mem_cons, List.not_mem_nil, or_false, not_or]; omega)).trans h4
  have h8 := (hk 8 (by simp only [List.mem_cons, List.not_mem_nil, or_false, not_or]; omega)).trans h8
  have h10 := (hk 10 (by simp only [List.mem_cons, List.not_mem_nil, or_false, not_or]; omega)).trans h10
  have h11 := (hk 11 (by simp only [List.mem_cons, List.not_mem_nil, or_false, not_or]; omega)).trans h11
  replace hs := st_tr hk (fun j hj => by simp only [List.mem_cons, List.not_mem_nil, or_false] at hj ⊢; omega) hs
  refine lv_iconst (v := (0 : Int32)) hx hb dX1_look_7 (by decide) ?_
  refine lv_istore_n (lv' := [(3, .int (0 : Int32)), (0, .ref (a 13)), (1, .ref (a 3)), (2, .int p2)]) hx hb dX1_look_8 rfl hl (by decide) rfl (fun ls hl => ?_)
  have hL9 : ∀ (nf : Nat) (x3 : Int32) (x4 : Nat → Int64) (r : (Nat → Int64)), itr (fun v => FX1_look_S9 ro_pupils ro_mood ro_tenths ro_letters ro_needs le_dares p2 v.1 v.2) nf (x3, x4) = some r → ∀ (wJ : va_W) (HJ : Heap) (lJ : List Loc), va_P D vwCl wJ HJ → va_D A wJ → va_S A s.heap HJ lJ → (∀ j : Nat, j ∉ [15] → wJ[j]? = ws0[j]?) → wJ[15]? = some (a 15, .inl (cJ, 169, .inr (.inl x4))) → ∀ ls, lv_has ls 7 [(3, .int x3), (0, .ref (a 13)), (1, .ref (a 3)), (2, .int p2)] → (∀ o : (Nat → Int64), r = o → ∀ (wK : va_W) (HK : Heap) (lK : List Loc), va_P D vwCl wK HK → va_D A wK → va_S A s.heap HK lK → (∀ j : Nat, j ∉ [15] → wK[j]? = ws0[j]?) → wK[15]? = some (a 15, .inl (cJ, 169, .inr (.inl o))) → ∀ ls, lv_has ls 7 [] → W p l e rm_X1_look s m args below meth c HK lK 0 0 Q (F0 m 112 ls [])) → W p l e rm_X1_look s m args below meth c HJ lJ 0 0 Q (F0 m 9 ls []) := by
    intro nf
    induction nf with
    | zero => intro _ _ r hF; exact (itr_0 hF).elim
    | succ nf ih =>
      intro x3 x4 r hF w H locs hP hD hS hs h15 ls hl hE
      obtain ⟨wo, hF, hw⟩ := itr_s hF
      replace hF : FX1_look_S9 ro_pupils ro_mood ro_tenths ro_letters ro_needs le_dares p2 x3 x4 = some wo := hF
      have h13 := (hs 13 (by simp only [List.mem_cons, List.not_mem_nil, or_false, not_or]; omega)).trans z13
      have h14 := (hs 14 (by simp only [List.mem_cons, List.not_mem_nil, or_false, not_or]; omega)).trans z14
      have h3 := (hs 3 (by simp only [List.mem_cons, List.not_mem_nil, or_false, not_or]; omega)).trans z3
      have h7 := (hs 7 (by simp only [List.mem_cons, List.not_mem_nil, or_false, not_or]; omega)).trans z7
      have h4 := (hs 4 (by simp only [List.mem_cons, List.not_mem_nil, or_false, not_or]; omega)).trans z4
      have h8 := (hs 8 (by simp only [List.mem_cons, List.not_mem_nil, or_false, not_or]; omega)).trans z8
      have h10 := (hs 10 (by simp only [List.mem_cons, List.not_mem_nil, or_false, not_or]; omega)).trans z10
      have h11 := (hs 11 (by simp only [List.mem_cons, List.not_mem_nil, or_false, not_or]; omega)).trans z11
      have hJ103 : ∀ (x30 : Int32) (x31 : Int64) (x32 : Int64) (x33 : Int64) (x34 : Int64) (x35 : Nat → Int64), ∀ (wJ : va_W) (HJ : Heap) (lJ : List Loc), va_P D vwCl wJ HJ → va_D A wJ → va_S A s.heap HJ lJ → (∀ j : Nat, j ∉ [15] → wJ[j]? = ws0[j]?) → wJ[15]? = some (a 15, .inl (cJ, 169, .inr (.inl x35))) → ∀ ls, lv_has ls 7 [(3, .int x30), (0, .ref (a 13)), (1, .ref (a 3)), (2, .int p2)] → FX1_look_J103L9 x30 x31 x32 x33 x34 x35 = some wo → W p l e rm_X1_look s m args below meth c HJ lJ 0 0 Q (F0 m 103 ls [.long x34, .long x33, .long x32, .long x31, .ref (a 14)]) := by
        intro x30 x31 x32 x33 x34 x35 w H locs hP hD hS hs h15 ls hl hF
        have h13 := (hs 13 (by simp only [List.mem_cons, List.not_mem_nil, or_false, not_or]; omega)).trans z13
        have h14 := (hs 14 (by simp only [List.mem_cons, List.not_mem_nil, or_false, not_or]; omega)).trans z14
        have h3 := (hs 3 (by simp only [List.mem_cons, List.not_mem_nil, or_false, not_or]; omega)).trans z3
        have h7 := (hs 7 (by simp only [List.mem_cons, List.not_mem_nil, or_false, not_or]; omega)).trans z7
        have h4 := (hs 4 (by simp only [List.mem_cons, List.not_mem_nil, or_false, not_or]; omega)).trans z4
        have h8 := (hs 8 (by simp only [List.mem_cons, List.not_mem_nil, or_false, not_or]; omega)).trans z8
        have h10 := (hs 10 (by simp only [List.mem_cons, List.not_mem_nil, or_false, not_or]; omega)).trans z10
        have h11 := (hs 11 (by simp only [List.mem_cons, List.not_mem_nil, or_false, not_or]; omega)).trans z11
        unfold FX1_look_J103L9 at hF
        obtain ⟨u36, hu36, hF⟩ := bd_some hF
        refine wr_v (runVN (As := [.long x31, .long x32, .long x33, .long x34]) (rest := []) X cq_X4_join lk_X1_39 (c_X4_join l D cI cJ cZ a w A 14 x35 x31 x32 x33 x34 u36 hu36 h14 h15 hD) rfl rfl ⟨Nat.le_of_ble_eq_true rfl, Nat.le_of_ble_eq_true rfl⟩ hP h14 rfl rfl hl.1 rfl (Nat.le_of_ble_eq_true rfl) dX1_look_103 ⟨Nat.le_of_ble_eq_true rfl, Nat.le_of_ble_eq_true rfl⟩) hS (fun w37 H locs hP hD hk hB hS => ?_)
        have h15 : w37[15]? = some (a 15, .inl (cJ, 169, .inr (.inl u36))) := hB
        have h13 := (hk 13 (by simp only [List.mem_cons, List.not_mem_nil, or_false, not_or]; omega)).trans h13
        have h14 := (hk 14 (by simp only [List.mem_cons, List.not_mem_nil, or_false, not_or]; omega)).trans h14
        have h3 := (hk 3 (by simp only [List.mem_cons, List.not_mem_nil, or_false, not_or]; omega)).trans h3
        have h7 := (hk 7 (by simp only [List.mem_cons, List.not_mem_nil, or_false, not_or]; omega)).trans h7
        have h4 := (hk 4 (by simp only [List.mem_cons, List.not_mem_nil, or_false, not_or]; omega)).trans h4
        have h8 := (hk 8 (by simp only [List.mem_cons, List.not_mem_nil, or_false, not_or]; omega)).trans h8
        have h10 := (hk 10 (by simp only [List.mem_cons, List.not_mem_nil, or_false, not_or]; omega)).trans h10
        have h11 := (hk 11 (by simp only [List.mem_cons, List.not_mem_nil, or_false, not_or]; omega)).trans h11
        replace hs := st_tr hk (fun j hj => by simp only [List.mem_cons, List.not_mem_nil, or_false] at hj ⊢; omega) hs
        refine lv_iinc (v := x30 + (1 : Int32)) (lv' := [(3, .int (x30 + (1 : Int32))), (0, .ref (a 13)), (1, .ref (a 3)), (2, .int p2)]) hx hb dX1_look_106 hl (k := 0) rfl rfl (by decide) rfl (fun ls hl => ?_)
        refine lv_goto (tgt := 9) hx hb dX1_look_109 (by decide) ?_
        obtain rfl := Option.some.inj hF
        exact ih _ _ _ hw _ _ _ hP hD hS hs h15 ls (lv_sub hl [0, 1, 2, 3] rfl) hE
      have hJ88 : ∀ (x22 : Int32) (x23 : Int32) (x24 : Int32) (x25 : Int64) (x26 : Int64) (x27 : Int64) (x28 : Nat → Int64), ∀ (wJ : va_W) (HJ : Heap) (lJ : List Loc), va_P D vwCl wJ HJ → va_D A wJ → va_S A s.heap HJ lJ → (∀ j : Nat, j ∉ [15] → wJ[j]? = ws0[j]?) → wJ[15]? = some (a 15, .inl (cJ, 169, .inr (.inl x28))) → ∀ ls, lv_has ls 7 [(6, .int x22), (4, .int x23), (3, .int x24), (0, .ref (a 13)), (1, .ref (a 3)), (2, .int p2)] → FX1_look_J88L9 x22 x23 x24 x25 x26 x27 x28 = some wo → W p l e rm_X1_look s m args below meth c HJ lJ 0 0 Q (F0 m 88 ls [.long x27, .long x26, .long x25, .ref (a 14)]) := by
        intro x22 x23 x24 x25 x26 x27 x28 w H locs hP hD hS hs h15 ls hl hF
        have h13 := (hs 13 (by simp only [List.mem_cons, List.not_mem_nil, or_false, not_or]; omega)).trans z13
        have h14 := (hs 14 (by simp only [List.mem_cons, List.not_mem_nil, or_false, not_or]; omega)).trans z14
        have h3 := (hs 3 (by simp only [List.mem_cons, List.not_mem_nil, or_false, not_or]; omega)).trans z3
        have h7 := (hs 7 (by simp only [List.mem_cons, List.not_mem_nil, or_false, not_or]; omega)).trans z7
        have h4 := (hs 4 (by simp only [List.mem_cons, List.not_mem_nil, or_false, not_or]; omega)).trans z4
        have h8 := (hs 8 (by simp only [List.mem_cons, List.not_mem_nil, or_false, not_or]; omega)).trans z8
        have h10 := (hs 10 (by simp only [List.mem_cons, List.not_mem_nil, or_false, not_or]; omega)).trans z10
        have h11 := (hs 11 (by simp only [List.mem_cons, List.not_mem_nil, or_false, not_or]; omega)).trans z11
        unfold FX1_look_J88L9 at hF
        refine lv_iload hx hb dX1_look_88 (lv_at hl 0 rfl) ?_
        refine lv_if_eq (tgt := 97) hx hb dX1_look_90 (by decide) (fun c29 => ?_) (fun c29 => ?_)
        · replace hF := (if_pos c29).symm.trans hF
          refine lv_bipush (v := (10 : Int32)) hx hb dX1_look_97 (by decide) ?_
          refine lv_iload hx hb dX1_look_99 (lv_at hl 1 rfl) ?_
          refine lv_isub hx hb dX1_look_101 ?_
          refine lv_i2l hx hb dX1_look_102 rfl ?_
          exact hJ103 x24 x25 x26 x27 (((10 : Int32) - x23).toInt64) x28 _ _ _ hP hD hS hs h15 ls (lv_sub hl [2, 3, 4, 5] rfl) hF
        · replace hF := (if_neg c29).symm.trans hF
          refine lv_lconst (v := (0 : Int64)) hx hb dX1_look_93 (by decide) ?_
          refine lv_goto (tgt := 103) hx hb dX1_look_94 (by decide) ?_
          exact hJ103 x24 x25 x26 x27 (0 : Int64) x28 _ _ _ hP hD hS hs h15 ls (lv_sub hl [2, 3, 4, 5] rfl) hF
      have hJ76 : ∀ (x14 : Int32) (x15 : Int32) (x16 : Int32) (x17 : Int32) (x18 : Int64) (x19 : Int64) (x20 : Nat → Int64), ∀ (wJ : va_W) (HJ : Heap) (lJ : List Loc), va_P D vwCl wJ HJ → va_D A wJ → va_S A s.heap HJ lJ → (∀ j : Nat, j ∉ [15] → wJ[j]? = ws0[j]?) → wJ[15]? = some (a 15, .inl (cJ, 169, .inr (.inl x20))) → ∀ ls, lv_has ls 7 [(6, .int x14), (5, .int x15), (4, .int x16), (3, .int x17), (0, .ref (a 13)), (1, .ref (a 3)), (2, .int p2)] → FX1_look_J76L9 x14 x15 x16 x17 x18 x19 x20 = some wo → W p l e rm_X1_look s m args below meth c HJ lJ 0 0 Q (F0 m 76 ls [.long x19, .long x18, .ref (a 14)]) := by
        intro x14 x15 x16 x17 x18 x19 x20 w H locs hP hD hS hs h15 ls hl hF
        have h13 := (hs 13 (by simp only [List.mem_cons, List.not_mem_nil, or_false, not_or]; omega)).trans z13
        have h14 := (hs 14 (by simp only [List.mem_cons, List.not_mem_nil, or_false, not_or]; omega)).trans z14
        have h3 := (hs 3 (by simp only [List.mem_cons, List.not_mem_nil, or_false, not_or]; omega)).trans z3
        have h7 := (hs 7 (by simp only [List.mem_cons, List.not_mem_nil, or_false, not_or]; omega)).trans z7
        have h4 := (hs 4 (by simp only [List.mem_cons, List.not_mem_nil, or_false, not_or]; omega)).trans z4
        have h8 := (hs 8 (by simp only [List.mem_cons, List.not_mem_nil, or_false, not_or]; omega)).trans z8
        have h10 := (hs 10 (by simp only [List.mem_cons, List.not_mem_nil, or_false, not_or]; omega)).trans z10
        have h11 := (hs 11 (by simp only [List.mem_cons, List.not_mem_nil, or_false, not_or]; omega)).trans z11
        unfold FX1_look_J76L9 at hF
        refine lv_iload hx hb dX1_look_76 (lv_at hl 1 rfl) ?_
        refine lv_if_eq (tgt := 85) hx hb dX1_look_78 (by decide) (fun c21 => ?_) (fun c21 => ?_)
        · replace hF := (if_pos c21).symm.trans hF
          refine lv_iload hx hb dX1_look_85 (lv_at hl 2 rfl) ?_
          refine lv_i2l hx hb dX1_look_87 rfl ?_
          exact hJ88 x14 x16 x17 x18 x19 x16.toInt64 x20 _ _ _ hP hD hS hs h15 ls (lv_sub hl [0, 2, 3, 4, 5, 6] rfl) hF
        · replace hF := (if_neg c21).symm.trans hF
          refine lv_lconst (v := (0 : Int64)) hx hb dX1_look_81 (by decide) ?_
          refine lv_goto (tgt := 88) hx hb dX1_look_82 (by decide) ?_
          exact hJ88 x14 x16 x17 x18 x19 (0 : Int64) x20 _ _ _ hP hD hS hs h15 ls (lv_sub hl [0, 2, 3, 4, 5, 6] rfl) hF
      have hJ61 : ∀ (x7 : Int32) (x8 : Int32) (x9 : Int32) (x10 : Int32) (x11 : Int64) (x12 : Nat → Int64), ∀ (wJ : va_W) (HJ : Heap) (lJ : List Loc), va_P D vwCl wJ HJ → va_D A wJ → va_S A s.heap HJ lJ → (∀ j : Nat, j ∉ [15] → wJ[j]? = ws0[j]?) → wJ[15]? = some (a 15, .inl (cJ, 169, .inr (.inl x12))) → ∀ ls, lv_has ls 7 [(6, .int x7), (5, .int x8), (4, .int x9), (3, .int x10), (0, .ref (a 13)), (1, .ref (a 3)), (2, .int p2)] → FX1_look_J61L9 x7 x8 x9 x10 x11 x12 = some wo → W p l e rm_X1_look s m args below meth c HJ lJ 0 0 Q (F0 m 61 ls [.long x11, .ref (a 14)]) := by
        intro x7 x8 x9 x10 x11 x12 w H locs hP hD hS hs h15 ls hl hF
        have h13 := (hs 13 (by simp only [List.mem_cons, List.not_mem_nil, or_false, not_or]; omega)).trans z13
        have h14 := (hs 14 (by simp only [List.mem_cons, List.not_mem_nil, or_false, not_or]; omega)).trans z14
        have h3 := (hs 3 (by simp only [List.mem_cons, List.not_mem_nil, or_false, not_or]; omega)).trans z3
        have h7 := (hs 7 (by simp only [List.mem_cons, List.not_mem_nil, or_false, not_or]; omega)).trans z7
        have h4 := (hs 4 (by simp only [List.mem_cons, List.not_mem_nil, or_false, not_or]; omega)).trans z4
        have h8 := (hs 8 (by simp only [List.mem_cons, List.not_mem_nil, or_false, not_or]; omega)).trans z8
        have h10 := (hs 10 (by simp only [List.mem_cons, List.not_mem_nil, or_false, not_or]; omega)).trans z10
        have h11 := (hs 11 (by simp only [List.mem_cons, List.not_mem_nil, or_false, not_or]; omega)).trans z11
        unfold FX1_look_J61L9 at hF
        refine lv_iload hx hb dX1_look_61 (lv_at hl 0 rfl) ?_
        refine lv_if_eq (tgt := 75) hx hb dX1_look_63 (by decide) (fun c13 => ?_) (fun c13 => ?_)
        · replace hF := (if_pos c13).symm.trans hF
          refine lv_lconst (v := (0 : Int64)) hx hb dX1_look_75 (by decide) ?_
          exact hJ76 x7 x8 x9 x10 x11 (0 : Int64) x12 _ _ _ hP hD hS hs h15 ls (lv_sub hl [0, 1, 2, 3, 4, 5, 6] rfl) hF
        · replace hF := (if_neg c13).symm.trans hF
          refine lv_bipush (v := (10 : Int32)) hx hb dX1_look_66 (by decide) ?_
          refine lv_iload hx hb dX1_look_68 (lv_at hl 2 rfl) ?_
          refine lv_isub hx hb dX1_look_70 ?_
          refine lv_i2l hx hb dX1_look_71 rfl ?_
          refine lv_goto (tgt := 76) hx hb dX1_look_72 (by decide) ?_
          exact hJ76 x7 x8 x9 x10 x11 (((10 : Int32) - x9).toInt64) x12 _ _ _ hP hD hS hs h15 ls (lv_sub hl [0, 1, 2, 3, 4, 5, 6] rfl) hF
      unfold FX1_look_S9 at hF
      refine lv_iload_n hx hb dX1_look_9 rfl (lv_at hl 0 rfl) ?_
      refine lv_aload_n hx hb dX1_look_10 rfl (lv_at hl 2 rfl) ?_
      refine gf_X1_21 hx hb hts hown hK hN hP h3 dX1_look_11 ?_
      refine lv_icmp_ge (tgt := 112) hx hb dX1_look_14 (by decide) (fun c5 => ?_) (fun c5 => ?_)
      · replace hF := (if_pos c5).symm.trans hF
        obtain rfl := Option.some.inj hF
        obtain rfl := hw
        exact hE _ rfl _ _ _ hP hD hS hs h15 ls (lv_sub hl [] rfl)
      · replace hF := (if_neg c5).symm.trans hF
        refine lv_aload_n hx hb dX1_look_17 rfl (lv_at hl 2 rfl) ?_
        refine gf_X1_27 hx hb hts hown hK hN hP h3 dX1_look_18 ?_
        refine lv_iload_n hx hb dX1_look_21 rfl (lv_at hl 0 rfl) ?_
        refine rd_i (runSN (As := [.ref (a 7), .int x3]) (rest := []) X cq_X8_at lk_X1_31 (t_X8_at l D cI cJ cZ a w 7 ro_tenths 12 x3 _ rfl h7 (by decide)) rfl rfl ⟨Nat.le_of_ble_eq_true rfl, Nat.le_of_ble_eq_true rfl⟩ hP rfl hl.1 rfl (Nat.le_of_ble_eq_true rfl) dX1_look_22 ⟨Nat.le_of_ble_eq_true rfl, Nat.le_of_ble_eq_true rfl⟩) ?_
        refine lv_istore (lv' := [(4, .int (gat ro_tenths 12 x3)), (3, .int x3), (0, .ref (a 13)), (1, .ref (a 3)), (2, .int p2)]) hx hb dX1_look_25 hl (by decide) rfl (fun ls hl => ?_)
        refine lv_aload_n hx hb dX1_look_27 rfl (lv_at hl 3 rfl) ?_
        refine lv_iload_n hx hb dX1_look_28 rfl (lv_at hl 1 rfl) ?_
        refine lv_iconst (v := (1 : Int32)) hx hb dX1_look_29 (by decide) ?_
        refine lv_iload_n hx hb dX1_look_30 rfl (lv_at hl 4 rfl) ?_
        refine rd_i (runVN (As := [.int x3, .int (1 : Int32), .int p2]) (rest := []) X cq_X3_isUp lk_X1_35 (c_X3_isUp l D cI cJ cZ a w ro_pupils ro_mood le_seed le_questions le_rightOnes le_wrongOnes le_isKept le_dares ro_letters ro_needs x3 (1 : Int32) p2 _ rfl h3 h4 h8 h10 h11) rfl rfl ⟨Nat.le_of_ble_eq_true rfl, Nat.le_of_ble_eq_true rfl⟩ hP h3 rfl rfl hl.1 rfl (Nat.le_of_ble_eq_true rfl) dX1_look_31 ⟨Nat.le_of_ble_eq_true rfl, Nat.le_of_ble_eq_true rfl⟩) ?_
        refine lv_istore (lv' := [(5, .int (bi (FX3_isUp ro_mood le_dares ro_letters ro_needs x3 (1 : Int32) p2))), (4, .int (gat ro_tenths 12 x3)), (3, .int x3), (0, .ref (a 13)), (1, .ref (a 3)), (2, .int p2)]) hx hb dX1_look_34 hl (by decide) rfl (fun ls hl => ?_)
        refine lv_aload_n hx hb dX1_look_36 rfl (lv_at hl 4 rfl) ?_
        refine lv_iload_n hx hb dX1_look_37 rfl (lv_at hl 2 rfl) ?_
        refine lv_iconst (v := (0 : Int32)) hx hb dX1_look_38 (by decide) ?_
        refine lv_iload_n hx hb dX1_look_39 rfl (lv_at hl 5 rfl) ?_
        refine rd_i (runVN (As := [.int x3, .int (0 : Int32), .int p2]) (rest := []) X cq_X3_isUp lk_X1_35 (c_X3_isUp l D cI cJ cZ a w ro_pupils ro_mood le_seed le_questions le_rightOnes le_wrongOnes le_isKept le_dares ro_letters ro_needs x3 (0 : Int32) p2 _ rfl h3 h4 h8 h10 h11) rfl rfl ⟨Nat.le_of_ble_eq_true rfl, Nat.le_of_ble_eq_true rfl⟩ hP h3 rfl rfl hl.1 rfl (Nat.le_of_ble_eq_true rfl) dX1_look_40 ⟨Nat.le_of_ble_eq_true rfl, Nat.le_of_ble_eq_true rfl⟩) ?_
        refine lv_istore (lv' := [(6, .int (bi (FX3_isUp ro_mood le_dares ro_letters ro_needs x3 (0 : Int32) p2))), (5, .int (bi (FX3_isUp ro_mood le_dares ro_letters ro_needs x3 (1 : Int32) p2))), (4, .int (gat ro_tenths 12 x3)), (3, .int x3), (0, .ref (a 13)), (1, .ref (a 3)), (2, .int p2)]) hx hb dX1_look_43 hl (by decide) rfl (fun ls hl => ?_)
        refine lv_aload_n hx hb dX1_look_45 rfl (lv_at hl 4 rfl) ?_
        refine gf_X1_12 hx hb hts hown hK hP h13 dX1_look_46 ?_
        refine lv_iload hx hb dX1_look_49 (lv_at hl 1 rfl) ?_
        refine zf_eq (tgt := 60) hx hb dX1_look_51 (by decide) (fun c6 => ?_) (fun c6 => ?_)
        · replace hF := (if_neg c6).symm.trans hF
          refine lv_lconst (v := (0 : Int64)) hx hb dX1_look_60 (by decide) ?_
          exact hJ61 (bi (FX3_isUp ro_mood le_dares ro_letters ro_needs x3 (0 : Int32) p2)) (bi (FX3_isUp ro_mood le_dares ro_letters ro_needs x3 (1 : Int32) p2)) (gat ro_tenths 12 x3) x3 (0 : Int64) x4 _ _ _ hP hD hS hs h15 ls (lv_sub hl [0, 1, 2, 3, 4, 5, 6] rfl) hF
        · replace hF := (if_pos c6).symm.trans hF
          refine lv_iload hx hb dX1_look_54 (lv_at hl 2 rfl) ?_
          refine lv_i2l hx hb dX1_look_56 rfl ?_
          refine lv_goto (tgt := 61) hx hb dX1_look_57 (by decide) ?_
          exact hJ61 (bi (FX3_isUp ro_mood le_dares ro_letters ro_needs x3 (0 : Int32) p2)) (bi (FX3_isUp ro_mood le_dares ro_letters ro_needs x3 (1 : Int32) p2)) (gat ro_tenths 12 x3) x3 ((gat ro_tenths 12 x3).toInt64) x4 _ _ _ hP hD hS hs h15 ls (lv_sub hl [0, 1, 2, 3, 4, 5, 6] rfl) hF
  obtain ⟨o38, ho38, hF⟩ := bd_some hF
  refine hL9 fu (0 : Int32) u1 o38 ho38 _ _ _ hP hD hS hs h15 ls (lv_sub hl [0, 1, 2, 3] rfl) ?_
  intro _ q_o38 w H locs hP hD hS hs h15 ls hl
  subst q_o38
  have h13 := (hs 13 (by simp only [List.mem_cons, List.not_mem_nil, or_false, not_or]; omega)).trans z13
  have h14 := (hs 14 (by simp only [List.mem_cons, List.not_mem_nil, or_false, not_or]; omega)).trans z14
  have h3 := (hs 3 (by simp only [List.mem_cons, List.not_mem_nil, or_false, not_or]; omega)).trans z3
  have h7 := (hs 7 (by simp only [List.mem_cons, List.not_mem_nil, or_false, not_or]; omega)).trans z7
  have h4 := (hs 4 (by simp only [List.mem_cons, List.not_mem_nil, or_false, not_or]; omega)).trans z4
  have h8 := (hs 8 (by simp only [List.mem_cons, List.not_mem_nil, or_false, not_or]; omega)).trans z8
  have h10 := (hs 10 (by simp only [List.mem_cons, List.not_mem_nil, or_false, not_or]; omega)).trans z10
  have h11 := (hs 11 (by simp only [List.mem_cons, List.not_mem_nil, or_false, not_or]; omega)).trans z11
  obtain rfl := Option.some.inj hF
  rw [hQ]
  exact rw_v X hS hP hD hs h15 dX1_look_112
def FX4_allOf_S5 (p_cells : Nat → Int64) (p1 : Int32) (x1 : Int64) (x2 : Int32) : Option ((Int64 × Int32) ⊕ (Int64)) :=
  if (13 : Int32) ≤ x2 then (some (.inr x1)) else (some (.inl (x1 + (gget p_cells p1 x2), x2 + (1 : Int32))))
def FX4_allOf (p_cells : Nat → Int64) (p1 : Int32) : Option (Int64) :=
  (itr (fun v => FX4_allOf_S5 p_cells p1 v.1 v.2) fu ((0 : Int64), (0 : Int32))).bind fun o4 => some o4
def rm_X4_allOf : Room := { frames := 1, cells := 0, slots := 0, locals := 22 }
set_option maxHeartbeats 4000000 in
set_option maxRecDepth 100000 in
theorem c_X4_allOf (l : Launch) (D : va_G) (cI cJ cZ : ClassId) (a : Nat → Nat) (ws0 : va_W) (k : Nat) (p_cells : Nat → Int64) (p1 : Int32) (u : Int64) (hF : FX4_allOf p_cells p1 = some u) (h_k0 : ws0[k]? = some (a k, .inr (4, [.ref (a (k + 1))]))) (h_k1 : ws0[(k + 1)]? = some (a (k + 1), .inl (cJ, 169, .inr (.inl p_cells)))) : Met l yX4_allOf (wq yX4_allOf cX4_allOf 5 (some .long)) rm_X4_allOf (Pq [.ref (a k), .int p1] D cI cJ cZ ws0) (Qq (some (.long u))) 0 0 (fun _ => False) := by
  refine mq_of (by decide) (Nat.le_of_ble_eq_true rfl) (fun p e s m args below meth c ls Q hQ X _ hP hl => ?_)
  obtain ⟨hx, hb, hr, hml, hown, hts, hlk, hK, hN⟩ := id X
  have hown : s.vm.findClass RX4 = some m.cls := hown
  have hl : lv_has ls 5 [(0, .ref (a k)), (1, .int p1)] := hl
  unfold FX4_allOf at hF
  refine lv_lconst (v := (0 : Int64)) hx hb dX4_allOf_0 (by decide) ?_
  refine lv_lstore_n (lv' := [(2, .long (0 : Int64)), (0, .ref (a k)), (1, .int p1)]) hx hb dX4_allOf_1 rfl hl (by decide) rfl (fun ls hl => ?_)
  refine lv_iconst (v := (0 : Int32)) hx hb dX4_allOf_2 (by decide) ?_
  refine lv_istore (lv' := [(4, .int (0 : Int32)), (2, .long (0 : Int64)), (0, .ref (a k)), (1, .int p1)]) hx hb dX4_allOf_3 hl (by decide) rfl (fun ls hl => ?_)
  have hL5 : ∀ (nf : Nat) (x1 : Int64) (x2 : Int32) (r : Int64), itr (fun v => FX4_allOf_S5 p_cells p1 v.1 v.2) nf (x1, x2) = some r → ∀ ls, lv_has ls 5 [(4, .int x2), (2, .long x1), (0, .ref (a k)), (1, .int p1)] → (∀ o : Int64, r = o → ∀ ls, lv_has ls 5 [(2, .long o)] → W p l e rm_X4_allOf s m args below meth c s.heap [] 0 0 Q (F0 m 28 ls [])) → W p l e rm_X4_allOf s m args below meth c s.heap [] 0 0 Q (F0 m 5 ls []) := by
    intro nf
    induction nf with
    | zero => intro _ _ r hF; exact (itr_0 hF).elim
    | succ nf ih =>
      intro x1 x2 r hF ls hl hE
      obtain ⟨wo, hF, hw⟩ := itr_s hF
      replace hF : FX4_allOf_S5 p_cells p1 x1 x2 = some wo := hF
      unfold FX4_allOf_S5 at hF
      refine lv_iload hx hb dX4_allOf_5 (lv_at hl 0 rfl) ?_
      refine lv_bipush (v := (13 : Int32)) hx hb dX4_allOf_7 (by decide) ?_
      refine lv_icmp_ge (tgt := 28) hx hb dX4_allOf_9 (by decide) (fun c3 => ?_) (fun c3 => ?_)
      · replace hF := (if_pos c3).symm.trans hF
        obtain rfl := Option.some.inj hF
        obtain rfl := hw
        exact hE _ rfl ls (lv_sub hl [1] rfl)
      · replace hF := (if_neg c3).symm.trans hF
        refine lv_lload_n hx hb dX4_allOf_12 rfl (lv_at hl 1 rfl) ?_
        refine lv_aload_n hx hb dX4_allOf_13 rfl (lv_at hl 2 rfl) ?_
        refine lv_iload_n hx hb dX4_allOf_14 rfl (lv_at hl 3 rfl) ?_
        refine lv_iload hx hb dX4_allOf_15 (lv_at hl 0 rfl) ?_
        refine rd_l (runV (As := [.int p1, .int x2]) (rest := [.long x1]) X cq_X4_get lk_X4_25 (t_X4_get l D cI cJ cZ a ws0 k p_cells p1 x2 _ rfl h_k0 h_k1) rfl rfl ⟨Nat.le_of_ble_eq_true rfl, Nat.le_of_ble_eq_true rfl⟩ hP h_k0 rfl rfl hl.1 rfl (Nat.le_of_ble_eq_true rfl) dX4_allOf_17 ⟨Nat.le_of_ble_eq_true rfl, Nat.le_of_ble_eq_true rfl⟩) ?_
        refine lv_ladd hx hb dX4_allOf_20 ?_
        refine lv_lstore_n (lv' := [(2, .long (x1 + (gget p_cells p1 x2))), (4, .int x2), (0, .ref (a k)), (1, .int p1)]) hx hb dX4_allOf_21 rfl hl (by decide) rfl (fun ls hl => ?_)
        refine lv_iinc (v := x2 + (1 : Int32)) (lv' := [(4, .int (x2 + (1 : Int32))), (2, .long (x1 + (gget p_cells p1 x2))), (0, .ref (a k)), (1, .int p1)]) hx hb dX4_allOf_22 hl (k := 1) rfl rfl (by decide) rfl (fun ls hl => ?_)
        refine lv_goto (tgt := 5) hx hb dX4_allOf_25 (by decide) ?_
        obtain rfl := Option.some.inj hF
        exact ih _ _ _ hw ls (lv_sub hl [0, 1, 2, 3] rfl) hE
  obtain ⟨o4, ho4, hF⟩ := bd_some hF
  refine hL5 fu (0 : Int64) (0 : Int32) o4 ho4 ls (lv_sub hl [0, 1, 2, 3] rfl) ?_
  intro _ q_o4 ls hl
  subst q_o4
  refine lv_lload_n hx hb dX4_allOf_28 rfl (lv_at hl 0 rfl) ?_
  obtain rfl := Option.some.inj hF
  rw [hQ]
  exact rt_l X dX4_allOf_29
def FX8_tenTo_S4 (p1 : Int32) (x1 : Int64) (x2 : Int32) : Option ((Int64 × Int32) ⊕ (Int64)) :=
  if p1 ≤ x2 then (some (.inr x1)) else (some (.inl (x1 * (10 : Int64), x2 + (1 : Int32))))
def FX8_tenTo (p1 : Int32) : Option (Int64) :=
  (itr (fun v => FX8_tenTo_S4 p1 v.1 v.2) fu ((1 : Int64), (0 : Int32))).bind fun o4 => some o4
def rm_X8_tenTo : Room := { frames := 0, cells := 0, slots := 0, locals := 0 }
set_option maxHeartbeats 4000000 in
set_option maxRecDepth 100000 in
theorem c_X8_tenTo (l : Launch) (D : va_G) (cI cJ cZ : ClassId) (a : Nat → Nat) (ws0 : va_W)   (p1 : Int32) (u : Int64) (hF : FX8_tenTo p1 = some u) : Met l yX8_tenTo (wq yX8_tenTo cX8_tenTo 4 (some .long)) rm_X8_tenTo (Pq [.int p1] D cI cJ cZ ws0) (Qq (some (.long u))) 0 0 (fun _ => False) := by
  refine mq_of (by decide) (Nat.le_of_ble_eq_true rfl) (fun p e s m args below meth c ls Q hQ X _ hP hl => ?_)
  obtain ⟨hx, hb, hr, hml, hown, hts, hlk, hK, hN⟩ := id X
  have hown : s.vm.findClass RX8 = some m.cls := hown
  have hl : lv_has ls 4 [(0, .int p1)] := hl
  unfold FX8_tenTo at hF
  refine lv_lconst (v := (1 : Int64)) hx hb dX8_tenTo_0 (by decide) ?_
  refine lv_lstore_n (lv' := [(1, .long (1 : Int64)), (0, .int p1)]) hx hb dX8_tenTo_1 rfl hl (by decide) rfl (fun ls hl => ?_)
  refine lv_iconst (v := (0 : Int32)) hx hb dX8_tenTo_2 (by decide) ?_
  refine lv_istore_n (lv' := [(3, .int (0 : Int32)), (1, .long (1 : Int64)), (0, .int p1)]) hx hb dX8_tenTo_3 rfl hl (by decide) rfl (fun ls hl => ?_)
  have hL4 : ∀ (nf : Nat) (x1 : Int64) (x2 : Int32) (r : Int64), itr (fun v => FX8_tenTo_S4 p1 v.1 v.2) nf (x1, x2) = some r → ∀ ls, lv_has ls 4 [(3, .int x2), (1, .long x1), (0, .int p1)] → (∀ o : Int64, r = o → ∀ ls, lv_has ls 4 [(1, .long o)] → W p l e rm_X8_tenTo s m args below meth c s.heap [] 0 0 Q (F0 m 21 ls [])) → W p l e rm_X8_tenTo s m args below meth c s.heap [] 0 0 Q (F0 m 4 ls []) := by
    intro nf
    induction nf with
    | zero => intro _ _ r hF; exact (itr_0 hF).elim
    | succ nf ih =>
      intro x1 x2 r hF ls hl hE
      obtain ⟨wo, hF, hw⟩ := itr_s hF
      replace hF : FX8_tenTo_S4 p1 x1 x2 = some wo := hF
      unfold FX8_tenTo_S4 at hF
      refine lv_iload_n hx hb dX8_tenTo_4 rfl (lv_at hl 0 rfl) ?_
      refine lv_iload_n hx hb dX8_tenTo_5 rfl (lv_at hl 2 rfl) ?_
      refine lv_icmp_ge (tgt := 21) hx hb dX8_tenTo_6 (by decide) (fun c3 => ?_) (fun c3 => ?_)
      · replace hF := (if_pos c3).symm.trans hF
        obtain rfl := Option.some.inj hF
        obtain rfl := hw
        exact hE _ rfl ls (lv_sub hl [1] rfl)
      · replace hF := (if_neg c3).symm.trans hF
        refine lv_lload_n hx hb dX8_tenTo_9 rfl (lv_at hl 1 rfl) ?_
        refine lv_ldc2 (v := (10 : Int64)) hx hb hown (hts _ kl_X8_277) dX8_tenTo_10 ?_
        refine lv_lmul hx hb dX8_tenTo_13 ?_
        refine lv_lstore_n (lv' := [(1, .long (x1 * (10 : Int64))), (3, .int x2), (0, .int p1)]) hx hb dX8_tenTo_14 rfl hl (by decide) rfl (fun ls hl => ?_)
        refine lv_iinc (v := x2 + (1 : Int32)) (lv' := [(3, .int (x2 + (1 : Int32))), (1, .long (x1 * (10 : Int64))), (0, .int p1)]) hx hb dX8_tenTo_15 hl (k := 1) rfl rfl (by decide) rfl (fun ls hl => ?_)
        refine lv_goto (tgt := 4) hx hb dX8_tenTo_18 (by decide) ?_
        obtain rfl := Option.some.inj hF
        exact ih _ _ _ hw ls (lv_sub hl [0, 1, 2] rfl) hE
  obtain ⟨o4, ho4, hF⟩ := bd_some hF
  refine hL4 fu (1 : Int64) (0 : Int32) o4 ho4 ls (lv_sub hl [0, 1, 2] rfl) ?_
  intro _ q_o4 ls hl
  subst q_o4
  refine lv_lload_n hx hb dX8_tenTo_21 rfl (lv_at hl 0 rfl) ?_
  obtain rfl := Option.some.inj hF
  rw [hQ]
  exact rt_l X dX8_tenTo_22
def FX8_commonDivisor_S9 (x1 : Int64) (x2 : Int64) (x3 : Int32) : Option ((Int64 × Int64 × Int32) ⊕ (Int64)) :=
  if (100 : Int32) ≤ x3 then (some (.inr x1)) else (if x2 = (0 : Int64) then (some (.inr x1)) else (if x2 = 0 then none else some (.inl (x2, x1 - x1 / x2 * x2, x3 + (1 : Int32)))))
def FX8_commonDivisor (p1 : Int64) (p2 : Int64) : Option (Int64) :=
  (itr (fun v => FX8_commonDivisor_S9 v.1 v.2.1 v.2.2) fu (p1, p2, (0 : Int32))).bind fun o7 => some o7
def rm_X8_commonDivisor : Room := { frames := 0, cells := 0, slots := 0, locals := 0 }
set_option maxHeartbeats 4000000 in
set_option maxRecDepth 100000 in
theorem c_X8_commonDivisor (l : Launch) (D : va_G) (cI cJ cZ : ClassId) (a : Nat → Nat) (ws0 : va_W)   (p1 : Int64) (p2 : Int64) (u : Int64) (hF : FX8_commonDivisor p1 p2 = some u) : Met l yX8_commonDivisor (wq yX8_commonDivisor cX8_commonDivisor 11 (some .long)) rm_X8_commonDivisor (Pq [.long p1, .long p2] D cI cJ cZ ws0) (Qq (some (.long u))) 0 0 (fun _ => False) := by
  refine mq_of (by decide) (Nat.le_of_ble_eq_true rfl) (fun p e s m args below meth c ls Q hQ X _ hP hl => ?_)
  obtain ⟨hx, hb, hr, hml, hown, hts, hlk, hK, hN⟩ := id X
  have hown : s.vm.findClass RX8 = some m.cls := hown
  have hl : lv_has ls 11 [(0, .long p1), (2, .long p2)] := hl
  unfold FX8_commonDivisor at hF
  refine lv_lload_n hx hb dX8_commonDivisor_0 rfl (lv_at hl 0 rfl) ?_
  refine lv_lstore (lv' := [(4, .long p1), (0, .long p1), (2, .long p2)]) hx hb dX8_commonDivisor_1 hl (by decide) rfl (fun ls hl => ?_)
  refine lv_lload_n hx hb dX8_commonDivisor_3 rfl (lv_at hl 2 rfl) ?_
  refine lv_lstore (lv' := [(6, .long p2), (4, .long p1), (0, .long p1), (2, .long p2)]) hx hb dX8_commonDivisor_4 hl (by decide) rfl (fun ls hl => ?_)
  refine lv_iconst (v := (0 : Int32)) hx hb dX8_commonDivisor_6 (by decide) ?_
  refine lv_istore (lv' := [(8, .int (0 : Int32)), (6, .long p2), (4, .long p1), (0, .long p1), (2, .long p2)]) hx hb dX8_commonDivisor_7 hl (by decide) rfl (fun ls hl => ?_)
  have hL9 : ∀ (nf : Nat) (x1 : Int64) (x2 : Int64) (x3 : Int32) (r : Int64), itr (fun v => FX8_commonDivisor_S9 v.1 v.2.1 v.2.2) nf (x1, x2, x3) = some r → ∀ ls, lv_has ls 11 [(8, .int x3), (6, .long x2), (4, .long x1)] → (∀ o : Int64, r = o → ∀ ls, lv_has ls 11 [(4, .long o)] → W p l e rm_X8_commonDivisor s m args below meth c s.heap [] 0 0 Q (F0 m 44 ls [])) → W p l e rm_X8_commonDivisor s m args below meth c s.heap [] 0 0 Q (F0 m 9 ls []) := by
    intro nf
    induction nf with
    | zero => intro _ _ _ r hF; exact (itr_0 hF).elim
    | succ nf ih =>
      intro x1 x2 x3 r hF ls hl hE
      obtain ⟨wo, hF, hw⟩ := itr_s hF
      replace hF : FX8_commonDivisor_S9 x1 x2 x3 = some wo := hF
      unfold FX8_commonDivisor_S9 at hF
      refine lv_iload hx hb dX8_commonDivisor_9 (lv_at hl 0 rfl) ?_
      refine lv_bipush (v := (100 : Int32)) hx hb dX8_commonDivisor_11 (by decide) ?_
      refine lv_icmp_ge (tgt := 44) hx hb dX8_commonDivisor_13 (by decide) (fun c4 => ?_) (fun c4 => ?_)
      · replace hF := (if_pos c4).symm.trans hF
        obtain rfl := Option.some.inj hF
        obtain rfl := hw
        exact hE _ rfl ls (lv_sub hl [2] rfl)
      · replace hF := (if_neg c4).symm.trans hF
        refine lv_lload hx hb dX8_commonDivisor_16 (lv_at hl 1 rfl) ?_
        refine lv_lconst (v := (0 : Int64)) hx hb dX8_commonDivisor_18 (by decide) ?_
        refine W.lcmp hx hb dX8_commonDivisor_19 ?_
        refine lv_if_eq (tgt := 44) hx hb dX8_commonDivisor_20 (by decide) (fun c5 => ?_) (fun c5 => ?_)
        · replace c5 := (lc_eq x2 (0 : Int64)).mp c5
          replace hF := (if_pos c5).symm.trans hF
          obtain rfl := Option.some.inj hF
          obtain rfl := hw
          exact hE _ rfl ls (lv_sub hl [2] rfl)
        · replace c5 := fun q => c5 ((lc_eq x2 (0 : Int64)).mpr q)
          replace hF := (if_neg c5).symm.trans hF
          refine lv_lload hx hb dX8_commonDivisor_23 (lv_at hl 2 rfl) ?_
          refine lv_lload hx hb dX8_commonDivisor_25 (lv_at hl 1 rfl) ?_
          obtain ⟨hg6, hF⟩ := gd_some hF
          refine lv_lrem hx hb dX8_commonDivisor_27 hg6 ?_
          refine lv_lstore (lv' := [(9, .long (x1 - x1 / x2 * x2)), (8, .int x3), (6, .long x2), (4, .long x1)]) hx hb dX8_commonDivisor_28 hl (by decide) rfl (fun ls hl => ?_)
          refine lv_lload hx hb dX8_commonDivisor_30 (lv_at hl 2 rfl) ?_
          refine lv_lstore (lv' := [(4, .long x2), (9, .long (x1 - x1 / x2 * x2)), (8, .int x3), (6, .long x2)]) hx hb dX8_commonDivisor_32 hl (by decide) rfl (fun ls hl => ?_)
          refine lv_lload hx hb dX8_commonDivisor_34 (lv_at hl 1 rfl) ?_
          refine lv_lstore (lv' := [(6, .long (x1 - x1 / x2 * x2)), (4, .long x2), (9, .long (x1 - x1 / x2 * x2)), (8, .int x3)]) hx hb dX8_commonDivisor_36 hl (by decide) rfl (fun ls hl => ?_)
          refine lv_iinc (v := x3 + (1 : Int32)) (lv' := [(8, .int (x3 + (1 : Int32))), (6, .long (x1 - x1 / x2 * x2)), (4, .long x2), (9, .long (x1 - x1 / x2 * x2))]) hx hb dX8_commonDivisor_38 hl (k := 3) rfl rfl (by decide) rfl (fun ls hl => ?_)
          refine lv_goto (tgt := 9) hx hb dX8_commonDivisor_41 (by decide) ?_
          obtain rfl := Option.some.inj hF
          exact ih _ _ _ _ hw ls (lv_sub hl [0, 1, 2] rfl) hE
  obtain ⟨o7, ho7, hF⟩ := bd_some hF
  refine hL9 fu p1 p2 (0 : Int32) o7 ho7 ls (lv_sub hl [0, 1, 2] rfl) ?_
  intro _ q_o7 ls hl
  subst q_o7
  refine lv_lload hx hb dX8_commonDivisor_44 (lv_at hl 0 rfl) ?_
  obtain rfl := Option.some.inj hF
  rw [hQ]
  exact rt_l X dX8_commonDivisor_46
def FX8_fraction (p1 : Int64) (p2 : Int64) (p3 : Int32) : Option (Int64) :=
  (FX8_commonDivisor p1 p2).bind fun x1 => if (1 : Int64) ≤ x1 then (if p3 = 0 then (if x1 = 0 then none else some (p2 / x1)) else (if x1 = 0 then none else some (p1 / x1))) else (if p3 = 0 then (some (1 : Int64)) else (some (0 : Int64)))
def rm_X8_fraction : Room := { frames := 1, cells := 0, slots := 0, locals := 30 }
set_option maxHeartbeats 4000000 in
set_option maxRecDepth 100000 in
theorem c_X8_fraction (l : Launch) (D : va_G) (cI cJ cZ : ClassId) (a : Nat → Nat) (ws0 : va_W)   (p1 : Int64) (p2 : Int64) (p3 : Int32) (u : Int64) (hF : FX8_fraction p1 p2 p3 = some u) : Met l yX8_fraction (wq yX8_fraction cX8_fraction 7 (some .long)) rm_X8_fraction (Pq [.long p1, .long p2, .int p3] D cI cJ cZ ws0) (Qq (some (.long u))) 0 0 (fun _ => False) := by
  refine mq_of (by decide) (Nat.le_of_ble_eq_true rfl) (fun p e s m args below meth c ls Q hQ X _ hP hl => ?_)
  obtain ⟨hx, hb, hr, hml, hown, hts, hlk, hK, hN⟩ := id X
  have hown : s.vm.findClass RX8 = some m.cls := hown
  have hl : lv_has ls 7 [(0, .long p1), (2, .long p2), (4, .int p3)] := hl
  unfold FX8_fraction at hF
  refine lv_lload_n hx hb dX8_fraction_0 rfl (lv_at hl 0 rfl) ?_
  refine lv_lload_n hx hb dX8_fraction_1 rfl (lv_at hl 1 rfl) ?_
  obtain ⟨x1, hx1, hF⟩ := bd_some hF
  refine rd_l (runS (As := [.long p1, .long p2]) (rest := []) X cq_X8_commonDivisor lk_X8_273 (c_X8_commonDivisor l D cI cJ cZ a ws0 p1 p2 x1 hx1 ) rfl rfl ⟨Nat.le_of_ble_eq_true rfl, Nat.le_of_ble_eq_true rfl⟩ hP rfl hl.1 rfl (Nat.le_of_ble_eq_true rfl) dX8_fraction_2 ⟨Nat.le_of_ble_eq_true rfl, Nat.le_of_ble_eq_true rfl⟩) ?_
  refine lv_lstore (lv' := [(5, .long x1), (0, .long p1), (2, .long p2), (4, .int p3)]) hx hb dX8_fraction_5 hl (by decide) rfl (fun ls hl => ?_)
  refine lv_lload hx hb dX8_fraction_7 (lv_at hl 0 rfl) ?_
  refine lv_lconst (v := (1 : Int64)) hx hb dX8_fraction_9 (by decide) ?_
  refine W.lcmp hx hb dX8_fraction_10 ?_
  refine lv_if_ge (tgt := 25) hx hb dX8_fraction_11 (by decide) (fun c2 => ?_) (fun c2 => ?_)
  · replace c2 := (lc_ge x1 (1 : Int64)).mp c2
    replace hF := (if_pos c2).symm.trans hF
    refine lv_iload hx hb dX8_fraction_25 (lv_at hl 3 rfl) ?_
    refine lv_if_eq (tgt := 34) hx hb dX8_fraction_27 (by decide) (fun c3 => ?_) (fun c3 => ?_)
    · replace hF := (if_pos c3).symm.trans hF
      refine lv_lload_n hx hb dX8_fraction_34 rfl (lv_at hl 2 rfl) ?_
      refine lv_lload hx hb dX8_fraction_35 (lv_at hl 0 rfl) ?_
      obtain ⟨hg4, hF⟩ := gd_some hF
      refine lv_ldiv hx hb dX8_fraction_37 hg4 ?_
      obtain rfl := Option.some.inj hF
      rw [hQ]
      exact rt_l X dX8_fraction_38
    · replace hF := (if_neg c3).symm.trans hF
      refine lv_lload_n hx hb dX8_fraction_30 rfl (lv_at hl 1 rfl) ?_
      refine lv_goto (tgt := 35) hx hb dX8_fraction_31 (by decide) ?_
      refine lv_lload hx hb dX8_fraction_35 (lv_at hl 0 rfl) ?_
      obtain ⟨hg5, hF⟩ := gd_some hF
      refine lv_ldiv hx hb dX8_fraction_37 hg5 ?_
      obtain rfl := Option.some.inj hF
      rw [hQ]
      exact rt_l X dX8_fraction_38
  · replace c2 := fun q => c2 ((lc_ge x1 (1 : Int64)).mpr q)
    replace hF := (if_neg c2).symm.trans hF
    refine lv_iload hx hb dX8_fraction_14 (lv_at hl 3 rfl) ?_
    refine lv_if_eq (tgt := 23) hx hb dX8_fraction_16 (by decide) (fun c6 => ?_) (fun c6 => ?_)
    · replace hF := (if_pos c6).symm.trans hF
      refine lv_lconst (v := (1 : Int64)) hx hb dX8_fraction_23 (by decide) ?_
      obtain rfl := Option.some.inj hF
      rw [hQ]
      exact rt_l X dX8_fraction_24
    · replace hF := (if_neg c6).symm.trans hF
      refine lv_lconst (v := (0 : Int64)) hx hb dX8_fraction_19 (by decide) ?_
      refine lv_goto (tgt := 24) hx hb dX8_fraction_20 (by decide) ?_
      obtain rfl := Option.some.inj hF
      rw [hQ]
      exact rt_l X dX8_fraction_24
def FX8_hands (ro_pupils : Int32) (ro_mood : Int32) (ro_letters : Nat → Int32) (ro_tenths : Nat → Int32) (ro_needs : Nat → Int32) (le_dares : Nat → Int32) (ha_cells : Nat → Int64) (p1 : Int32) (p2 : Int32) (p3 : Int32) : Option (Int64 × (Nat → Int64)) :=
  if (FX8_noSeconds p1) = true then (some ((-2 : Int64), ha_cells)) else (if (FX8_outside p2 (0 : Int32) (12 : Int32)) = true then (some ((-2 : Int64), ha_cells)) else ((FX1_look ha_cells ro_pupils ro_mood ro_tenths ro_letters ro_needs le_dares p1).bind fun u3 => (FX4_allOf u3 p2).bind fun x5 => (FX8_tenTo ro_pupils).bind fun x6 => (FX8_fraction x5 x6 p3).bind fun x7 => some (x7, u3)))
def rm_X8_hands : Room := { frames := 4, cells := 0, slots := 0, locals := 93 }
set_option maxHeartbeats 4000000 in
set_option maxRecDepth 100000 in
theorem c_X8_hands (l : Launch) (D : va_G) (cI cJ cZ : ClassId) (a : Nat → Nat) (ws0 : va_W) (A : Nat → Prop)  (ro_pupils : Int32) (ro_mood : Int32) (ro_letters : Nat → Int32) (ro_tenths : Nat → Int32) (ro_needs : Nat → Int32) (le_seed : Int64) (le_questions : Int32) (le_rightOnes : Int32) (le_wrongOnes : Int32) (le_isKept : Int32) (le_dares : Nat → Int32) (ha_cells : Nat → Int64) (p1 : Int32) (p2 : Int32) (p3 : Int32) (u : Int64 × (Nat → Int64)) (hF : FX8_hands ro_pupils ro_mood ro_letters ro_tenths ro_needs le_dares ha_cells p1 p2 p3 = some u) (z0 : ws0[0]? = some (a 0, .inr (8, [.ref (a 1), .ref (a 3), .ref (a 13), .ref (a 16), .ref (a 22), .ref (a 25), .ref (a 28), .ref (a 33)]))) (z3 : ws0[3]? = some (a 3, .inr (3, [.ref (a 4), .ref (a 5), .ref (a 6), .ref (a 7), .ref (a 8), .ref (a 9), .ref (a 10), .int ro_pupils, .int ro_mood]))) (z4 : ws0[4]? = some (a 4, .inl (cI, 12, .inl ro_letters))) (z7 : ws0[7]? = some (a 7, .inl (cI, 12, .inl ro_tenths))) (z8 : ws0[8]? = some (a 8, .inl (cI, 12, .inl ro_needs))) (z10 : ws0[10]? = some (a 10, .inr (2, [.ref (a 11), .ref (a 12), .long le_seed, .int le_questions, .int le_rightOnes, .int le_wrongOnes, .int le_isKept]))) (z11 : ws0[11]? = some (a 11, .inl (cI, 12, .inl le_dares))) (z13 : ws0[13]? = some (a 13, .inr (1, [.ref (a 14)]))) (z14 : ws0[14]? = some (a 14, .inr (4, [.ref (a 15)]))) (z15 : ws0[15]? = some (a 15, .inl (cJ, 169, .inr (.inl ha_cells)))) (hD : va_D A ws0) : Met l yX8_hands (wq yX8_hands cX8_hands 4 (some .long)) rm_X8_hands (Pq [.ref (a 0), .int p1, .int p2, .int p3] D cI cJ cZ ws0) (Qw D A ws0 [15] (some (.long u.1)) (fun w => w[15]? = some (a 15, .inl (cJ, 169, .inr (.inl u.2))))) 0 0 A := by
  refine mq_of (by decide) (Nat.le_of_ble_eq_true rfl) (fun p e s m args below meth c ls Q hQ X _ hP hl => ?_)
  obtain ⟨hx, hb, hr, hml, hown, hts, hlk, hK, hN⟩ := id X
  have hown : s.vm.findClass RX8 = some m.cls := hown
  have hl : lv_has ls 4 [(0, .ref (a 0)), (1, .int p1), (2, .int p2), (3, .int p3)] := hl
  have hS : va_S A s.heap s.heap [] := va_S.rf
  have hs : ∀ j : Nat, j ∉ [15] → ws0[j]? = ws0[j]? := fun _ _ => rfl
  have h0 := z0
  have h3 := z3
  have h4 := z4
  have h7 := z7
  have h8 := z8
  have h10 := z10
  have h11 := z11
  have h13 := z13
  have h14 := z14
  have h15 := z15
  unfold FX8_hands at hF
  refine lv_iload_n hx hb dX8_hands_0 rfl (lv_at hl 1 rfl) ?_
  refine rd_i (runS (As := [.int p1]) (rest := []) X cq_X8_noSeconds lk_X8_99 (c_X8_noSeconds l D cI cJ cZ a ws0 p1 _ rfl ) rfl rfl ⟨Nat.le_of_ble_eq_true rfl, Nat.le_of_ble_eq_true rfl⟩ hP rfl hl.1 rfl (Nat.le_of_ble_eq_true rfl) dX8_hands_1 ⟨Nat.le_of_ble_eq_true rfl, Nat.le_of_ble_eq_true rfl⟩) ?_
  refine zf_ne (tgt := 17) hx hb dX8_hands_4 (by decide) (fun c1 => ?_) (fun c1 => ?_)
  · replace hF := (if_pos c1).symm.trans hF
    refine lv_ldc2 (v := (-2 : Int64)) hx hb hown (hts _ kl_X8_112) dX8_hands_17 ?_
    obtain rfl := Option.some.inj hF
    rw [hQ]
    exact rw_l X hS hP hD hs h15 dX8_hands_20
  · replace hF := (if_neg c1).symm.trans hF
    refine lv_iload_n hx hb dX8_hands_7 rfl (lv_at hl 2 rfl) ?_
    refine lv_iconst (v := (0 : Int32)) hx hb dX8_hands_8 (by decide) ?_
    refine lv_bipush (v := (12 : Int32)) hx hb dX8_hands_9 (by decide) ?_
    refine rd_i (runS (As := [.int p2, .int (0 : Int32), .int (12 : Int32)]) (rest := []) X cq_X8_outside lk_X8_61 (c_X8_outside l D cI cJ cZ a ws0 p2 (0 : Int32) (12 : Int32) _ rfl ) rfl rfl ⟨Nat.le_of_ble_eq_true rfl, Nat.le_of_ble_eq_true rfl⟩ hP rfl hl.1 rfl (Nat.le_of_ble_eq_true rfl) dX8_hands_11 ⟨Nat.le_of_ble_eq_true rfl, Nat.le_of_ble_eq_true rfl⟩) ?_
    refine zf_eq (tgt := 21) hx hb dX8_hands_14 (by decide) (fun c2 => ?_) (fun c2 => ?_)
    · replace hF := (if_neg c2).symm.trans hF
      refine lv_aload_n hx hb dX8_hands_21 rfl (lv_at hl 0 rfl) ?_
      refine gf_X8_26 hx hb hts hown hK hP h0 dX8_hands_22 ?_
      refine lv_aload_n hx hb dX8_hands_25 rfl (lv_at hl 0 rfl) ?_
      refine gf_X8_19 hx hb hts hown hK hP h0 dX8_hands_26 ?_
      refine lv_iload_n hx hb dX8_hands_29 rfl (lv_at hl 1 rfl) ?_
      obtain ⟨u3, hu3, hF⟩ := bd_some hF
      refine wr_v (runVN (As := [.ref (a 3), .int p1]) (rest := []) X cq_X1_look lk_X8_114 (c_X1_look l D cI cJ cZ a ws0 A ha_cells ro_pupils ro_mood ro_tenths ro_letters ro_needs le_seed le_questions le_rightOnes le_wrongOnes le_isKept le_dares p1 u3 hu3 h3 h4 h7 h8 h10 h11 h13 h14 h15 hD) rfl rfl ⟨Nat.le_of_ble_eq_true rfl, Nat.le_of_ble_eq_true rfl⟩ hP h13 rfl rfl hl.1 rfl (Nat.le_of_ble_eq_true rfl) dX8_hands_30 ⟨Nat.le_of_ble_eq_true rfl, Nat.le_of_ble_eq_true rfl⟩) hS (fun w4 H locs hP hD hk hB hS => ?_)
      have h15 : w4[15]? = some (a 15, .inl (cJ, 169, .inr (.inl u3))) := hB
      have h0 := (hk 0 (by simp only [List.mem_cons, List.not_mem_nil, or_false, not_or]; omega)).trans h0
      have h3 := (hk 3 (by simp only [List.mem_cons, List.not_mem_nil, or_false, not_or]; omega)).trans h3
      have h4 := (hk 4 (by simp only [List.mem_cons, List.not_mem_nil, or_false, not_or]; omega)).trans h4
      have h7 := (hk 7 (by simp only [List.mem_cons, List.not_mem_nil, or_false, not_or]; omega)).trans h7
      have h8 := (hk 8 (by simp only [List.mem_cons, List.not_mem_nil, or_false, not_or]; omega)).trans h8
      have h10 := (hk 10 (by simp only [List.mem_cons, List.not_mem_nil, or_false, not_or]; omega)).trans h10
      have h11 := (hk 11 (by simp only [List.mem_cons, List.not_mem_nil, or_false, not_or]; omega)).trans h11
      have h13 := (hk 13 (by simp only [List.mem_cons, List.not_mem_nil, or_false, not_or]; omega)).trans h13
      have h14 := (hk 14 (by simp only [List.mem_cons, List.not_mem_nil, or_false, not_or]; omega)).trans h14
      replace hs := st_tr hk (fun j hj => by simp only [List.mem_cons, List.not_mem_nil, or_false] at hj ⊢; omega) hs
      refine lv_aload_n hx hb dX8_hands_33 rfl (lv_at hl 0 rfl) ?_
      refine gf_X8_26 hx hb hts hown hK hP h0 dX8_hands_34 ?_
      refine gf_X8_118 hx hb hts hown hK hN hP h13 dX8_hands_37 ?_
      refine lv_iload_n hx hb dX8_hands_40 rfl (lv_at hl 2 rfl) ?_
      obtain ⟨x5, hx5, hF⟩ := bd_some hF
      refine rd_l (runVN (As := [.int p2]) (rest := []) X cq_X4_allOf lk_X8_122 (c_X4_allOf l D cI cJ cZ a w4 14 u3 p2 x5 hx5 h14 h15) rfl rfl ⟨Nat.le_of_ble_eq_true rfl, Nat.le_of_ble_eq_true rfl⟩ hP h14 rfl rfl hl.1 rfl (Nat.le_of_ble_eq_true rfl) dX8_hands_41 ⟨Nat.le_of_ble_eq_true rfl, Nat.le_of_ble_eq_true rfl⟩) ?_
      refine lv_aload_n hx hb dX8_hands_44 rfl (lv_at hl 0 rfl) ?_
      refine gf_X8_19 hx hb hts hown hK hP h0 dX8_hands_45 ?_
      refine gf_X8_84 hx hb hts hown hK hN hP h3 dX8_hands_48 ?_
      obtain ⟨x6, hx6, hF⟩ := bd_some hF
      refine rd_l (runS (As := [.int ro_pupils]) (rest := [.long x5]) X cq_X8_tenTo lk_X8_128 (c_X8_tenTo l D cI cJ cZ a w4 ro_pupils x6 hx6 ) rfl rfl ⟨Nat.le_of_ble_eq_true rfl, Nat.le_of_ble_eq_true rfl⟩ hP rfl hl.1 rfl (Nat.le_of_ble_eq_true rfl) dX8_hands_51 ⟨Nat.le_of_ble_eq_true rfl, Nat.le_of_ble_eq_true rfl⟩) ?_
      refine lv_iload_n hx hb dX8_hands_54 rfl (lv_at hl 3 rfl) ?_
      obtain ⟨x7, hx7, hF⟩ := bd_some hF
      refine rd_l (runS (As := [.long x5, .long x6, .int p3]) (rest := []) X cq_X8_fraction lk_X8_131 (c_X8_fraction l D cI cJ cZ a w4 x5 x6 p3 x7 hx7 ) rfl rfl ⟨Nat.le_of_ble_eq_true rfl, Nat.le_of_ble_eq_true rfl⟩ hP rfl hl.1 rfl (Nat.le_of_ble_eq_true rfl) dX8_hands_55 ⟨Nat.le_of_ble_eq_true rfl, Nat.le_of_ble_eq_true rfl⟩) ?_
      obtain rfl := Option.some.inj hF
      rw [hQ]
      exact rw_l X hS hP hD hs h15 dX8_hands_58
    · replace hF := (if_pos c2).symm.trans hF
      refine lv_ldc2 (v := (-2 : Int64)) hx hb hown (hts _ kl_X8_112) dX8_hands_17 ?_
      obtain rfl := Option.some.inj hF
      rw [hQ]
      exact rw_l X hS hP hD hs h15 dX8_hands_20
def FX8_given (ro_pupils : Int32) (ro_mood : Int32) (ro_letters : Nat → Int32) (ro_tenths : Nat → Int32) (ro_needs : Nat → Int32) (le_dares : Nat → Int32) (ha_cells : Nat → Int64) (p1 : Int32) (p2 : Int32) (p3 : Int32) (p4 : Int32) : Option (Int64 × (Nat → Int64)) :=
  if (FX8_noSeconds p1) = true then (some ((-2 : Int64), ha_cells)) else (if (FX8_outside p2 (0 : Int32) (12 : Int32)) = true then (some ((-2 : Int64), ha_cells)) else (if (FX8_outside p3 (0 : Int32) (12 : Int32)) = true then (some ((-2 : Int64), ha_cells)) else ((FX1_look ha_cells ro_pupils ro_mood ro_tenths ro_letters ro_needs le_dares p1).bind fun u4 => (FX4_allOf u4 p2).bind fun x6 => if (1 : Int64) ≤ x6 then ((FX8_fraction (gget u4 p2 p3) x6 p4).bind fun x8 => some (x8, u4)) else (some ((-3 : Int64), u4)))))
def rm_X8_given : Room := { frames := 4, cells := 0, slots := 0, locals := 93 }
set_option maxHeartbeats 4000000 in
set_option maxRecDepth 100000 in
theorem c_X8_given (l : Launch) (D : va_G) (cI cJ cZ : ClassId) (a : Nat → Nat) (ws0 : va_W) (A : Nat → Prop)  (ro_pupils : Int32) (ro_mood : Int32) (ro_letters : Nat → Int32) (ro_tenths : Nat → Int32) (ro_needs : Nat → Int32) (le_seed : Int64) (le_questions : Int32) (le_rightOnes : Int32) (le_wrongOnes : Int32) (le_isKept : Int32) (le_dares : Nat → Int32) (ha_cells : Nat → Int64) (p1 : Int32) (p2 : Int32) (p3 : Int32) (p4 : Int32) (u : Int64 × (Nat → Int64)) (hF : FX8_given ro_pupils ro_mood ro_letters ro_tenths ro_needs le_dares ha_cells p1 p2 p3 p4 = some u) (z0 : ws0[0]? = some (a 0, .inr (8, [.ref (a 1), .ref (a 3), .ref (a 13), .ref (a 16), .ref (a 22), .ref (a 25), .ref (a 28), .ref (a 33)]))) (z3 : ws0[3]? = some (a 3, .inr (3, [.ref (a 4), .ref (a 5), .ref (a 6), .ref (a 7), .ref (a 8), .ref (a 9), .ref (a 10), .int ro_pupils, .int ro_mood]))) (z4 : ws0[4]? = some (a 4, .inl (cI, 12, .inl ro_letters))) (z7 : ws0[7]? = some (a 7, .inl (cI, 12, .inl ro_tenths))) (z8 : ws0[8]? = some (a 8, .inl (cI, 12, .inl ro_needs))) (z10 : ws0[10]? = some (a 10, .inr (2, [.ref (a 11), .ref (a 12), .long le_seed, .int le_questions, .int le_rightOnes, .int le_wrongOnes, .int le_isKept]))) (z11 : ws0[11]? = some (a 11, .inl (cI, 12, .inl le_dares))) (z13 : ws0[13]? = some (a 13, .inr (1, [.ref (a 14)]))) (z14 : ws0[14]? = some (a 14, .inr (4, [.ref (a 15)]))) (z15 : ws0[15]? = some (a 15, .inl (cJ, 169, .inr (.inl ha_cells)))) (hD : va_D A ws0) : Met l yX8_given (wq yX8_given cX8_given 7 (some .long)) rm_X8_given (Pq [.ref (a 0), .int p1, .int p2, .int p3, .int p4] D cI cJ cZ ws0) (Qw D A ws0 [15] (some (.long u.1)) (fun w => w[15]? = some (a 15, .inl (cJ, 169, .inr (.inl u.2))))) 0 0 A := by
  refine mq_of (by decide) (Nat.le_of_ble_eq_true rfl) (fun p e s m args below meth c ls Q hQ X _ hP hl => ?_)
  obtain ⟨hx, hb, hr, hml, hown, hts, hlk, hK, hN⟩ := id X
  have hown : s.vm.findClass RX8 = some m.cls := hown
  have hl : lv_has ls 7 [(0, .ref (a 0)), (1, .int p1), (2, .int p2), (3, .int p3), (4, .int p4)] := hl
  have hS : va_S A s.heap s.heap [] := va_S.rf
  have hs : ∀ j : Nat, j ∉ [15] → ws0[j]? = ws0[j]? := fun _ _ => rfl
  have h0 := z0
  have h3 := z3
  have h4 := z4
  have h7 := z7
  have h8 := z8
  have h10 := z10
  have h11 := z11
  have h13 := z13
  have h14 := z14
  have h15 := z15
  unfold FX8_given at hF
  refine lv_iload_n hx hb dX8_given_0 rfl (lv_at hl 1 rfl) ?_
  refine rd_i (runS (As := [.int p1]) (rest := []) X cq_X8_noSeconds lk_X8_99 (c_X8_noSeconds l D cI cJ cZ a ws0 p1 _ rfl ) rfl rfl ⟨Nat.le_of_ble_eq_true rfl, Nat.le_of_ble_eq_true rfl⟩ hP rfl hl.1 rfl (Nat.le_of_ble_eq_true rfl) dX8_given_1 ⟨Nat.le_of_ble_eq_true rfl, Nat.le_of_ble_eq_true rfl⟩) ?_
  refine zf_ne (tgt := 27) hx hb dX8_given_4 (by decide) (fun c1 => ?_) (fun c1 => ?_)
  · replace hF := (if_pos c1).symm.trans hF
    refine lv_ldc2 (v := (-2 : Int64)) hx hb hown (hts _ kl_X8_112) dX8_given_27 ?_
    obtain rfl := Option.some.inj hF
    rw [hQ]
    exact rw_l X hS hP hD hs h15 dX8_given_30
  · replace hF := (if_neg c1).symm.trans hF
    refine lv_iload_n hx hb dX8_given_7 rfl (lv_at hl 2 rfl) ?_
    refine lv_iconst (v := (0 : Int32)) hx hb dX8_given_8 (by decide) ?_
    refine lv_bipush (v := (12 : Int32)) hx hb dX8_given_9 (by decide) ?_
    refine rd_i (runS (As := [.int p2, .int (0 : Int32), .int (12 : Int32)]) (rest := []) X cq_X8_outside lk_X8_61 (c_X8_outside l D cI cJ cZ a ws0 p2 (0 : Int32) (12 : Int32) _ rfl ) rfl rfl ⟨Nat.le_of_ble_eq_true rfl, Nat.le_of_ble_eq_true rfl⟩ hP rfl hl.1 rfl (Nat.le_of_ble_eq_true rfl) dX8_given_11 ⟨Nat.le_of_ble_eq_true rfl, Nat.le_of_ble_eq_true rfl⟩) ?_
    refine zf_ne (tgt := 27) hx hb dX8_given_14 (by decide) (fun c2 => ?_) (fun c2 => ?_)
    · replace hF := (if_pos c2).symm.trans hF
      refine lv_ldc2 (v := (-2 : Int64)) hx hb hown (hts _ kl_X8_112) dX8_given_27 ?_
      obtain rfl := Option.some.inj hF
      rw [hQ]
      exact rw_l X hS hP hD hs h15 dX8_given_30
    · replace hF := (if_neg c2).symm.trans hF
      refine lv_iload_n hx hb dX8_given_17 rfl (lv_at hl 3 rfl) ?_
      refine lv_iconst (v := (0 : Int32)) hx hb dX8_given_18 (by decide) ?_
      refine lv_bipush (v := (12 : Int32)) hx hb dX8_given_19 (by decide) ?_
      refine rd_i (runS (As := [.int p3, .int (0 : Int32), .int (12 : Int32)]) (rest := []) X cq_X8_outside lk_X8_61 (c_X8_outside l D cI cJ cZ a ws0 p3 (0 : Int32) (12 : Int32) _ rfl ) rfl rfl ⟨Nat.le_of_ble_eq_true rfl, Nat.le_of_ble_eq_true rfl⟩ hP rfl hl.1 rfl (Nat.le_of_ble_eq_true rfl) dX8_given_21 ⟨Nat.le_of_ble_eq_true rfl, Nat.le_of_ble_eq_true rfl⟩) ?_
      refine zf_eq (tgt := 31) hx hb dX8_given_24 (by decide) (fun c3 => ?_) (fun c3 => ?_)
      · replace hF := (if_neg c3).symm.trans hF
        refine lv_aload_n hx hb dX8_given_31 rfl (lv_at hl 0 rfl) ?_
        refine gf_X8_26 hx hb hts hown hK hP h0 dX8_given_32 ?_
        refine lv_aload_n hx hb dX8_given_35 rfl (lv_at hl 0 rfl) ?_
        refine gf_X8_19 hx hb hts hown hK hP h0 dX8_given_36 ?_
        refine lv_iload_n hx hb dX8_given_39 rfl (lv_at hl 1 rfl) ?_
        obtain ⟨u4, hu4, hF⟩ := bd_some hF
        refine wr_v (runVN (As := [.ref (a 3), .int p1]) (rest := []) X cq_X1_look lk_X8_114 (c_X1_look l D cI cJ cZ a ws0 A ha_cells ro_pupils ro_mood ro_tenths ro_letters ro_needs le_seed le_questions le_rightOnes le_wrongOnes le_isKept le_dares p1 u4 hu4 h3 h4 h7 h8 h10 h11 h13 h14 h15 hD) rfl rfl ⟨Nat.le_of_ble_eq_true rfl, Nat.le_of_ble_eq_true rfl⟩ hP h13 rfl rfl hl.1 rfl (Nat.le_of_ble_eq_true rfl) dX8_given_40 ⟨Nat.le_of_ble_eq_true rfl, Nat.le_of_ble_eq_true rfl⟩) hS (fun w5 H locs hP hD hk hB hS => ?_)
        have h15 : w5[15]? = some (a 15, .inl (cJ, 169, .inr (.inl u4))) := hB
        have h0 := (hk 0 (by simp only [List.mem_cons, List.not_mem_nil, or_false, not_or]; omega)).trans h0
        have h3 := (hk 3 (by simp only [List.mem_cons, List.not_mem_nil, or_false, not_or]; omega)).trans h3
        have h4 := (hk 4 (by simp only [List.mem_cons, List.not_mem_nil, or_false, not_or]; omega)).trans h4
        have h7 := (hk 7 (by simp only [List.mem_cons, List.not_mem_nil, or_false, not_or]; omega)).trans h7
        have h8 := (hk 8 (by simp only [List.mem_cons, List.not_mem_nil, or_false, not_or]; omega)).trans h8
        have h10 := (hk 10 (by simp only [List.mem_cons, List.not_mem_nil, or_false, not_or]; omega)).trans h10
        have h11 := (hk 11 (by simp only [List.mem_cons, List.not_mem_nil, or_false, not_or]; omega)).trans h11
        have h13 := (hk 13 (by simp only [List.mem_cons, List.not_mem_nil, or_false, not_or]; omega)).trans h13
        have h14 := (hk 14 (by simp only [List.mem_cons, List.not_mem_nil, or_false, not_or]; omega)).trans h14
        replace hs := st_tr hk (fun j hj => by simp only [List.mem_cons, List.not_mem_nil, or_false] at hj ⊢; omega) hs
        refine lv_aload_n hx hb dX8_given_43 rfl (lv_at hl 0 rfl) ?_
        refine gf_X8_26 hx hb hts hown hK hP h0 dX8_given_44 ?_
        refine gf_X8_118 hx hb hts hown hK hN hP h13 dX8_given_47 ?_
        refine lv_iload_n hx hb dX8_given_50 rfl (lv_at hl 2 rfl) ?_
        obtain ⟨x6, hx6, hF⟩ := bd_some hF
        refine rd_l (runVN (As := [.int p2]) (rest := []) X cq_X4_allOf lk_X8_122 (c_X4_allOf l D cI cJ cZ a w5 14 u4 p2 x6 hx6 h14 h15) rfl rfl ⟨Nat.le_of_ble_eq_true rfl, Nat.le_of_ble_eq_true rfl⟩ hP h14 rfl rfl hl.1 rfl (Nat.le_of_ble_eq_true rfl) dX8_given_51 ⟨Nat.le_of_ble_eq_true rfl, Nat.le_of_ble_eq_true rfl⟩) ?_
        refine lv_lstore (lv' := [(5, .long x6), (0, .ref (a 0)), (1, .int p1), (2, .int p2), (3, .int p3), (4, .int p4)]) hx hb dX8_given_54 hl (by decide) rfl (fun ls hl => ?_)
        refine lv_lload hx hb dX8_given_56 (lv_at hl 0 rfl) ?_
        refine lv_lconst (v := (1 : Int64)) hx hb dX8_given_58 (by decide) ?_
        refine W.lcmp hx hb dX8_given_59 ?_
        refine lv_if_ge (tgt := 69) hx hb dX8_given_60 (by decide) (fun c7 => ?_) (fun c7 => ?_)
        · replace c7 := (lc_ge x6 (1 : Int64)).mp c7
          replace hF := (if_pos c7).symm.trans hF
          refine lv_aload_n hx hb dX8_given_69 rfl (lv_at hl 1 rfl) ?_
          refine gf_X8_26 hx hb hts hown hK hP h0 dX8_given_70 ?_
          refine gf_X8_118 hx hb hts hown hK hN hP h13 dX8_given_73 ?_
          refine lv_iload_n hx hb dX8_given_76 rfl (lv_at hl 3 rfl) ?_
          refine lv_iload_n hx hb dX8_given_77 rfl (lv_at hl 4 rfl) ?_
          refine rd_l (runVN (As := [.int p2, .int p3]) (rest := []) X cq_X4_get lk_X8_137 (t_X4_get l D cI cJ cZ a w5 14 u4 p2 p3 _ rfl h14 h15) rfl rfl ⟨Nat.le_of_ble_eq_true rfl, Nat.le_of_ble_eq_true rfl⟩ hP h14 rfl rfl hl.1 rfl (Nat.le_of_ble_eq_true rfl) dX8_given_78 ⟨Nat.le_of_ble_eq_true rfl, Nat.le_of_ble_eq_true rfl⟩) ?_
          refine lv_lload hx hb dX8_given_81 (lv_at hl 0 rfl) ?_
          refine lv_iload hx hb dX8_given_83 (lv_at hl 5 rfl) ?_
          obtain ⟨x8, hx8, hF⟩ := bd_some hF
          refine rd_l (runS (As := [.long (gget u4 p2 p3), .long x6, .int p4]) (rest := []) X cq_X8_fraction lk_X8_131 (c_X8_fraction l D cI cJ cZ a w5 (gget u4 p2 p3) x6 p4 x8 hx8 ) rfl rfl ⟨Nat.le_of_ble_eq_true rfl, Nat.le_of_ble_eq_true rfl⟩ hP rfl hl.1 rfl (Nat.le_of_ble_eq_true rfl) dX8_given_85 ⟨Nat.le_of_ble_eq_true rfl, Nat.le_of_ble_eq_true rfl⟩) ?_
          obtain rfl := Option.some.inj hF
          rw [hQ]
          exact rw_l X hS hP hD hs h15 dX8_given_88
        · replace c7 := fun q => c7 ((lc_ge x6 (1 : Int64)).mpr q)
          replace hF := (if_neg c7).symm.trans hF
          refine lv_ldc2 (v := (-3 : Int64)) hx hb hown (hts _ kl_X8_135) dX8_given_63 ?_
          refine lv_goto (tgt := 88) hx hb dX8_given_66 (by decide) ?_
          obtain rfl := Option.some.inj hF
          rw [hQ]
          exact rw_l X hS hP hD hs h15 dX8_given_88
      · replace hF := (if_pos c3).symm.trans hF
        refine lv_ldc2 (v := (-2 : Int64)) hx hb hown (hts _ kl_X8_112) dX8_given_27 ?_
        obtain rfl := Option.some.inj hF
        rw [hQ]
        exact rw_l X hS hP hD hs h15 dX8_given_30
def FX1_likeliestKnowing_S4 (ha_cells : Nat → Int64) (p1 : Int32) (x1 : Int32) (x2 : Int32) : Option ((Int32 × Int32) ⊕ (Int32)) :=
  if (12 : Int32) < x2 then (some (.inr x1)) else (if (gget ha_cells p1 x2) ≤ (gget ha_cells p1 x1) then (some (.inl (x1, x2 + (1 : Int32)))) else (some (.inl (x2, x2 + (1 : Int32)))))
def FX1_likeliestKnowing (ha_cells : Nat → Int64) (p1 : Int32) : Option (Int32) :=
  (itr (fun v => FX1_likeliestKnowing_S4 ha_cells p1 v.1 v.2) fu ((0 : Int32), (1 : Int32))).bind fun o5 => some o5
def rm_X1_likeliestKnowing : Room := { frames := 1, cells := 0, slots := 0, locals := 22 }
set_option maxHeartbeats 4000000 in
set_option maxRecDepth 100000 in
theorem c_X1_likeliestKnowing (l : Launch) (D : va_G) (cI cJ cZ : ClassId) (a : Nat → Nat) (ws0 : va_W)  (ha_cells : Nat → Int64) (p1 : Int32) (u : Int32) (hF : FX1_likeliestKnowing ha_cells p1 = some u) (h13 : ws0[13]? = some (a 13, .inr (1, [.ref (a 14)]))) (h14 : ws0[14]? = some (a 14, .inr (4, [.ref (a 15)]))) (h15 : ws0[15]? = some (a 15, .inl (cJ, 169, .inr (.inl ha_cells)))) : Met l yX1_likeliestKnowing (wq yX1_likeliestKnowing cX1_likeliestKnowing 4 (some .int)) rm_X1_likeliestKnowing (Pq [.ref (a 13), .int p1] D cI cJ cZ ws0) (Qq (some (.int u))) 0 0 (fun _ => False) := by
  refine mq_of (by decide) (Nat.le_of_ble_eq_true rfl) (fun p e s m args below meth c ls Q hQ X _ hP hl => ?_)
  obtain ⟨hx, hb, hr, hml, hown, hts, hlk, hK, hN⟩ := id X
  have hown : s.vm.findClass RX1 = some m.cls := hown
  have hl : lv_has ls 4 [(0, .ref (a 13)), (1, .int p1)] := hl
  unfold FX1_likeliestKnowing at hF
  refine lv_iconst (v := (0 : Int32)) hx hb dX1_likeliestKnowing_0 (by decide) ?_
  refine lv_istore_n (lv' := [(2, .int (0 : Int32)), (0, .ref (a 13)), (1, .int p1)]) hx hb dX1_likeliestKnowing_1 rfl hl (by decide) rfl (fun ls hl => ?_)
  refine lv_iconst (v := (1 : Int32)) hx hb dX1_likeliestKnowing_2 (by decide) ?_
  refine lv_istore_n (lv' := [(3, .int (1 : Int32)), (2, .int (0 : Int32)), (0, .ref (a 13)), (1, .int p1)]) hx hb dX1_likeliestKnowing_3 rfl hl (by decide) rfl (fun ls hl => ?_)
  have hL4 : ∀ (nf : Nat) (x1 : Int32) (x2 : Int32) (r : Int32), itr (fun v => FX1_likeliestKnowing_S4 ha_cells p1 v.1 v.2) nf (x1, x2) = some r → ∀ ls, lv_has ls 4 [(3, .int x2), (2, .int x1), (0, .ref (a 13)), (1, .int p1)] → (∀ o : Int32, r = o → ∀ ls, lv_has ls 4 [(2, .int o)] → W p l e rm_X1_likeliestKnowing s m args below meth c s.heap [] 0 0 Q (F0 m 40 ls [])) → W p l e rm_X1_likeliestKnowing s m args below meth c s.heap [] 0 0 Q (F0 m 4 ls []) := by
    intro nf
    induction nf with
    | zero => intro _ _ r hF; exact (itr_0 hF).elim
    | succ nf ih =>
      intro x1 x2 r hF ls hl hE
      obtain ⟨wo, hF, hw⟩ := itr_s hF
      replace hF : FX1_likeliestKnowing_S4 ha_cells p1 x1 x2 = some wo := hF
      unfold FX1_likeliestKnowing_S4 at hF
      refine lv_iload_n hx hb dX1_likeliestKnowing_4 rfl (lv_at hl 0 rfl) ?_
      refine lv_bipush (v := (12 : Int32)) hx hb dX1_likeliestKnowing_5 (by decide) ?_
      refine lv_icmp_gt (tgt := 40) hx hb dX1_likeliestKnowing_7 (by decide) (fun c3 => ?_) (fun c3 => ?_)
      · replace hF := (if_pos c3).symm.trans hF
        obtain rfl := Option.some.inj hF
        obtain rfl := hw
        exact hE _ rfl ls (lv_sub hl [1] rfl)
      · replace hF := (if_neg c3).symm.trans hF
        refine lv_aload_n hx hb dX1_likeliestKnowing_10 rfl (lv_at hl 2 rfl) ?_
        refine gf_X1_12 hx hb hts hown hK hP h13 dX1_likeliestKnowing_11 ?_
        refine lv_iload_n hx hb dX1_likeliestKnowing_14 rfl (lv_at hl 3 rfl) ?_
        refine lv_iload_n hx hb dX1_likeliestKnowing_15 rfl (lv_at hl 0 rfl) ?_
        refine rd_l (runVN (As := [.int p1, .int x2]) (rest := []) X cq_X4_get lk_X1_43 (t_X4_get l D cI cJ cZ a ws0 14 ha_cells p1 x2 _ rfl h14 h15) rfl rfl ⟨Nat.le_of_ble_eq_true rfl, Nat.le_of_ble_eq_true rfl⟩ hP h14 rfl rfl hl.1 rfl (Nat.le_of_ble_eq_true rfl) dX1_likeliestKnowing_16 ⟨Nat.le_of_ble_eq_true rfl, Nat.le_of_ble_eq_true rfl⟩) ?_
        refine lv_aload_n hx hb dX1_likeliestKnowing_19 rfl (lv_at hl 2 rfl) ?_
        refine gf_X1_12 hx hb hts hown hK hP h13 dX1_likeliestKnowing_20 ?_
        refine lv_iload_n hx hb dX1_likeliestKnowing_23 rfl (lv_at hl 3 rfl) ?_
        refine lv_iload_n hx hb dX1_likeliestKnowing_24 rfl (lv_at hl 1 rfl) ?_
        refine rd_l (runVN (As := [.int p1, .int x1]) (rest := [.long (gget ha_cells p1 x2)]) X cq_X4_get lk_X1_43 (t_X4_get l D cI cJ cZ a ws0 14 ha_cells p1 x1 _ rfl h14 h15) rfl rfl ⟨Nat.le_of_ble_eq_true rfl, Nat.le_of_ble_eq_true rfl⟩ hP h14 rfl rfl hl.1 rfl (Nat.le_of_ble_eq_true rfl) dX1_likeliestKnowing_25 ⟨Nat.le_of_ble_eq_true rfl, Nat.le_of_ble_eq_true rfl⟩) ?_
        refine W.lcmp hx hb dX1_likeliestKnowing_28 ?_
        refine lv_if_le (tgt := 34) hx hb dX1_likeliestKnowing_29 (by decide) (fun c4 => ?_) (fun c4 => ?_)
        · replace c4 := (lc_le (gget ha_cells p1 x2) (gget ha_cells p1 x1)).mp c4
          replace hF := (if_pos c4).symm.trans hF
          refine lv_iinc (v := x2 + (1 : Int32)) (lv' := [(3, .int (x2 + (1 : Int32))), (2, .int x1), (0, .ref (a 13)), (1, .int p1)]) hx hb dX1_likeliestKnowing_34 hl (k := 0) rfl rfl (by decide) rfl (fun ls hl => ?_)
          refine lv_goto (tgt := 4) hx hb dX1_likeliestKnowing_37 (by decide) ?_
          obtain rfl := Option.some.inj hF
          exact ih _ _ _ hw ls (lv_sub hl [0, 1, 2, 3] rfl) hE
        · replace c4 := fun q => c4 ((lc_le (gget ha_cells p1 x2) (gget ha_cells p1 x1)).mpr q)
          replace hF := (if_neg c4).symm.trans hF
          refine lv_iload_n hx hb dX1_likeliestKnowing_32 rfl (lv_at hl 0 rfl) ?_
          refine lv_istore_n (lv' := [(2, .int x2), (3, .int x2), (0, .ref (a 13)), (1, .int p1)]) hx hb dX1_likeliestKnowing_33 rfl hl (by decide) rfl (fun ls hl => ?_)
          refine lv_iinc (v := x2 + (1 : Int32)) (lv' := [(3, .int (x2 + (1 : Int32))), (2, .int x2), (0, .ref (a 13)), (1, .int p1)]) hx hb dX1_likeliestKnowing_34 hl (k := 1) rfl rfl (by decide) rfl (fun ls hl => ?_)
          refine lv_goto (tgt := 4) hx hb dX1_likeliestKnowing_37 (by decide) ?_
          obtain rfl := Option.some.inj hF
          exact ih _ _ _ hw ls (lv_sub hl [0, 1, 2, 3] rfl) hE
  obtain ⟨o5, ho5, hF⟩ := bd_some hF
  refine hL4 fu (0 : Int32) (1 : Int32) o5 ho5 ls (lv_sub hl [0, 1, 2, 3] rfl) ?_
  intro _ q_o5 ls hl
  subst q_o5
  refine lv_iload_n hx hb dX1_likeliestKnowing_40 rfl (lv_at hl 0 rfl) ?_
  obtain rfl := Option.some.inj hF
  rw [hQ]
  exact rt_i X dX1_likeliestKnowing_41
def FX8_likely (ro_pupils : Int32) (ro_mood : Int32) (ro_letters : Nat → Int32) (ro_tenths : Nat → Int32) (ro_needs : Nat → Int32) (le_dares : Nat → Int32) (ha_cells : Nat → Int64) (p1 : Int32) (p2 : Int32) : Option (Int32 × (Nat → Int64)) :=
  if (FX8_noSeconds p1) = true then (some ((-2 : Int32), ha_cells)) else (if (FX8_outside p2 (0 : Int32) (12 : Int32)) = true then (some ((-2 : Int32), ha_cells)) else ((FX1_look ha_cells ro_pupils ro_mood ro_tenths ro_letters ro_needs le_dares p1).bind fun u3 => (FX4_allOf u3 p2).bind fun x5 => if (1 : Int64) ≤ x5 then ((FX1_likeliestKnowing u3 p2).bind fun x7 => some (x7, u3)) else (some ((-3 : Int32), u3))))
def rm_X8_likely : Room := { frames := 4, cells := 0, slots := 0, locals := 93 }
set_option maxHeartbeats 4000000 in
set_option maxRecDepth 100000 in
theorem c_X8_likely (l : Launch) (D : va_G) (cI cJ cZ : ClassId) (a : Nat → Nat) (ws0 : va_W) (A : Nat → Prop)  (ro_pupils : Int32) (ro_mood : Int32) (ro_letters : Nat → Int32) (ro_tenths : Nat → Int32) (ro_needs : Nat → Int32) (le_seed : Int64) (le_questions : Int32) (le_rightOnes : Int32) (le_wrongOnes : Int32) (le_isKept : Int32) (le_dares : Nat → Int32) (ha_cells : Nat → Int64) (p1 : Int32) (p2 : Int32) (u : Int32 × (Nat → Int64)) (hF : FX8_likely ro_pupils ro_mood ro_letters ro_tenths ro_needs le_dares ha_cells p1 p2 = some u) (z0 : ws0[0]? = some (a 0, .inr (8, [.ref (a 1), .ref (a 3), .ref (a 13), .ref (a 16), .ref (a 22), .ref (a 25), .ref (a 28), .ref (a 33)]))) (z3 : ws0[3]? = some (a 3, .inr (3, [.ref (a 4), .ref (a 5), .ref (a 6), .ref (a 7), .ref (a 8), .ref (a 9), .ref (a 10), .int ro_pupils, .int ro_mood]))) (z4 : ws0[4]? = some (a 4, .inl (cI, 12, .inl ro_letters))) (z7 : ws0[7]? = some (a 7, .inl (cI, 12, .inl ro_tenths))) (z8 : ws0[8]? = some (a 8, .inl (cI, 12, .inl ro_needs))) (z10 : ws0[10]? = some (a 10, .inr (2, [.ref (a 11), .ref (a 12), .long le_seed, .int le_questions, .int le_rightOnes, .int le_wrongOnes, .int le_isKept]))) (z11 : ws0[11]? = some (a 11, .inl (cI, 12, .inl le_dares))) (z13 : ws0[13]? = some (a 13, .inr (1, [.ref (a 14)]))) (z14 : ws0[14]? = some (a 14, .inr (4, [.ref (a 15)]))) (z15 : ws0[15]? = some (a 15, .inl (cJ, 169, .inr (.inl ha_cells)))) (hD : va_D A ws0) : Met l yX8_likely (wq yX8_likely cX8_likely 3 (some .int)) rm_X8_likely (Pq [.ref (a 0), .int p1, .int p2] D cI cJ cZ ws0) (Qw D A ws0 [15] (some (.int u.1)) (fun w => w[15]? = some (a 15, .inl (cJ, 169, .inr (.inl u.2))))) 0 0 A := by
  refine mq_of (by decide) (Nat.le_of_ble_eq_true rfl) (fun p e s m args below meth c ls Q hQ X _ hP hl => ?_)
  obtain ⟨hx, hb, hr, hml, hown, hts, hlk, hK, hN⟩ := id X
  have hown : s.vm.findClass RX8 = some m.cls := hown
  have hl : lv_has ls 3 [(0, .ref (a 0)), (1, .int p1), (2, .int p2)] := hl
  have hS : va_S A s.heap s.heap [] := va_S.rf
  have hs : ∀ j : Nat, j ∉ [15] → ws0[j]? = ws0[j]? := fun _ _ => rfl
  have h0 := z0
  have h3 := z3
  have h4 := z4
  have h7 := z7
  have h8 := z8
  have h10 := z10
  have h11 := z11
  have h13 := z13
  have h14 := z14
  have h15 := z15
  unfold FX8_likely at hF
  refine lv_iload_n hx hb dX8_likely_0 rfl (lv_at hl 1 rfl) ?_
  refine rd_i (runS (As := [.int p1]) (rest := []) X cq_X8_noSeconds lk_X8_99 (c_X8_noSeconds l D cI cJ cZ a ws0 p1 _ rfl ) rfl rfl ⟨Nat.le_of_ble_eq_true rfl, Nat.le_of_ble_eq_true rfl⟩ hP rfl hl.1 rfl (Nat.le_of_ble_eq_true rfl) dX8_likely_1 ⟨Nat.le_of_ble_eq_true rfl, Nat.le_of_ble_eq_true rfl⟩) ?_
  refine zf_ne (tgt := 17) hx hb dX8_likely_4 (by decide) (fun c1 => ?_) (fun c1 => ?_)
  · replace hF := (if_pos c1).symm.trans hF
    refine lv_bipush (v := (-2 : Int32)) hx hb dX8_likely_17 (by decide) ?_
    obtain rfl := Option.some.inj hF
    rw [hQ]
    exact rw_i X hS hP hD hs h15 dX8_likely_19
  · replace hF := (if_neg c1).symm.trans hF
    refine lv_iload_n hx hb dX8_likely_7 rfl (lv_at hl 2 rfl) ?_
    refine lv_iconst (v := (0 : Int32)) hx hb dX8_likely_8 (by decide) ?_
    refine lv_bipush (v := (12 : Int32)) hx hb dX8_likely_9 (by decide) ?_
    refine rd_i (runS (As := [.int p2, .int (0 : Int32), .int (12 : Int32)]) (rest := []) X cq_X8_outside lk_X8_61 (c_X8_outside l D cI cJ cZ a ws0 p2 (0 : Int32) (12 : Int32) _ rfl ) rfl rfl ⟨Nat.le_of_ble_eq_true rfl, Nat.le_of_ble_eq_true rfl⟩ hP rfl hl.1 rfl (Nat.le_of_ble_eq_true rfl) dX8_likely_11 ⟨Nat.le_of_ble_eq_true rfl, Nat.le_of_ble_eq_true rfl⟩) ?_
    refine zf_eq (tgt := 20) hx hb dX8_likely_14 (by decide) (fun c2 => ?_) (fun c2 => ?_)
    · replace hF := (if_neg c2).symm.trans hF
      refine lv_aload_n hx hb dX8_likely_20 rfl (lv_at hl 0 rfl) ?_
      refine gf_X8_26 hx hb hts hown hK hP h0 dX8_likely_21 ?_
      refine lv_aload_n hx hb dX8_likely_24 rfl (lv_at hl 0 rfl) ?_
      refine gf_X8_19 hx hb hts hown hK hP h0 dX8_likely_25 ?_
      refine lv_iload_n hx hb dX8_likely_28 rfl (lv_at hl 1 rfl) ?_
      obtain ⟨u3, hu3, hF⟩ := bd_some hF
      refine wr_v (runVN (As := [.ref (a 3), .int p1]) (rest := []) X cq_X1_look lk_X8_114 (c_X1_look l D cI cJ cZ a ws0 A ha_cells ro_pupils ro_mood ro_tenths ro_letters ro_needs le_seed le_questions le_rightOnes le_wrongOnes le_isKept le_dares p1 u3 hu3 h3 h4 h7 h8 h10 h11 h13 h14 h15 hD) rfl rfl ⟨Nat.le_of_ble_eq_true rfl, Nat.le_of_ble_eq_true rfl⟩ hP h13 rfl rfl hl.1 rfl (Nat.le_of_ble_eq_true rfl) dX8_likely_29 ⟨Nat.le_of_ble_eq_true rfl, Nat.le_of_ble_eq_true rfl⟩) hS (fun w4 H locs hP hD hk hB hS => ?_)
      have h15 : w4[15]? = some (a 15, .inl (cJ, 169, .inr (.inl u3))) := hB
      have h0 := (hk 0 (by simp only [List.mem_cons, List.not_mem_nil, or_false, not_or]; omega)).trans h0
      have h3 := (hk 3 (by simp only [List.mem_cons, List.not_mem_nil, or_false, not_or]; omega)).trans h3
      have h4 := (hk 4 (by simp only [List.mem_cons, List.not_mem_nil, or_false, not_or]; omega)).trans h4
      have h7 := (hk 7 (by simp only [List.mem_cons, List.not_mem_nil, or_false, not_or]; omega)).trans h7
      have h8 := (hk 8 (by simp only [List.mem_cons, List.not_mem_nil, or_false, not_or]; omega)).trans h8
      have h10 := (hk 10 (by simp only [List.mem_cons, List.not_mem_nil, or_false, not_or]; omega)).trans h10
      have h11 := (hk 11 (by simp only [List.mem_cons, List.not_mem_nil, or_false, not_or]; omega)).trans h11
      have h13 := (hk 13 (by simp only [List.mem_cons, List.not_mem_nil, or_false, not_or]; omega)).trans h13
      have h14 := (hk 14 (by simp only [List.mem_cons, List.not_mem_nil, or_false, not_or]; omega)).trans h14
      replace hs := st_tr hk (fun j hj => by simp only [List.mem_cons, List.not_mem_nil, or_false] at hj ⊢; omega) hs
      refine lv_aload_n hx hb dX8_likely_32 rfl (lv_at hl 0 rfl) ?_
      refine gf_X8_26 hx hb hts hown hK hP h0 dX8_likely_33 ?_
      refine gf_X8_118 hx hb hts hown hK hN hP h13 dX8_likely_36 ?_
      refine lv_iload_n hx hb dX8_likely_39 rfl (lv_at hl 2 rfl) ?_
      obtain ⟨x5, hx5, hF⟩ := bd_some hF
      refine rd_l (runVN (As := [.int p2]) (rest := []) X cq_X4_allOf lk_X8_122 (c_X4_allOf l D cI cJ cZ a w4 14 u3 p2 x5 hx5 h14 h15) rfl rfl ⟨Nat.le_of_ble_eq_true rfl, Nat.le_of_ble_eq_true rfl⟩ hP h14 rfl rfl hl.1 rfl (Nat.le_of_ble_eq_true rfl) dX8_likely_40 ⟨Nat.le_of_ble_eq_true rfl, Nat.le_of_ble_eq_true rfl⟩) ?_
      refine lv_lconst (v := (1 : Int64)) hx hb dX8_likely_43 (by decide) ?_
      refine W.lcmp hx hb dX8_likely_44 ?_
      refine lv_if_ge (tgt := 53) hx hb dX8_likely_45 (by decide) (fun c6 => ?_) (fun c6 => ?_)
      · replace c6 := (lc_ge x5 (1 : Int64)).mp c6
        replace hF := (if_pos c6).symm.trans hF
        refine lv_aload_n hx hb dX8_likely_53 rfl (lv_at hl 0 rfl) ?_
        refine gf_X8_26 hx hb hts hown hK hP h0 dX8_likely_54 ?_
        refine lv_iload_n hx hb dX8_likely_57 rfl (lv_at hl 2 rfl) ?_
        obtain ⟨x7, hx7, hF⟩ := bd_some hF
        refine rd_i (runVN (As := [.int p2]) (rest := []) X cq_X1_likeliestKnowing lk_X8_141 (c_X1_likeliestKnowing l D cI cJ cZ a w4 u3 p2 x7 hx7 h13 h14 h15) rfl rfl ⟨Nat.le_of_ble_eq_true rfl, Nat.le_of_ble_eq_true rfl⟩ hP h13 rfl rfl hl.1 rfl (Nat.le_of_ble_eq_true rfl) dX8_likely_58 ⟨Nat.le_of_ble_eq_true rfl, Nat.le_of_ble_eq_true rfl⟩) ?_
        obtain rfl := Option.some.inj hF
        rw [hQ]
        exact rw_i X hS hP hD hs h15 dX8_likely_61
      · replace c6 := fun q => c6 ((lc_ge x5 (1 : Int64)).mpr q)
        replace hF := (if_neg c6).symm.trans hF
        refine lv_bipush (v := (-3 : Int32)) hx hb dX8_likely_48 (by decide) ?_
        refine lv_goto (tgt := 61) hx hb dX8_likely_50 (by decide) ?_
        obtain rfl := Option.some.inj hF
        rw [hQ]
        exact rw_i X hS hP hD hs h15 dX8_likely_61
    · replace hF := (if_pos c2).symm.trans hF
      refine lv_bipush (v := (-2 : Int32)) hx hb dX8_likely_17 (by decide) ?_
      obtain rfl := Option.some.inj hF
      rw [hQ]
      exact rw_i X hS hP hD hs h15 dX8_likely_19
def FX8_noRule (p1 : Int32) : Bool :=
  FX8_outside p1 (0 : Int32) (4 : Int32)
def rm_X8_noRule : Room := { frames := 1, cells := 0, slots := 0, locals := 22 }
set_option maxHeartbeats 4000000 in
set_option maxRecDepth 100000 in
theorem c_X8_noRule (l : Launch) (D : va_G) (cI cJ cZ : ClassId) (a : Nat → Nat) (ws0 : va_W)   (p1 : Int32) (u : Bool) (hF : FX8_noRule p1 = u) : Met l yX8_noRule (wq yX8_noRule cX8_noRule 1 (some .boolean)) rm_X8_noRule (Pq [.int p1] D cI cJ cZ ws0) (Qq (some (.int (bi u)))) 0 0 (fun _ => False) := by
  refine mq_of (by decide) (Nat.le_of_ble_eq_true rfl) (fun p e s m args below meth c ls Q hQ X _ hP hl => ?_)
  obtain ⟨hx, hb, hr, hml, hown, hts, hlk, hK, hN⟩ := id X
  have hown : s.vm.findClass RX8 = some m.cls := hown
  have hl : lv_has ls 1 [(0, .int p1)] := hl
  unfold FX8_noRule at hF
  refine lv_iload_n hx hb dX8_noRule_0 rfl (lv_at hl 0 rfl) ?_
  refine lv_iconst (v := (0 : Int32)) hx hb dX8_noRule_1 (by decide) ?_
  refine lv_iconst (v := (4 : Int32)) hx hb dX8_noRule_2 (by decide) ?_
  refine rd_i (runS (As := [.int p1, .int (0 : Int32), .int (4 : Int32)]) (rest := []) X cq_X8_outside lk_X8_61 (c_X8_outside l D cI cJ cZ a ws0 p1 (0 : Int32) (4 : Int32) _ rfl ) rfl rfl ⟨Nat.le_of_ble_eq_true rfl, Nat.le_of_ble_eq_true rfl⟩ hP rfl hl.1 rfl (Nat.le_of_ble_eq_true rfl) dX8_noRule_3 ⟨Nat.le_of_ble_eq_true rfl, Nat.le_of_ble_eq_true rfl⟩) ?_
  subst hF
  rw [hQ]
  exact rt_z (b := FX8_outside p1 (0 : Int32) (4 : Int32)) X dX8_noRule_6
def FX3_rankInRow (p1 : Int32) : Int32 :=
  ((if 0 ≤ (((2 : Int32) * p1) - (5 : Int32)) then (((2 : Int32) * p1) - (5 : Int32)) else 0 - (((2 : Int32) * p1) - (5 : Int32))) * (10 : Int32)) + p1
def rm_X3_rankInRow : Room := { frames := 1, cells := 0, slots := 0, locals := 21 }
set_option maxHeartbeats 4000000 in
set_option maxRecDepth 100000 in
theorem c_X3_rankInRow (l : Launch) (D : va_G) (cI cJ cZ : ClassId) (a : Nat → Nat) (ws0 : va_W)   (p1 : Int32) (u : Int32) (hF : FX3_rankInRow p1 = u) : Met l yX3_rankInRow (wq yX3_rankInRow cX3_rankInRow 2 (some .int)) rm_X3_rankInRow (Pq [.ref (a 3), .int p1] D cI cJ cZ ws0) (Qq (some (.int u))) 0 0 (fun _ => False) := by
  refine mq_of (by decide) (Nat.le_of_ble_eq_true rfl) (fun p e s m args below meth c ls Q hQ X _ hP hl => ?_)
  obtain ⟨hx, hb, hr, hml, hown, hts, hlk, hK, hN⟩ := id X
  have hown : s.vm.findClass RX3 = some m.cls := hown
  have hl : lv_has ls 2 [(0, .ref (a 3)), (1, .int p1)] := hl
  unfold FX3_rankInRow at hF
  refine lv_iconst (v := (2 : Int32)) hx hb dX3_rankInRow_0 (by decide) ?_
  refine lv_iload_n hx hb dX3_rankInRow_1 rfl (lv_at hl 1 rfl) ?_
  refine lv_imul hx hb dX3_rankInRow_2 ?_
  refine lv_iconst (v := (5 : Int32)) hx hb dX3_rankInRow_3 (by decide) ?_
  refine lv_isub hx hb dX3_rankInRow_4 ?_
  refine va_mabs hx hb (hml.trans hl.1.symm) hown (hts _ lk_X3_109) (hts _ mts_abs) (hts _ mti) (hts _ mtc_abs) (Nat.le_of_ble_eq_true rfl) (Nat.le_of_ble_eq_true rfl) (Nat.le_of_ble_eq_true rfl) (Nat.le_of_ble_eq_true rfl) dX3_rankInRow_5 ?_
  refine lv_bipush (v := (10 : Int32)) hx hb dX3_rankInRow_8 (by decide) ?_
  refine lv_imul hx hb dX3_rankInRow_10 ?_
  refine lv_iload_n hx hb dX3_rankInRow_11 rfl (lv_at hl 1 rfl) ?_
  refine lv_iadd hx hb dX3_rankInRow_12 ?_
  subst hF
  rw [hQ]
  exact rt_i X dX3_rankInRow_13
def FX3_rankByRule (ro_rows : Nat → Int32) (ro_columns : Nat → Int32) (ro_needs : Nat → Int32) (le_times : Nat → Int32) (p1 : Int32) (p2 : Int32) : Int32 :=
  if p2 = (0 : Int32) then (((gat ro_rows 12 p1) * (100 : Int32)) + (FX3_rankInRow (gat ro_columns 12 p1))) else if p2 = (1 : Int32) then (gat ro_needs 12 p1) else if p2 = (2 : Int32) then ((0 : Int32)) else if p2 = (3 : Int32) then ((0 : Int32)) else if p2 = (4 : Int32) then (gat le_times 12 p1) else (0 : Int32)
def rm_X3_rankByRule : Room := { frames := 2, cells := 0, slots := 0, locals := 42 }
set_option maxHeartbeats 4000000 in
set_option maxRecDepth 100000 in
theorem c_X3_rankByRule (l : Launch) (D : va_G) (cI cJ cZ : ClassId) (a : Nat → Nat) (ws0 : va_W)  (ro_pupils : Int32) (ro_mood : Int32) (ro_rows : Nat → Int32) (ro_columns : Nat → Int32) (ro_needs : Nat → Int32) (le_seed : Int64) (le_questions : Int32) (le_rightOnes : Int32) (le_wrongOnes : Int32) (le_isKept : Int32) (le_times : Nat → Int32) (p1 : Int32) (p2 : Int32) (u : Int32) (hF : FX3_rankByRule ro_rows ro_columns ro_needs le_times p1 p2 = u) (h3 : ws0[3]? = some (a 3, .inr (3, [.ref (a 4), .ref (a 5), .ref (a 6), .ref (a 7), .ref (a 8), .ref (a 9), .ref (a 10), .int ro_pupils, .int ro_mood]))) (h5 : ws0[5]? = some (a 5, .inl (cI, 12, .inl ro_rows))) (h6 : ws0[6]? = some (a 6, .inl (cI, 12, .inl ro_columns))) (h8 : ws0[8]? = some (a 8, .inl (cI, 12, .inl ro_needs))) (h10 : ws0[10]? = some (a 10, .inr (2, [.ref (a 11), .ref (a 12), .long le_seed, .int le_questions, .int le_rightOnes, .int le_wrongOnes, .int le_isKept]))) (h12 : ws0[12]? = some (a 12, .inl (cI, 12, .inl le_times))) : Met l yX3_rankByRule (wq yX3_rankByRule cX3_rankByRule 3 (some .int)) rm_X3_rankByRule (Pq [.ref (a 3), .int p1, .int p2] D cI cJ cZ ws0) (Qq (some (.int u))) 0 0 (fun _ => False) := by
  refine mq_of (by decide) (Nat.le_of_ble_eq_true rfl) (fun p e s m args below meth c ls Q hQ X _ hP hl => ?_)
  obtain ⟨hx, hb, hr, hml, hown, hts, hlk, hK, hN⟩ := id X
  have hown : s.vm.findClass RX3 = some m.cls := hown
  have hl : lv_has ls 3 [(0, .ref (a 3)), (1, .int p1), (2, .int p2)] := hl
  unfold FX3_rankByRule at hF
  refine lv_iload_n hx hb dX3_rankByRule_0 rfl (lv_at hl 2 rfl) ?_
  by_cases c1 : p2 = (0 : Int32)
  · replace hF := (if_pos c1).symm.trans hF
    refine lv_tableIn (tgt := 36) (off := 35) hx hb dX3_rankByRule_1 (by rw [c1]; decide) (by rw [c1]; decide) (by rw [c1]; rfl) (by decide) ?_
    refine lv_aload_n hx hb dX3_rankByRule_36 rfl (lv_at hl 0 rfl) ?_
    refine gf_X3_15 hx hb hts hown hK hP h3 dX3_rankByRule_37 ?_
    refine lv_iload_n hx hb dX3_rankByRule_40 rfl (lv_at hl 1 rfl) ?_
    refine rd_i (runSN (As := [.ref (a 5), .int p1]) (rest := []) X cq_X8_at lk_X3_74 (t_X8_at l D cI cJ cZ a ws0 5 ro_rows 12 p1 _ rfl h5 (by decide)) rfl rfl ⟨Nat.le_of_ble_eq_true rfl, Nat.le_of_ble_eq_true rfl⟩ hP rfl hl.1 rfl (Nat.le_of_ble_eq_true rfl) dX3_rankByRule_41 ⟨Nat.le_of_ble_eq_true rfl, Nat.le_of_ble_eq_true rfl⟩) ?_
    refine lv_bipush (v := (100 : Int32)) hx hb dX3_rankByRule_44 (by decide) ?_
    refine lv_imul hx hb dX3_rankByRule_46 ?_
    refine lv_aload_n hx hb dX3_rankByRule_47 rfl (lv_at hl 0 rfl) ?_
    refine lv_aload_n hx hb dX3_rankByRule_48 rfl (lv_at hl 0 rfl) ?_
    refine gf_X3_18 hx hb hts hown hK hP h3 dX3_rankByRule_49 ?_
    refine lv_iload_n hx hb dX3_rankByRule_52 rfl (lv_at hl 1 rfl) ?_
    refine rd_i (runSN (As := [.ref (a 6), .int p1]) (rest := [.ref (a 3), .int ((gat ro_rows 12 p1) * (100 : Int32))]) X cq_X8_at lk_X3_74 (t_X8_at l D cI cJ cZ a ws0 6 ro_columns 12 p1 _ rfl h6 (by decide)) rfl rfl ⟨Nat.le_of_ble_eq_true rfl, Nat.le_of_ble_eq_true rfl⟩ hP rfl hl.1 rfl (Nat.le_of_ble_eq_true rfl) dX3_rankByRule_53 ⟨Nat.le_of_ble_eq_true rfl, Nat.le_of_ble_eq_true rfl⟩) ?_
    refine rd_i (runV (As := [.int (gat ro_columns 12 p1)]) (rest := [.int ((gat ro_rows 12 p1) * (100 : Int32))]) X cq_X3_rankInRow lk_X3_106 (c_X3_rankInRow l D cI cJ cZ a ws0 (gat ro_columns 12 p1) _ rfl ) rfl rfl ⟨Nat.le_of_ble_eq_true rfl, Nat.le_of_ble_eq_true rfl⟩ hP h3 rfl rfl hl.1 rfl (Nat.le_of_ble_eq_true rfl) dX3_rankByRule_56 ⟨Nat.le_of_ble_eq_true rfl, Nat.le_of_ble_eq_true rfl⟩) ?_
    refine lv_iadd hx hb dX3_rankByRule_59 ?_
    subst hF
    rw [hQ]
    exact rt_i X dX3_rankByRule_60
  replace hF := (if_neg c1).symm.trans hF
  by_cases c2 : p2 = (1 : Int32)
  · replace hF := (if_pos c2).symm.trans hF
    refine lv_tableIn (tgt := 61) (off := 60) hx hb dX3_rankByRule_1 (by rw [c2]; decide) (by rw [c2]; decide) (by rw [c2]; rfl) (by decide) ?_
    refine lv_aload_n hx hb dX3_rankByRule_61 rfl (lv_at hl 0 rfl) ?_
    refine gf_X3_24 hx hb hts hown hK hP h3 dX3_rankByRule_62 ?_
    refine lv_iload_n hx hb dX3_rankByRule_65 rfl (lv_at hl 1 rfl) ?_
    refine rd_i (runSN (As := [.ref (a 8), .int p1]) (rest := []) X cq_X8_at lk_X3_74 (t_X8_at l D cI cJ cZ a ws0 8 ro_needs 12 p1 _ rfl h8 (by decide)) rfl rfl ⟨Nat.le_of_ble_eq_true rfl, Nat.le_of_ble_eq_true rfl⟩ hP rfl hl.1 rfl (Nat.le_of_ble_eq_true rfl) dX3_rankByRule_66 ⟨Nat.le_of_ble_eq_true rfl, Nat.le_of_ble_eq_true rfl⟩) ?_
    subst hF
    rw [hQ]
    exact rt_i X dX3_rankByRule_69
  replace hF := (if_neg c2).symm.trans hF
  by_cases c3 : p2 = (2 : Int32)
  · replace hF := (if_pos c3).symm.trans hF
    refine lv_tableIn (tgt := 82) (off := 81) hx hb dX3_rankByRule_1 (by rw [c3]; decide) (by rw [c3]; decide) (by rw [c3]; rfl) (by decide) ?_
    refine lv_iconst (v := (0 : Int32)) hx hb dX3_rankByRule_82 (by decide) ?_
    subst hF
    rw [hQ]
    exact rt_i X dX3_rankByRule_83
  replace hF := (if_neg c3).symm.trans hF
  by_cases c4 : p2 = (3 : Int32)
  · replace hF := (if_pos c4).symm.trans hF
    refine lv_tableIn (tgt := 82) (off := 81) hx hb dX3_rankByRule_1 (by rw [c4]; decide) (by rw [c4]; decide) (by rw [c4]; rfl) (by decide) ?_
    refine lv_iconst (v := (0 : Int32)) hx hb dX3_rankByRule_82 (by decide) ?_
    subst hF
    rw [hQ]
    exact rt_i X dX3_rankByRule_83
  replace hF := (if_neg c4).symm.trans hF
  by_cases c5 : p2 = (4 : Int32)
  · replace hF := (if_pos c5).symm.trans hF
    refine lv_tableIn (tgt := 70) (off := 69) hx hb dX3_rankByRule_1 (by rw [c5]; decide) (by rw [c5]; decide) (by rw [c5]; rfl) (by decide) ?_
    refine lv_aload_n hx hb dX3_rankByRule_70 rfl (lv_at hl 0 rfl) ?_
    refine gf_X3_33 hx hb hts hown hK hP h3 dX3_rankByRule_71 ?_
    refine gf_X3_82 hx hb hts hown hK hN hP h10 dX3_rankByRule_74 ?_
    refine lv_iload_n hx hb dX3_rankByRule_77 rfl (lv_at hl 1 rfl) ?_
    refine rd_i (runSN (As := [.ref (a 12), .int p1]) (rest := []) X cq_X8_at lk_X3_74 (t_X8_at l D cI cJ cZ a ws0 12 le_times 12 p1 _ rfl h12 (by decide)) rfl rfl ⟨Nat.le_of_ble_eq_true rfl, Nat.le_of_ble_eq_true rfl⟩ hP rfl hl.1 rfl (Nat.le_of_ble_eq_true rfl) dX3_rankByRule_78 ⟨Nat.le_of_ble_eq_true rfl, Nat.le_of_ble_eq_true rfl⟩) ?_
    subst hF
    rw [hQ]
    exact rt_i X dX3_rankByRule_81
  replace hF := (if_neg c5).symm.trans hF
  have zc1 : ¬ p2.toInt = 0 := fun q => c1 (Int32.toInt_inj.mp (q.trans (by decide)))
  have zc2 : ¬ p2.toInt = 1 := fun q => c2 (Int32.toInt_inj.mp (q.trans (by decide)))
  have zc3 : ¬ p2.toInt = 2 := fun q => c3 (Int32.toInt_inj.mp (q.trans (by decide)))
  have zc4 : ¬ p2.toInt = 3 := fun q => c4 (Int32.toInt_inj.mp (q.trans (by decide)))
  have zc5 : ¬ p2.toInt = 4 := fun q => c5 (Int32.toInt_inj.mp (q.trans (by decide)))
  refine lv_tableOut (tgt := 82) hx hb dX3_rankByRule_1 (by omega) (by decide) ?_
  refine lv_iconst (v := (0 : Int32)) hx hb dX3_rankByRule_82 (by decide) ?_
  subst hF
  rw [hQ]
  exact rt_i X dX3_rankByRule_83
def FX3_rank (ro_rows : Nat → Int32) (ro_columns : Nat → Int32) (ro_needs : Nat → Int32) (le_times : Nat → Int32) (p1 : Int32) (p2 : Int32) : Int32 :=
  ((FX3_rankByRule ro_rows ro_columns ro_needs le_times p1 p2) * (12 : Int32)) + p1
def rm_X3_rank : Room := { frames := 3, cells := 0, slots := 0, locals := 64 }
set_option maxHeartbeats 4000000 in
set_option maxRecDepth 100000 in
theorem c_X3_rank (l : Launch) (D : va_G) (cI cJ cZ : ClassId) (a : Nat → Nat) (ws0 : va_W)  (ro_pupils : Int32) (ro_mood : Int32) (ro_rows : Nat → Int32) (ro_columns : Nat → Int32) (ro_needs : Nat → Int32) (le_seed : Int64) (le_questions : Int32) (le_rightOnes : Int32) (le_wrongOnes : Int32) (le_isKept : Int32) (le_times : Nat → Int32) (p1 : Int32) (p2 : Int32) (u : Int32) (hF : FX3_rank ro_rows ro_columns ro_needs le_times p1 p2 = u) (h3 : ws0[3]? = some (a 3, .inr (3, [.ref (a 4), .ref (a 5), .ref (a 6), .ref (a 7), .ref (a 8), .ref (a 9), .ref (a 10), .int ro_pupils, .int ro_mood]))) (h5 : ws0[5]? = some (a 5, .inl (cI, 12, .inl ro_rows))) (h6 : ws0[6]? = some (a 6, .inl (cI, 12, .inl ro_columns))) (h8 : ws0[8]? = some (a 8, .inl (cI, 12, .inl ro_needs))) (h10 : ws0[10]? = some (a 10, .inr (2, [.ref (a 11), .ref (a 12), .long le_seed, .int le_questions, .int le_rightOnes, .int le_wrongOnes, .int le_isKept]))) (h12 : ws0[12]? = some (a 12, .inl (cI, 12, .inl le_times))) : Met l yX3_rank (wq yX3_rank cX3_rank 3 (some .int)) rm_X3_rank (Pq [.ref (a 3), .int p1, .int p2] D cI cJ cZ ws0) (Qq (some (.int u))) 0 0 (fun _ => False) := by
  refine mq_of (by decide) (Nat.le_of_ble_eq_true rfl) (fun p e s m args below meth c ls Q hQ X _ hP hl => ?_)
  obtain ⟨hx, hb, hr, hml, hown, hts, hlk, hK, hN⟩ := id X
  have hown : s.vm.findClass RX3 = some m.cls := hown
  have hl : lv_has ls 3 [(0, .ref (a 3)), (1, .int p1), (2, .int p2)] := hl
  unfold FX3_rank at hF
  refine lv_aload_n hx hb dX3_rank_0 rfl (lv_at hl 0 rfl) ?_
  refine lv_iload_n hx hb dX3_rank_1 rfl (lv_at hl 1 rfl) ?_
  refine lv_iload_n hx hb dX3_rank_2 rfl (lv_at hl 2 rfl) ?_
  refine rd_i (runV (As := [.int p1, .int p2]) (rest := []) X cq_X3_rankByRule lk_X3_103 (c_X3_rankByRule l D cI cJ cZ a ws0 ro_pupils ro_mood ro_rows ro_columns ro_needs le_seed le_questions le_rightOnes le_wrongOnes le_isKept le_times p1 p2 _ rfl h3 h5 h6 h8 h10 h12) rfl rfl ⟨Nat.le_of_ble_eq_true rfl, Nat.le_of_ble_eq_true rfl⟩ hP h3 rfl rfl hl.1 rfl (Nat.le_of_ble_eq_true rfl) dX3_rank_3 ⟨Nat.le_of_ble_eq_true rfl, Nat.le_of_ble_eq_true rfl⟩) ?_
  refine lv_bipush (v := (12 : Int32)) hx hb dX3_rank_6 (by decide) ?_
  refine lv_imul hx hb dX3_rank_8 ?_
  refine lv_iload_n hx hb dX3_rank_9 rfl (lv_at hl 1 rfl) ?_
  refine lv_iadd hx hb dX3_rank_10 ?_
  subst hF
  rw [hQ]
  exact rt_i X dX3_rank_11
def FX3_rightTenths_J19 (ro_needs : Nat → Int32) (ro_tenths : Nat → Int32) (p1 : Int32) (p2 : Int32) (x2 : Int32) : Int32 :=
  if x2 = 0 then ((0 : Int32)) else (if (FX3_isRight ro_needs p1 (1 : Int32) p2) = true then (gat ro_tenths 12 p1) else ((0 : Int32)))
def FX3_rightTenths_J14 (ro_needs : Nat → Int32) (ro_tenths : Nat → Int32) (p1 : Int32) (p2 : Int32) : Int32 :=
  FX3_rightTenths_J19 ro_needs ro_tenths p1 p2 (1 : Int32)
def FX3_rightTenths (ro_mood : Int32) (ro_needs : Nat → Int32) (ro_tenths : Nat → Int32) (ro_letters : Nat → Int32) (le_dares : Nat → Int32) (p1 : Int32) (p2 : Int32) (p3 : Int32) : Int32 :=
  if p3 = 0 then (if (FX3_isUp ro_mood le_dares ro_letters ro_needs p1 (1 : Int32) p2) = true then (FX3_rightTenths_J14 ro_needs ro_tenths p1 p2) else (FX3_rightTenths_J19 ro_needs ro_tenths p1 p2 (0 : Int32))) else (FX3_rightTenths_J14 ro_needs ro_tenths p1 p2)
def rm_X3_rightTenths : Room := { frames := 3, cells := 0, slots := 0, locals := 67 }
set_option maxHeartbeats 4000000 in
set_option maxRecDepth 100000 in
theorem c_X3_rightTenths (l : Launch) (D : va_G) (cI cJ cZ : ClassId) (a : Nat → Nat) (ws0 : va_W)  (ro_pupils : Int32) (ro_mood : Int32) (ro_needs : Nat → Int32) (ro_tenths : Nat → Int32) (ro_letters : Nat → Int32) (le_seed : Int64) (le_questions : Int32) (le_rightOnes : Int32) (le_wrongOnes : Int32) (le_isKept : Int32) (le_dares : Nat → Int32) (p1 : Int32) (p2 : Int32) (p3 : Int32) (u : Int32) (hF : FX3_rightTenths ro_mood ro_needs ro_tenths ro_letters le_dares p1 p2 p3 = u) (h3 : ws0[3]? = some (a 3, .inr (3, [.ref (a 4), .ref (a 5), .ref (a 6), .ref (a 7), .ref (a 8), .ref (a 9), .ref (a 10), .int ro_pupils, .int ro_mood]))) (h4 : ws0[4]? = some (a 4, .inl (cI, 12, .inl ro_letters))) (h7 : ws0[7]? = some (a 7, .inl (cI, 12, .inl ro_tenths))) (h8 : ws0[8]? = some (a 8, .inl (cI, 12, .inl ro_needs))) (h10 : ws0[10]? = some (a 10, .inr (2, [.ref (a 11), .ref (a 12), .long le_seed, .int le_questions, .int le_rightOnes, .int le_wrongOnes, .int le_isKept]))) (h11 : ws0[11]? = some (a 11, .inl (cI, 12, .inl le_dares))) : Met l yX3_rightTenths (wq yX3_rightTenths cX3_rightTenths 5 (some .int)) rm_X3_rightTenths (Pq [.ref (a 3), .int p1, .int p2, .int p3] D cI cJ cZ ws0) (Qq (some (.int u))) 0 0 (fun _ => False) := by
  refine mq_of (by decide) (Nat.le_of_ble_eq_true rfl) (fun p e s m args below meth c ls Q hQ X _ hP hl => ?_)
  obtain ⟨hx, hb, hr, hml, hown, hts, hlk, hK, hN⟩ := id X
  have hown : s.vm.findClass RX3 = some m.cls := hown
  have hl : lv_has ls 5 [(0, .ref (a 3)), (1, .int p1), (2, .int p2), (3, .int p3)] := hl
  have hJ19 : ∀ (x2 : Int32), ∀ ls, lv_has ls 5 [(0, .ref (a 3)), (1, .int p1), (2, .int p2)] → FX3_rightTenths_J19 ro_needs ro_tenths p1 p2 x2 = u → W p l e rm_X3_rightTenths s m args below meth c s.heap [] 0 0 Q (F0 m 19 ls [.int x2]) := by
    intro x2 ls hl hF
    unfold FX3_rightTenths_J19 at hF
    refine lv_istore (lv' := [(4, .int x2), (0, .ref (a 3)), (1, .int p1), (2, .int p2)]) hx hb dX3_rightTenths_19 hl (by decide) rfl (fun ls hl => ?_)
    refine lv_iload hx hb dX3_rightTenths_21 (lv_at hl 0 rfl) ?_
    refine lv_if_eq (tgt := 47) hx hb dX3_rightTenths_23 (by decide) (fun c3 => ?_) (fun c3 => ?_)
    · replace hF := (if_pos c3).symm.trans hF
      refine lv_iconst (v := (0 : Int32)) hx hb dX3_rightTenths_47 (by decide) ?_
      subst hF
      rw [hQ]
      exact rt_i X dX3_rightTenths_48
    · replace hF := (if_neg c3).symm.trans hF
      refine lv_aload_n hx hb dX3_rightTenths_26 rfl (lv_at hl 1 rfl) ?_
      refine lv_iload_n hx hb dX3_rightTenths_27 rfl (lv_at hl 2 rfl) ?_
      refine lv_iconst (v := (1 : Int32)) hx hb dX3_rightTenths_28 (by decide) ?_
      refine lv_iload_n hx hb dX3_rightTenths_29 rfl (lv_at hl 3 rfl) ?_
      refine rd_i (runV (As := [.int p1, .int (1 : Int32), .int p2]) (rest := []) X cq_X3_isRight lk_X3_85 (c_X3_isRight l D cI cJ cZ a ws0 ro_pupils ro_mood ro_needs p1 (1 : Int32) p2 _ rfl h3 h8) rfl rfl ⟨Nat.le_of_ble_eq_true rfl, Nat.le_of_ble_eq_true rfl⟩ hP h3 rfl rfl hl.1 rfl (Nat.le_of_ble_eq_true rfl) dX3_rightTenths_30 ⟨Nat.le_of_ble_eq_true rfl, Nat.le_of_ble_eq_true rfl⟩) ?_
      refine zf_eq (tgt := 47) hx hb dX3_rightTenths_33 (by decide) (fun c4 => ?_) (fun c4 => ?_)
      · replace hF := (if_neg c4).symm.trans hF
        refine lv_iconst (v := (0 : Int32)) hx hb dX3_rightTenths_47 (by decide) ?_
        subst hF
        rw [hQ]
        exact rt_i X dX3_rightTenths_48
      · replace hF := (if_pos c4).symm.trans hF
        refine lv_aload_n hx hb dX3_rightTenths_36 rfl (lv_at hl 1 rfl) ?_
        refine gf_X3_21 hx hb hts hown hK hP h3 dX3_rightTenths_37 ?_
        refine lv_iload_n hx hb dX3_rightTenths_40 rfl (lv_at hl 2 rfl) ?_
        refine rd_i (runSN (As := [.ref (a 7), .int p1]) (rest := []) X cq_X8_at lk_X3_74 (t_X8_at l D cI cJ cZ a ws0 7 ro_tenths 12 p1 _ rfl h7 (by decide)) rfl rfl ⟨Nat.le_of_ble_eq_true rfl, Nat.le_of_ble_eq_true rfl⟩ hP rfl hl.1 rfl (Nat.le_of_ble_eq_true rfl) dX3_rightTenths_41 ⟨Nat.le_of_ble_eq_true rfl, Nat.le_of_ble_eq_true rfl⟩) ?_
        refine lv_goto (tgt := 48) hx hb dX3_rightTenths_44 (by decide) ?_
        subst hF
        rw [hQ]
        exact rt_i X dX3_rightTenths_48
  have hJ14 : ∀ ls, lv_has ls 5 [(0, .ref (a 3)), (1, .int p1), (2, .int p2)] → FX3_rightTenths_J14 ro_needs ro_tenths p1 p2 = u → W p l e rm_X3_rightTenths s m args below meth c s.heap [] 0 0 Q (F0 m 14 ls []) := by
    intro ls hl hF
    unfold FX3_rightTenths_J14 at hF
    refine lv_iconst (v := (1 : Int32)) hx hb dX3_rightTenths_14 (by decide) ?_
    refine lv_goto (tgt := 19) hx hb dX3_rightTenths_15 (by decide) ?_
    exact hJ19 (1 : Int32) ls (lv_sub hl [0, 1, 2] rfl) hF
  unfold FX3_rightTenths at hF
  refine lv_iload_n hx hb dX3_rightTenths_0 rfl (lv_at hl 3 rfl) ?_
  refine lv_if_ne (tgt := 14) hx hb dX3_rightTenths_1 (by decide) (fun c1 => ?_) (fun c1 => ?_)
  · replace hF := (if_neg c1).symm.trans hF
    exact hJ14 ls (lv_sub hl [0, 1, 2] rfl) hF
  · replace hF := (if_pos c1).symm.trans hF
    refine lv_aload_n hx hb dX3_rightTenths_4 rfl (lv_at hl 0 rfl) ?_
    refine lv_iload_n hx hb dX3_rightTenths_5 rfl (lv_at hl 1 rfl) ?_
    refine lv_iconst (v := (1 : Int32)) hx hb dX3_rightTenths_6 (by decide) ?_
    refine lv_iload_n hx hb dX3_rightTenths_7 rfl (lv_at hl 2 rfl) ?_
    refine rd_i (runV (As := [.int p1, .int (1 : Int32), .int p2]) (rest := []) X cq_X3_isUp lk_X3_89 (c_X3_isUp l D cI cJ cZ a ws0 ro_pupils ro_mood le_seed le_questions le_rightOnes le_wrongOnes le_isKept le_dares ro_letters ro_needs p1 (1 : Int32) p2 _ rfl h3 h4 h8 h10 h11) rfl rfl ⟨Nat.le_of_ble_eq_true rfl, Nat.le_of_ble_eq_true rfl⟩ hP h3 rfl rfl hl.1 rfl (Nat.le_of_ble_eq_true rfl) dX3_rightTenths_8 ⟨Nat.le_of_ble_eq_true rfl, Nat.le_of_ble_eq_true rfl⟩) ?_
    refine zf_eq (tgt := 18) hx hb dX3_rightTenths_11 (by decide) (fun c5 => ?_) (fun c5 => ?_)
    · replace hF := (if_neg c5).symm.trans hF
      refine lv_iconst (v := (0 : Int32)) hx hb dX3_rightTenths_18 (by decide) ?_
      exact hJ19 (0 : Int32) ls (lv_sub hl [0, 1, 2] rfl) hF
    · replace hF := (if_pos c5).symm.trans hF
      exact hJ14 ls (lv_sub hl [0, 1, 2] rfl) hF
def FX0_look_J82L31 (ro_mood : Int32) (ro_needs : Nat → Int32) (ro_letters : Nat → Int32) (ro_tenths : Nat → Int32) (le_dares : Nat → Int32) (p2 : Int32) (x4 : Int32) (x18 : Int32) (x19 : Int32) (x20 : Int32) (x21 : Nat → Int32) (x22 : Nat → Int32) (x23 : Nat → Int32) : Option ((Int32 × (Nat → Int32) × (Nat → Int32) × (Nat → Int32)) ⊕ ((Nat → Int32) × (Nat → Int32) × (Nat → Int32))) :=
  nmb (gput x22 12 x19 x20) fun u24 => nmb (gput x23 12 x18 (FX3_rightTenths ro_mood ro_needs ro_tenths ro_letters le_dares x18 p2 x4)) fun u26 => some (.inl (x18 + (1 : Int32), x21, u24, u26))
def FX0_look_S31 (ro_mood : Int32) (ro_rows : Nat → Int32) (ro_columns : Nat → Int32) (ro_needs : Nat → Int32) (le_times : Nat → Int32) (ro_letters : Nat → Int32) (ro_tenths : Nat → Int32) (le_dares : Nat → Int32) (p2 : Int32) (x4 : Int32) (x5 : Int32) (x6 : Int32) (x10 : Int32) (x11 : Nat → Int32) (x12 : Nat → Int32) (x13 : Nat → Int32) : Option ((Int32 × (Nat → Int32) × (Nat → Int32) × (Nat → Int32)) ⊕ ((Nat → Int32) × (Nat → Int32) × (Nat → Int32))) :=
  if x5 ≤ x10 then (some (.inr (x11, x12, x13))) else (nmb (gput x11 12 x10 (FX3_rank ro_rows ro_columns ro_needs le_times x10 x6)) fun u15 => if x4 = 0 then (FX0_look_J82L31 ro_mood ro_needs ro_letters ro_tenths le_dares p2 x4 x10 x10 (FX3_upTenths ro_mood ro_letters ro_needs le_dares ro_tenths x10 p2) u15 x12 x13) else (FX0_look_J82L31 ro_mood ro_needs ro_letters ro_tenths le_dares p2 x4 x10 x10 (10 : Int32) u15 x12 x13))
def FX0_look_J26 (ro_mood : Int32) (ro_rows : Nat → Int32) (ro_columns : Nat → Int32) (ro_needs : Nat → Int32) (le_times : Nat → Int32) (ro_letters : Nat → Int32) (ro_tenths : Nat → Int32) (le_dares : Nat → Int32) (p2 : Int32) (x4 : Int32) (x5 : Int32) (x6 : Int32) (x7 : Nat → Int32) (x8 : Nat → Int32) (x9 : Nat → Int32) : Option (Int32 × Int32 × (Nat → Int32) × (Nat → Int32) × (Nat → Int32)) :=
  (itr (fun v => FX0_look_S31 ro_mood ro_rows ro_columns ro_needs le_times ro_letters ro_tenths le_dares p2 x4 x5 x6 v.1 v.2.1 v.2.2.1 v.2.2.2) fu ((0 : Int32), x7, x8, x9)).bind fun o28 => some (x5, x6, o28.1, o28.2.1, o28.2.2)
def FX0_look (ro_pupils : Int32) (ro_mood : Int32) (ro_rows : Nat → Int32) (ro_columns : Nat → Int32) (ro_needs : Nat → Int32) (le_times : Nat → Int32) (ch_ranks : Nat → Int32) (ro_letters : Nat → Int32) (ro_tenths : Nat → Int32) (le_dares : Nat → Int32) (ch_eligible : Nat → Int32) (ch_eligibleAndRight : Nat → Int32) (p2 : Int32) (p3 : Int32) : Option (Int32 × Int32 × (Nat → Int32) × (Nat → Int32) × (Nat → Int32)) :=
  if p3 = (3 : Int32) then (FX0_look_J26 ro_mood ro_rows ro_columns ro_needs le_times ro_letters ro_tenths le_dares p2 (1 : Int32) ro_pupils p3 ch_ranks ch_eligible ch_eligibleAndRight) else (FX0_look_J26 ro_mood ro_rows ro_columns ro_needs le_times ro_letters ro_tenths le_dares p2 (0 : Int32) ro_pupils p3 ch_ranks ch_eligible ch_eligibleAndRight)
def rm_X0_look : Room := { frames := 4, cells := 0, slots := 0, locals := 91 }
set_option maxHeartbeats 4000000 in
set_option maxRecDepth 100000 in
theorem c_X0_look (l : Launch) (D : va_G) (cI cJ cZ : ClassId) (a : Nat → Nat) (ws0 : va_W) (A : Nat → Prop)  (ro_pupils : Int32) (ro_mood : Int32) (ch_pupils : Int32) (ch_rule : Int32) (ro_rows : Nat → Int32) (ro_columns : Nat → Int32) (ro_needs : Nat → Int32) (le_seed : Int64) (le_questions : Int32) (le_rightOnes : Int32) (le_wrongOnes : Int32) (le_isKept : Int32) (le_times : Nat → Int32) (ch_ranks : Nat → Int32) (ro_letters : Nat → Int32) (ro_tenths : Nat → Int32) (le_dares : Nat → Int32) (ch_eligible : Nat → Int32) (ch_eligibleAndRight : Nat → Int32) (p2 : Int32) (p3 : Int32) (u : Int32 × Int32 × (Nat → Int32) × (Nat → Int32) × (Nat → Int32)) (hF : FX0_look ro_pupils ro_mood ro_rows ro_columns ro_needs le_times ch_ranks ro_letters ro_tenths le_dares ch_eligible ch_eligibleAndRight p2 p3 = some u) (z3 : ws0[3]? = some (a 3, .inr (3, [.ref (a 4), .ref (a 5), .ref (a 6), .ref (a 7), .ref (a 8), .ref (a 9), .ref (a 10), .int ro_pupils, .int ro_mood]))) (z4 : ws0[4]? = some (a 4, .inl (cI, 12, .inl ro_letters))) (z5 : ws0[5]? = some (a 5, .inl (cI, 12, .inl ro_rows))) (z6 : ws0[6]? = some (a 6, .inl (cI, 12, .inl ro_columns))) (z7 : ws0[7]? = some (a 7, .inl (cI, 12, .inl ro_tenths))) (z8 : ws0[8]? = some (a 8, .inl (cI, 12, .inl ro_needs))) (z10 : ws0[10]? = some (a 10, .inr (2, [.ref (a 11), .ref (a 12), .long le_seed, .int le_questions, .int le_rightOnes, .int le_wrongOnes, .int le_isKept]))) (z11 : ws0[11]? = some (a 11, .inl (cI, 12, .inl le_dares))) (z12 : ws0[12]? = some (a 12, .inl (cI, 12, .inl le_times))) (z16 : ws0[16]? = some (a 16, .inr (0, [.ref (a 17), .ref (a 18), .ref (a 19), .ref (a 20), .int ch_pupils, .int ch_rule]))) (z17 : ws0[17]? = some (a 17, .inl (cI, 12, .inl ch_ranks))) (z18 : ws0[18]? = some (a 18, .inl (cI, 12, .inl ch_eligible))) (z19 : ws0[19]? = some (a 19, .inl (cI, 12, .inl ch_eligibleAndRight))) (hD : va_D A ws0) : Met l yX0_look (wq yX0_look cX0_look 6 none) rm_X0_look (Pq [.ref (a 16), .ref (a 3), .int p2, .int p3] D cI cJ cZ ws0) (Qw D A ws0 [16, 17, 18, 19] none (fun w => w[16]? = some (a 16, .inr (0, [.ref (a 17), .ref (a 18), .ref (a 19), .ref (a 20), .int u.1, .int u.2.1])) ∧ w[17]? = some (a 17, .inl (cI, 12, .inl u.2.2.1)) ∧ w[18]? = some (a 18, .inl (cI, 12, .inl u.2.2.2.1)) ∧ w[19]? = some (a 19, .inl (cI, 12, .inl u.2.2.2.2)))) 0 0 A := by
  refine mq_of (by decide) (Nat.le_of_ble_eq_true rfl) (fun p e s m args below meth c ls Q hQ X _ hP hl => ?_)
  obtain ⟨hx, hb, hr, hml, hown, hts, hlk, hK, hN⟩ := id X
  have hown : s.vm.findClass RX0 = some m.cls := hown
  have hl : lv_has ls 6 [(0, .ref (a 16)), (1, .ref (a 3)), (2, .int p2), (3, .int p3)] := hl
  have hS : va_S A s.heap s.heap [] := va_S.rf
  have hs : ∀ j : Nat, j ∉ [16, 17, 18, 19] → ws0[j]? = ws0[j]? := fun _ _ => rfl
  have h3 := z3
  have h4 := z4
  have h5 := z5
  have h6 := z6
  have h7 := z7
  have h8 := z8
  have h10 := z10
  have h11 := z11
  have h12 := z12
  have h16 := z16
  have h17 := z17
  have h18 := z18
  have h19 := z19
  have hJ26 : ∀ (x4 : Int32) (x5 : Int32) (x6 : Int32) (x7 : Nat → Int32) (x8 : Nat → Int32) (x9 : Nat → Int32), ∀ (wJ : va_W) (HJ : Heap) (lJ : List Loc), va_P D vwCl wJ HJ → va_D A wJ → va_S A s.heap HJ lJ → (∀ j : Nat, j ∉ [16, 17, 18, 19] → wJ[j]? = ws0[j]?) → wJ[16]? = some (a 16, .inr (0, [.ref (a 17), .ref (a 18), .ref (a 19), .ref (a 20), .int x5, .int x6])) → wJ[17]? = some (a 17, .inl (cI, 12, .inl x7)) → wJ[18]? = some (a 18, .inl (cI, 12, .inl x8)) → wJ[19]? = some (a 19, .inl (cI, 12, .inl x9)) → ∀ ls, lv_has ls 6 [(0, .ref (a 16)), (1, .ref (a 3)), (2, .int p2)] → FX0_look_J26 ro_mood ro_rows ro_columns ro_needs le_times ro_letters ro_tenths le_dares p2 x4 x5 x6 x7 x8 x9 = some u → W p l e rm_X0_look s m args below meth c HJ lJ 0 0 Q (F0 m 26 ls [.int x4]) := by
    intro x4 x5 x6 x7 x8 x9 w H locs hP hD hS hs h16 h17 h18 h19 ls hl hF
    have h3 := (hs 3 (by simp only [List.mem_cons, List.not_mem_nil, or_false, not_or]; omega)).trans z3
    have h5 := (hs 5 (by simp only [List.mem_cons, List.not_mem_nil, or_false, not_or]; omega)).trans z5
    have h6 := (hs 6 (by simp only [List.mem_cons, List.not_mem_nil, or_false, not_or]; omega)).trans z6
    have h8 := (hs 8 (by simp only [List.mem_cons, List.not_mem_nil, or_false, not_or]; omega)).trans z8
    have h10 := (hs 10 (by simp only [List.mem_cons, List.not_mem_nil, or_false, not_or]; omega)).trans z10
    have h12 := (hs 12 (by simp only [List.mem_cons, List.not_mem_nil, or_false, not_or]; omega)).trans z12
    have h4 := (hs 4 (by simp only [List.mem_cons, List.not_mem_nil, or_false, not_or]; omega)).trans z4
    have h7 := (hs 7 (by simp only [List.mem_cons, List.not_mem_nil, or_false, not_or]; omega)).trans z7
    have h11 := (hs 11 (by simp only [List.mem_cons, List.not_mem_nil, or_false, not_or]; omega)).trans z11
    unfold FX0_look_J26 at hF
    refine lv_istore (lv' := [(4, .int x4), (0, .ref (a 16)), (1, .ref (a 3)), (2, .int p2)]) hx hb dX0_look_26 hl (by decide) rfl (fun ls hl => ?_)
    refine lv_iconst (v := (0 : Int32)) hx hb dX0_look_28 (by decide) ?_
    refine lv_istore (lv' := [(5, .int (0 : Int32)), (4, .int x4), (0, .ref (a 16)), (1, .ref (a 3)), (2, .int p2)]) hx hb dX0_look_29 hl (by decide) rfl (fun ls hl => ?_)
    have hL31 : ∀ (nf : Nat) (x10 : Int32) (x11 : Nat → Int32) (x12 : Nat → Int32) (x13 : Nat → Int32) (r : (Nat → Int32) × (Nat → Int32) × (Nat → Int32)), itr (fun v => FX0_look_S31 ro_mood ro_rows ro_columns ro_needs le_times ro_letters ro_tenths le_dares p2 x4 x5 x6 v.1 v.2.1 v.2.2.1 v.2.2.2) nf (x10, x11, x12, x13) = some r → ∀ (wJ : va_W) (HJ : Heap) (lJ : List Loc), va_P D vwCl wJ HJ → va_D A wJ → va_S A s.heap HJ lJ → (∀ j : Nat, j ∉ [16, 17, 18, 19] → wJ[j]? = ws0[j]?) → wJ[16]? = some (a 16, .inr (0, [.ref (a 17), .ref (a 18), .ref (a 19), .ref (a 20), .int x5, .int x6])) → wJ[17]? = some (a 17, .inl (cI, 12, .inl x11)) → wJ[18]? = some (a 18, .inl (cI, 12, .inl x12)) → wJ[19]? = some (a 19, .inl (cI, 12, .inl x13)) → ∀ ls, lv_has ls 6 [(5, .int x10), (4, .int x4), (0, .ref (a 16)), (1, .ref (a 3)), (2, .int p2)] → (∀ o : (Nat → Int32) × (Nat → Int32) × (Nat → Int32), r = o → ∀ (wK : va_W) (HK : Heap) (lK : List Loc), va_P D vwCl wK HK → va_D A wK → va_S A s.heap HK lK → (∀ j : Nat, j ∉ [16, 17, 18, 19] → wK[j]? = ws0[j]?) → wK[16]? = some (a 16, .inr (0, [.ref (a 17), .ref (a 18), .ref (a 19), .ref (a 20), .int x5, .int x6])) → wK[17]? = some (a 17, .inl (cI, 12, .inl o.1)) → wK[18]? = some (a 18, .inl (cI, 12, .inl o.2.1)) → wK[19]? = some (a 19, .inl (cI, 12, .inl o.2.2)) → ∀ ls, lv_has ls 6 [] → W p l e rm_X0_look s m args below meth c HK lK 0 0 Q (F0 m 109 ls [])) → W p l e rm_X0_look s m args below meth c HJ lJ 0 0 Q (F0 m 31 ls []) := by
      intro nf
      induction nf with
      | zero => intro _ _ _ _ r hF; exact (itr_0 hF).elim
      | succ nf ih =>
        intro x10 x11 x12 x13 r hF w H locs hP hD hS hs h16 h17 h18 h19 ls hl hE
        obtain ⟨wo, hF, hw⟩ := itr_s hF
        replace hF : FX0_look_S31 ro_mood ro_rows ro_columns ro_needs le_times ro_letters ro_tenths le_dares p2 x4 x5 x6 x10 x11 x12 x13 = some wo := hF
        have h3 := (hs 3 (by simp only [List.mem_cons, List.not_mem_nil, or_false, not_or]; omega)).trans z3
        have h5 := (hs 5 (by simp only [List.mem_cons, List.not_mem_nil, or_false, not_or]; omega)).trans z5
        have h6 := (hs 6 (by simp only [List.mem_cons, List.not_mem_nil, or_false, not_or]; omega)).trans z6
        have h8 := (hs 8 (by simp only [List.mem_cons, List.not_mem_nil, or_false, not_or]; omega)).trans z8
        have h10 := (hs 10 (by simp only [List.mem_cons, List.not_mem_nil, or_false, not_or]; omega)).trans z10
        have h12 := (hs 12 (by simp only [List.mem_cons, List.not_mem_nil, or_false, not_or]; omega)).trans z12
        have h4 := (hs 4 (by simp only [List.mem_cons, List.not_mem_nil, or_false, not_or]; omega)).trans z4
        have h7 := (hs 7 (by simp only [List.mem_cons, List.not_mem_nil, or_false, not_or]; omega)).trans z7
        have h11 := (hs 11 (by simp only [List.mem_cons, List.not_mem_nil, or_false, not_or]; omega)).trans z11
        have hJ82 : ∀ (x18 : Int32) (x19 : Int32) (x20 : Int32) (x21 : Nat → Int32) (x22 : Nat → Int32) (x23 : Nat → Int32), ∀ (wJ : va_W) (HJ : Heap) (lJ : List Loc), va_P D vwCl wJ HJ → va_D A wJ → va_S A s.heap HJ lJ → (∀ j : Nat, j ∉ [16, 17, 18, 19] → wJ[j]? = ws0[j]?) → wJ[16]? = some (a 16, .inr (0, [.ref (a 17), .ref (a 18), .ref (a 19), .ref (a 20), .int x5, .int x6])) → wJ[17]? = some (a 17, .inl (cI, 12, .inl x21)) → wJ[18]? = some (a 18, .inl (cI, 12, .inl x22)) → wJ[19]? = some (a 19, .inl (cI, 12, .inl x23)) → ∀ ls, lv_has ls 6 [(5, .int x18), (4, .int x4), (0, .ref (a 16)), (1, .ref (a 3)), (2, .int p2)] → FX0_look_J82L31 ro_mood ro_needs ro_letters ro_tenths le_dares p2 x4 x18 x19 x20 x21 x22 x23 = some wo → W p l e rm_X0_look s m args below meth c HJ lJ 0 0 Q (F0 m 82 ls [.int x20, .int x19, .ref (a 18)]) := by
          intro x18 x19 x20 x21 x22 x23 w H locs hP hD hS hs h16 h17 h18 h19 ls hl hF
          have h3 := (hs 3 (by simp only [List.mem_cons, List.not_mem_nil, or_false, not_or]; omega)).trans z3
          have h5 := (hs 5 (by simp only [List.mem_cons, List.not_mem_nil, or_false, not_or]; omega)).trans z5
          have h6 := (hs 6 (by simp only [List.mem_cons, List.not_mem_nil, or_false, not_or]; omega)).trans z6
          have h8 := (hs 8 (by simp only [List.mem_cons, List.not_mem_nil, or_false, not_or]; omega)).trans z8
          have h10 := (hs 10 (by simp only [List.mem_cons, List.not_mem_nil, or_false, not_or]; omega)).trans z10
          have h12 := (hs 12 (by simp only [List.mem_cons, List.not_mem_nil, or_false, not_or]; omega)).trans z12
          have h4 := (hs 4 (by simp only [List.mem_cons, List.not_mem_nil, or_false, not_or]; omega)).trans z4
          have h7 := (hs 7 (by simp only [List.mem_cons, List.not_mem_nil, or_false, not_or]; omega)).trans z7
          have h11 := (hs 11 (by simp only [List.mem_cons, List.not_mem_nil, or_false, not_or]; omega)).trans z11
          unfold FX0_look_J82L31 at hF
          obtain ⟨u24, e_u24⟩ : ∃ q, q = gput x22 12 x19 x20 := ⟨_, rfl⟩
          replace hF := nm_at hF e_u24
          refine wr_v (runSN (As := [.ref (a 18), .int x19, .int x20]) (rest := []) X cq_X8_put lk_X0_42 (t_X8_put l D cI cJ cZ a w A 18 x22 12 x19 x20 u24 e_u24.symm h18 hD (by decide)) rfl rfl ⟨Nat.le_of_ble_eq_true rfl, Nat.le_of_ble_eq_true rfl⟩ hP rfl hl.1 rfl (Nat.le_of_ble_eq_true rfl) dX0_look_82 ⟨Nat.le_of_ble_eq_true rfl, Nat.le_of_ble_eq_true rfl⟩) hS (fun w25 H locs hP hD hk hB hS => ?_)
          have h18 : w25[18]? = some (a 18, .inl (cI, 12, .inl u24)) := hB
          have h3 := (hk 3 (by simp only [List.mem_cons, List.not_mem_nil, or_false, not_or]; omega)).trans h3
          have h16 := (hk 16 (by simp only [List.mem_cons, List.not_mem_nil, or_false, not_or]; omega)).trans h16
          have h5 := (hk 5 (by simp only [List.mem_cons, List.not_mem_nil, or_false, not_or]; omega)).trans h5
          have h6 := (hk 6 (by simp only [List.mem_cons, List.not_mem_nil, or_false, not_or]; omega)).trans h6
          have h8 := (hk 8 (by simp only [List.mem_cons, List.not_mem_nil, or_false, not_or]; omega)).trans h8
          have h10 := (hk 10 (by simp only [List.mem_cons, List.not_mem_nil, or_false, not_or]; omega)).trans h10
          have h12 := (hk 12 (by simp only [List.mem_cons, List.not_mem_nil, or_false, not_or]; omega)).trans h12
          have h17 := (hk 17 (by simp only [List.mem_cons, List.not_mem_nil, or_false, not_or]; omega)).trans h17
          have h4 := (hk 4 (by simp only [List.mem_cons, List.not_mem_nil, or_false, not_or]; omega)).trans h4
          have h7 := (hk 7 (by simp only [List.mem_cons, List.not_mem_nil, or_false, not_or]; omega)).trans h7
          have h11 := (hk 11 (by simp only [List.mem_cons, List.not_mem_nil, or_false, not_or]; omega)).trans h11
          have h19 := (hk 19 (by simp only [List.mem_cons, List.not_mem_nil, or_false, not_or]; omega)).trans h19
          replace hs := st_tr hk (fun j hj => by simp only [List.mem_cons, List.not_mem_nil, or_false] at hj ⊢; omega) hs
          refine lv_aload_n hx hb dX0_look_85 rfl (lv_at hl 2 rfl) ?_
          refine gf_X0_18 hx hb hts hown hK hP h16 dX0_look_86 ?_
          refine lv_iload hx hb dX0_look_89 (lv_at hl 0 rfl) ?_
          refine lv_aload_n hx hb dX0_look_91 rfl (lv_at hl 3 rfl) ?_
          refine lv_iload hx hb dX0_look_92 (lv_at hl 0 rfl) ?_
          refine lv_iload_n hx hb dX0_look_94 rfl (lv_at hl 4 rfl) ?_
          refine lv_iload hx hb dX0_look_95 (lv_at hl 1 rfl) ?_
          refine rd_i (runVN (As := [.int x18, .int p2, .int x4]) (rest := [.int x18, .ref (a 19)]) X cq_X3_rightTenths lk_X0_49 (c_X3_rightTenths l D cI cJ cZ a w25 ro_pupils ro_mood ro_needs ro_tenths ro_letters le_seed le_questions le_rightOnes le_wrongOnes le_isKept le_dares x18 p2 x4 _ rfl h3 h4 h7 h8 h10 h11) rfl rfl ⟨Nat.le_of_ble_eq_true rfl, Nat.le_of_ble_eq_true rfl⟩ hP h3 rfl rfl hl.1 rfl (Nat.le_of_ble_eq_true rfl) dX0_look_97 ⟨Nat.le_of_ble_eq_true rfl, Nat.le_of_ble_eq_true rfl⟩) ?_
          obtain ⟨u26, e_u26⟩ : ∃ q, q = gput x23 12 x18 (FX3_rightTenths ro_mood ro_needs ro_tenths ro_letters le_dares x18 p2 x4) := ⟨_, rfl⟩
          replace hF := nm_at hF e_u26
          refine wr_v (runSN (As := [.ref (a 19), .int x18, .int (FX3_rightTenths ro_mood ro_needs ro_tenths ro_letters le_dares x18 p2 x4)]) (rest := []) X cq_X8_put lk_X0_42 (t_X8_put l D cI cJ cZ a w25 A 19 x23 12 x18 (FX3_rightTenths ro_mood ro_needs ro_tenths ro_letters le_dares x18 p2 x4) u26 e_u26.symm h19 hD (by decide)) rfl rfl ⟨Nat.le_of_ble_eq_true rfl, Nat.le_of_ble_eq_true rfl⟩ hP rfl hl.1 rfl (Nat.le_of_ble_eq_true rfl) dX0_look_100 ⟨Nat.le_of_ble_eq_true rfl, Nat.le_of_ble_eq_true rfl⟩) hS (fun w27 H locs hP hD hk hB hS => ?_)
          have h19 : w27[19]? = some (a 19, .inl (cI, 12, .inl u26)) := hB
          have h3 := (hk 3 (by simp only [List.mem_cons, List.not_mem_nil, or_false, not_or]; omega)).trans h3
          have h16 := (hk 16 (by simp only [List.mem_cons, List.not_mem_nil, or_false, not_or]; omega)).trans h16
          have h5 := (hk 5 (by simp only [List.mem_cons, List.not_mem_nil, or_false, not_or]; omega)).trans h5
          have h6 := (hk 6 (by simp only [List.mem_cons, List.not_mem_nil, or_false, not_or]; omega)).trans h6
          have h8 := (hk 8 (by simp only [List.mem_cons, List.not_mem_nil, or_false, not_or]; omega)).trans h8
          have h10 := (hk 10 (by simp only [List.mem_cons, List.not_mem_nil, or_false, not_or]; omega)).trans h10
          have h12 := (hk 12 (by simp only [List.mem_cons, List.not_mem_nil, or_false, not_or]; omega)).trans h12
          have h17 := (hk 17 (by simp only [List.mem_cons, List.not_mem_nil, or_false, not_or]; omega)).trans h17
          have h4 := (hk 4 (by simp only [List.mem_cons, List.not_mem_nil, or_false, not_or]; omega)).trans h4
          have h7 := (hk 7 (by simp only [List.mem_cons, List.not_mem_nil, or_false, not_or]; omega)).trans h7
          have h11 := (hk 11 (by simp only [List.mem_cons, List.not_mem_nil, or_false, not_or]; omega)).trans h11
          have h18 := (hk 18 (by simp only [List.mem_cons, List.not_mem_nil, or_false, not_or]; omega)).trans h18
          replace hs := st_tr hk (fun j hj => by simp only [List.mem_cons, List.not_mem_nil, or_false] at hj ⊢; omega) hs
          refine lv_iinc (v := x18 + (1 : Int32)) (lv' := [(5, .int (x18 + (1 : Int32))), (4, .int x4), (0, .ref (a 16)), (1, .ref (a 3)), (2, .int p2)]) hx hb dX0_look_103 hl (k := 0) rfl rfl (by decide) rfl (fun ls hl => ?_)
          refine lv_goto (tgt := 31) hx hb dX0_look_106 (by decide) ?_
          obtain rfl := Option.some.inj hF
          exact ih _ _ _ _ _ hw _ _ _ hP hD hS hs h16 h17 h18 h19 ls (lv_sub hl [0, 1, 2, 3, 4] rfl) hE
        unfold FX0_look_S31 at hF
        refine lv_iload hx hb dX0_look_31 (lv_at hl 0 rfl) ?_
        refine lv_aload_n hx hb dX0_look_33 rfl (lv_at hl 2 rfl) ?_
        refine gf_X0_34 hx hb hts hown hK hP h16 dX0_look_34 ?_
        refine lv_icmp_ge (tgt := 109) hx hb dX0_look_37 (by decide) (fun c14 => ?_) (fun c14 => ?_)
        · replace hF := (if_pos c14).symm.trans hF
          obtain rfl := Option.some.inj hF
          obtain rfl := hw
          exact hE _ rfl _ _ _ hP hD hS hs h16 h17 h18 h19 ls (lv_sub hl [] rfl)
        · replace hF := (if_neg c14).symm.trans hF
          refine lv_aload_n hx hb dX0_look_40 rfl (lv_at hl 2 rfl) ?_
          refine gf_X0_9 hx hb hts hown hK hP h16 dX0_look_41 ?_
          refine lv_iload hx hb dX0_look_44 (lv_at hl 0 rfl) ?_
          refine lv_aload_n hx hb dX0_look_46 rfl (lv_at hl 3 rfl) ?_
          refine lv_iload hx hb dX0_look_47 (lv_at hl 0 rfl) ?_
          refine lv_aload_n hx hb dX0_look_49 rfl (lv_at hl 2 rfl) ?_
          refine gf_X0_35 hx hb hts hown hK hP h16 dX0_look_50 ?_
          refine rd_i (runVN (As := [.int x10, .int x6]) (rest := [.int x10, .ref (a 17)]) X cq_X3_rank lk_X0_38 (c_X3_rank l D cI cJ cZ a w ro_pupils ro_mood ro_rows ro_columns ro_needs le_seed le_questions le_rightOnes le_wrongOnes le_isKept le_times x10 x6 _ rfl h3 h5 h6 h8 h10 h12) rfl rfl ⟨Nat.le_of_ble_eq_true rfl, Nat.le_of_ble_eq_true rfl⟩ hP h3 rfl rfl hl.1 rfl (Nat.le_of_ble_eq_true rfl) dX0_look_53 ⟨Nat.le_of_ble_eq_true rfl, Nat.le_of_ble_eq_true rfl⟩) ?_
          obtain ⟨u15, e_u15⟩ : ∃ q, q = gput x11 12 x10 (FX3_rank ro_rows ro_columns ro_needs le_times x10 x6) := ⟨_, rfl⟩
          replace hF := nm_at hF e_u15
          refine wr_v (runSN (As := [.ref (a 17), .int x10, .int (FX3_rank ro_rows ro_columns ro_needs le_times x10 x6)]) (rest := []) X cq_X8_put lk_X0_42 (t_X8_put l D cI cJ cZ a w A 17 x11 12 x10 (FX3_rank ro_rows ro_columns ro_needs le_times x10 x6) u15 e_u15.symm h17 hD (by decide)) rfl rfl ⟨Nat.le_of_ble_eq_true rfl, Nat.le_of_ble_eq_true rfl⟩ hP rfl hl.1 rfl (Nat.le_of_ble_eq_true rfl) dX0_look_56 ⟨Nat.le_of_ble_eq_true rfl, Nat.le_of_ble_eq_true rfl⟩) hS (fun w16 H locs hP hD hk hB hS => ?_)
          have h17 : w16[17]? = some (a 17, .inl (cI, 12, .inl u15)) := hB
          have h3 := (hk 3 (by simp only [List.mem_cons, List.not_mem_nil, or_false, not_or]; omega)).trans h3
          have h16 := (hk 16 (by simp only [List.mem_cons, List.not_mem_nil, or_false, not_or]; omega)).trans h16
          have h5 := (hk 5 (by simp only [List.mem_cons, List.not_mem_nil, or_false, not_or]; omega)).trans h5
          have h6 := (hk 6 (by simp only [List.mem_cons, List.not_mem_nil, or_false, not_or]; omega)).trans h6
          have h8 := (hk 8 (by simp only [List.mem_cons, List.not_mem_nil, or_false, not_or]; omega)).trans h8
          have h10 := (hk 10 (by simp only [List.mem_cons, List.not_mem_nil, or_false, not_or]; omega)).trans h10
          have h12 := (hk 12 (by simp only [List.mem_cons, List.not_mem_nil, or_false, not_or]; omega)).trans h12
          have h4 := (hk 4 (by simp only [List.mem_cons, List.not_mem_nil, or_false, not_or]; omega)).trans h4
          have h7 := (hk 7 (by simp only [List.mem_cons, List.not_mem_nil, or_false, not_or]; omega)).trans h7
          have h11 := (hk 11 (by simp only [List.mem_cons, List.not_mem_nil, or_false, not_or]; omega)).trans h11
          have h18 := (hk 18 (by simp only [List.mem_cons, List.not_mem_nil, or_false, not_or]; omega)).trans h18
          have h19 := (hk 19 (by simp only [List.mem_cons, List.not_mem_nil, or_false, not_or]; omega)).trans h19
          replace hs := st_tr hk (fun j hj => by simp only [List.mem_cons, List.not_mem_nil, or_false] at hj ⊢; omega) hs
          refine lv_aload_n hx hb dX0_look_59 rfl (lv_at hl 2 rfl) ?_
          refine gf_X0_15 hx hb hts hown hK hP h16 dX0_look_60 ?_
          refine lv_iload hx hb dX0_look_63 (lv_at hl 0 rfl) ?_
          refine lv_iload hx hb dX0_look_65 (lv_at hl 1 rfl) ?_
          refine lv_if_eq (tgt := 75) hx hb dX0_look_67 (by decide) (fun c17 => ?_) (fun c17 => ?_)
          · replace hF := (if_pos c17).symm.trans hF
            refine lv_aload_n hx hb dX0_look_75 rfl (lv_at hl 3 rfl) ?_
            refine lv_iload hx hb dX0_look_76 (lv_at hl 0 rfl) ?_
            refine lv_iload_n hx hb dX0_look_78 rfl (lv_at hl 4 rfl) ?_
            refine rd_i (runVN (As := [.int x10, .int p2]) (rest := [.int x10, .ref (a 18)]) X cq_X3_upTenths lk_X0_46 (c_X3_upTenths l D cI cJ cZ a w16 ro_pupils ro_mood ro_letters ro_needs le_seed le_questions le_rightOnes le_wrongOnes le_isKept le_dares ro_tenths x10 p2 _ rfl h3 h4 h7 h8 h10 h11) rfl rfl ⟨Nat.le_of_ble_eq_true rfl, Nat.le_of_ble_eq_true rfl⟩ hP h3 rfl rfl hl.1 rfl (Nat.le_of_ble_eq_true rfl) dX0_look_79 ⟨Nat.le_of_ble_eq_true rfl, Nat.le_of_ble_eq_true rfl⟩) ?_
            exact hJ82 x10 x10 (FX3_upTenths ro_mood ro_letters ro_needs le_dares ro_tenths x10 p2) u15 x12 x13 _ _ _ hP hD hS hs h16 h17 h18 h19 ls (lv_sub hl [0, 1, 2, 3, 4] rfl) hF
          · replace hF := (if_neg c17).symm.trans hF
            refine lv_bipush (v := (10 : Int32)) hx hb dX0_look_70 (by decide) ?_
            refine lv_goto (tgt := 82) hx hb dX0_look_72 (by decide) ?_
            exact hJ82 x10 x10 (10 : Int32) u15 x12 x13 _ _ _ hP hD hS hs h16 h17 h18 h19 ls (lv_sub hl [0, 1, 2, 3, 4] rfl) hF
    obtain ⟨o28, ho28, hF⟩ := bd_some hF
    refine hL31 fu (0 : Int32) x7 x8 x9 o28 ho28 _ _ _ hP hD hS hs h16 h17 h18 h19 ls (lv_sub hl [0, 1, 2, 3, 4] rfl) ?_
    intro _ q_o28 w H locs hP hD hS hs h16 h17 h18 h19 ls hl
    subst q_o28
    have h3 := (hs 3 (by simp only [List.mem_cons, List.not_mem_nil, or_false, not_or]; omega)).trans z3
    have h5 := (hs 5 (by simp only [List.mem_cons, List.not_mem_nil, or_false, not_or]; omega)).trans z5
    have h6 := (hs 6 (by simp only [List.mem_cons, List.not_mem_nil, or_false, not_or]; omega)).trans z6
    have h8 := (hs 8 (by simp only [List.mem_cons, List.not_mem_nil, or_false, not_or]; omega)).trans z8
    have h10 := (hs 10 (by simp only [List.mem_cons, List.not_mem_nil, or_false, not_or]; omega)).trans z10
    have h12 := (hs 12 (by simp only [List.mem_cons, List.not_mem_nil, or_false, not_or]; omega)).trans z12
    have h4 := (hs 4 (by simp only [List.mem_cons, List.not_mem_nil, or_false, not_or]; omega)).trans z4
    have h7 := (hs 7 (by simp only [List.mem_cons, List.not_mem_nil, or_false, not_or]; omega)).trans z7
    have h11 := (hs 11 (by simp only [List.mem_cons, List.not_mem_nil, or_false, not_or]; omega)).trans z11
    obtain rfl := Option.some.inj hF
    rw [hQ]
    exact rw_v X hS hP hD hs ⟨h16, h17, h18, h19⟩ dX0_look_109
  unfold FX0_look at hF
  refine lv_aload_n hx hb dX0_look_0 rfl (lv_at hl 0 rfl) ?_
  refine lv_aload_n hx hb dX0_look_1 rfl (lv_at hl 1 rfl) ?_
  refine gf_X0_28 hx hb hts hown hK hN hP h3 dX0_look_2 ?_
  refine pf_X0_34 hx hb hts hown hK hP hD hS h16 rfl rfl dX0_look_5 (fun w1 H locs hP hD hk hc hS => ?_)
  have h16 : w1[16]? = some (a 16, .inr (0, [.ref (a 17), .ref (a 18), .ref (a 19), .ref (a 20), .int ro_pupils, .int ch_rule])) := hc
  have h3 := (hk 3 (by omega)).trans h3
  have h5 := (hk 5 (by omega)).trans h5
  have h6 := (hk 6 (by omega)).trans h6
  have h8 := (hk 8 (by omega)).trans h8
  have h10 := (hk 10 (by omega)).trans h10
  have h12 := (hk 12 (by omega)).trans h12
  have h17 := (hk 17 (by omega)).trans h17
  have h4 := (hk 4 (by omega)).trans h4
  have h7 := (hk 7 (by omega)).trans h7
  have h11 := (hk 11 (by omega)).trans h11
  have h18 := (hk 18 (by omega)).trans h18
  have h19 := (hk 19 (by omega)).trans h19
  replace hs := sm_k hk (by simp) hs
  refine lv_aload_n hx hb dX0_look_8 rfl (lv_at hl 0 rfl) ?_
  refine lv_iload_n hx hb dX0_look_9 rfl (lv_at hl 3 rfl) ?_
  refine pf_X0_35 hx hb hts hown hK hP hD hS h16 rfl rfl dX0_look_10 (fun w2 H locs hP hD hk hc hS => ?_)
  have h16 : w2[16]? = some (a 16, .inr (0, [.ref (a 17), .ref (a 18), .ref (a 19), .ref (a 20), .int ro_pupils, .int p3])) := hc
  have h3 := (hk 3 (by omega)).trans h3
  have h5 := (hk 5 (by omega)).trans h5
  have h6 := (hk 6 (by omega)).trans h6
  have h8 := (hk 8 (by omega)).trans h8
  have h10 := (hk 10 (by omega)).trans h10
  have h12 := (hk 12 (by omega)).trans h12
  have h17 := (hk 17 (by omega)).trans h17
  have h4 := (hk 4 (by omega)).trans h4
  have h7 := (hk 7 (by omega)).trans h7
  have h11 := (hk 11 (by omega)).trans h11
  have h18 := (hk 18 (by omega)).trans h18
  have h19 := (hk 19 (by omega)).trans h19
  replace hs := sm_k hk (by simp) hs
  refine lv_aload_n hx hb dX0_look_13 rfl (lv_at hl 0 rfl) ?_
  refine gf_X0_35 hx hb hts hown hK hP h16 dX0_look_14 ?_
  refine lv_iconst (v := (3 : Int32)) hx hb dX0_look_17 (by decide) ?_
  refine lv_icmp_ne (tgt := 25) hx hb dX0_look_18 (by decide) (fun c3 => ?_) (fun c3 => ?_)
  · replace hF := (if_neg c3).symm.trans hF
    refine lv_iconst (v := (0 : Int32)) hx hb dX0_look_25 (by decide) ?_
    exact hJ26 (0 : Int32) ro_pupils p3 ch_ranks ch_eligible ch_eligibleAndRight _ _ _ hP hD hS hs h16 h17 h18 h19 ls (lv_sub hl [0, 1, 2] rfl) hF
  · replace hF := (if_pos c3).symm.trans hF
    refine lv_iconst (v := (1 : Int32)) hx hb dX0_look_21 (by decide) ?_
    refine lv_goto (tgt := 26) hx hb dX0_look_22 (by decide) ?_
    exact hJ26 (1 : Int32) ro_pupils p3 ch_ranks ch_eligible ch_eligibleAndRight _ _ _ hP hD hS hs h16 h17 h18 h19 ls (lv_sub hl [0, 1, 2] rfl) hF
def FX8_share (p1 : Int32) : Option (Int64) :=
  if (1 : Int32) ≤ p1 then (if p1 = 0 then none else some (((27720 : Int32) / p1).toInt64)) else (some (0 : Int64))
def gshare (n : Int32) : Int64 := if (1 : Int32) ≤ n then ((27720 : Int32) / n).toInt64 else 0
theorem FX8_share_eq (n : Int32) : FX8_share n = some (gshare n) := by
  unfold FX8_share gshare
  by_cases h : (1 : Int32) ≤ n
  · have h0 : ¬ n = 0 := by intro e; subst e; exact absurd h (by decide)
    rw [if_pos h, if_pos h, if_neg h0]
  · rw [if_neg h, if_neg h]
def rm_X8_share : Room := { frames := 0, cells := 0, slots := 0, locals := 0 }
set_option maxHeartbeats 4000000 in
set_option maxRecDepth 100000 in
theorem c_X8_share (l : Launch) (D : va_G) (cI cJ cZ : ClassId) (a : Nat → Nat) (ws0 : va_W)   (p1 : Int32) (u : Int64) (hF : FX8_share p1 = some u) : Met l yX8_share (wq yX8_share cX8_share 1 (some .long)) rm_X8_share (Pq [.int p1] D cI cJ cZ ws0) (Qq (some (.long u))) 0 0 (fun _ => False) := by
  refine mq_of (by decide) (Nat.le_of_ble_eq_true rfl) (fun p e s m args below meth c ls Q hQ X _ hP hl => ?_)
  obtain ⟨hx, hb, hr, hml, hown, hts, hlk, hK, hN⟩ := id X
  have hown : s.vm.findClass RX8 = some m.cls := hown
  have hl : lv_has ls 1 [(0, .int p1)] := hl
  unfold FX8_share at hF
  refine lv_iload_n hx hb dX8_share_0 rfl (lv_at hl 0 rfl) ?_
  refine lv_iconst (v := (1 : Int32)) hx hb dX8_share_1 (by decide) ?_
  refine lv_icmp_ge (tgt := 9) hx hb dX8_share_2 (by decide) (fun c1 => ?_) (fun c1 => ?_)
  · replace hF := (if_pos c1).symm.trans hF
    refine lv_sipush (v := (27720 : Int32)) hx hb dX8_share_9 (by decide) ?_
    refine lv_iload_n hx hb dX8_share_12 rfl (lv_at hl 0 rfl) ?_
    obtain ⟨hg2, hF⟩ := gd_some hF
    refine lv_idiv hx hb dX8_share_13 hg2 ?_
    refine lv_i2l hx hb dX8_share_14 rfl ?_
    obtain rfl := Option.some.inj hF
    rw [hQ]
    exact rt_l X dX8_share_15
  · replace hF := (if_neg c1).symm.trans hF
    refine lv_lconst (v := (0 : Int64)) hx hb dX8_share_5 (by decide) ?_
    refine lv_goto (tgt := 15) hx hb dX8_share_6 (by decide) ?_
    obtain rfl := Option.some.inj hF
    rw [hQ]
    exact rt_l X dX8_share_15
theorem t_X8_share (l : Launch) (D : va_G) (cI cJ cZ : ClassId) (a : Nat → Nat) (ws0 : va_W)   (p1 : Int32) (u : Int64) (hF : gshare p1 = u)  : Met l yX8_share (wq yX8_share cX8_share 1 (some .long)) rm_X8_share (Pq [.int p1] D cI cJ cZ ws0) (Qq (some (.long u))) 0 0 (fun _ => False) :=
  c_X8_share l D cI cJ cZ a ws0   p1 u ((FX8_share_eq p1).trans (congrArg some hF))
