def FX8_outside (p1 : Int32) (p2 : Int32) (p3 : Int32) : Bool :=
  if p1 < p2 then true else (if p1 ≤ p3 then false else true)
def rm_X8_outside : Room := { frames := 0, cells := 0, slots := 0, locals := 0 }
set_option maxHeartbeats 4000000 in
set_option maxRecDepth 100000 in
theorem c_X8_outside (l : Launch) (D : va_G) (cI cJ cZ : ClassId) (a : Nat → Nat) (ws0 : va_W)   (p1 : Int32) (p2 : Int32) (p3 : Int32) (u : Bool) (hF : FX8_outside p1 p2 p3 = u) : Met l yX8_outside (wq yX8_outside cX8_outside 3 (some .boolean)) rm_X8_outside (Pq [.int p1, .int p2, .int p3] D cI cJ cZ ws0) (Qq (some (.int (bi u)))) 0 0 (fun _ => False) := by
  refine mq_of (by decide) (Nat.le_of_ble_eq_true rfl) (fun p e s m args below meth c ls Q hQ X _ hP hl => ?_)
  obtain ⟨hx, hb, hr, hml, hown, hts, hlk, hK, hN⟩ := id X
  have hown : s.vm.findClass RX8 = some m.cls := hown
  have hl : lv_has ls 3 [(0, .int p1), (1, .int p2), (2, .int p3)] := hl
  unfold FX8_outside at hF
  refine lv_iload_n hx hb dX8_outside_0 rfl (lv_at hl 0 rfl) ?_
  refine lv_iload_n hx hb dX8_outside_1 rfl (lv_at hl 1 rfl) ?_
  refine lv_icmp_lt (tgt := 10) hx hb dX8_outside_2 (by decide) (fun c1 => ?_) (fun c1 => ?_)
  · replace hF := (if_pos c1).symm.trans hF
    refine lv_iconst (v := (1 : Int32)) hx hb dX8_outside_10 (by decide) ?_
    refine lv_goto (tgt := 15) hx hb dX8_outside_11 (by decide) ?_
    subst hF
    rw [hQ]
    exact rt_z (b := true) X dX8_outside_15
  · replace hF := (if_neg c1).symm.trans hF
    refine lv_iload_n hx hb dX8_outside_5 rfl (lv_at hl 0 rfl) ?_
    refine lv_iload_n hx hb dX8_outside_6 rfl (lv_at hl 2 rfl) ?_
    refine lv_icmp_le (tgt := 14) hx hb dX8_outside_7 (by decide) (fun c2 => ?_) (fun c2 => ?_)
    · replace hF := (if_pos c2).symm.trans hF
      refine lv_iconst (v := (0 : Int32)) hx hb dX8_outside_14 (by decide) ?_
      subst hF
      rw [hQ]
      exact rt_z (b := false) X dX8_outside_15
    · replace hF := (if_neg c2).symm.trans hF
      refine lv_iconst (v := (1 : Int32)) hx hb dX8_outside_10 (by decide) ?_
      refine lv_goto (tgt := 15) hx hb dX8_outside_11 (by decide) ?_
      subst hF
      rw [hQ]
      exact rt_z (b := true) X dX8_outside_15
def FX8_put (p_f : Nat → Int32) (n : Nat) (p2 : Int32) (p3 : Int32) : Option ((Nat → Int32)) :=
  if p2 < 0 then (some p_f) else (if (nI n) ≤ p2 then (some p_f) else (if p2 < 0 ∨ n ≤ p2.toNatClampNeg then none else some (upd p_f p2.toNatClampNeg p3)))
def gput (f : Nat → Int32) (n : Nat) (i v : Int32) : Nat → Int32 := if i < 0 then f else if nI n ≤ i then f else upd f i.toNatClampNeg v
theorem FX8_put_eq (f : Nat → Int32) (n : Nat) (i v : Int32) (hn : n < 2147483648) : FX8_put f n i v = some (gput f n i v) := by
  unfold FX8_put gput
  rcases pk_ix i hn with h | h | ⟨j, hj, rfl⟩
  · rw [if_pos h, if_pos h]
  · by_cases h0 : i < 0
    · rw [if_pos h0, if_pos h0]
    · rw [if_neg h0, if_neg h0, if_pos h, if_pos h]
  · have h2 : j < 2147483648 := Nat.lt_trans hj hn
    rw [if_neg (nI_pos h2), if_neg (nI_pos h2), if_neg (nI_ge hj hn), if_neg (nI_ge hj hn), if_neg (vp_in_nI hj hn)]
def rm_X8_put : Room := { frames := 0, cells := 0, slots := 0, locals := 0 }
set_option maxHeartbeats 4000000 in
set_option maxRecDepth 100000 in
theorem c_X8_put (l : Launch) (D : va_G) (cI cJ cZ : ClassId) (a : Nat → Nat) (ws0 : va_W) (A : Nat → Prop) (k : Nat) (p_f : Nat → Int32) (n : Nat) (p2 : Int32) (p3 : Int32) (u : (Nat → Int32)) (hF : FX8_put p_f n p2 p3 = some u) (z_k0 : ws0[k]? = some (a k, .inl (cI, n, .inl p_f))) (hD : va_D A ws0) : Met l yX8_put (wq yX8_put cX8_put 3 none) rm_X8_put (Pq [.ref (a k), .int p2, .int p3] D cI cJ cZ ws0) (Qw D A ws0 [k] none (fun w => w[k]? = some (a k, .inl (cI, n, .inl u)))) 0 0 A := by
  refine mq_of (by decide) (Nat.le_of_ble_eq_true rfl) (fun p e s m args below meth c ls Q hQ X _ hP hl => ?_)
  obtain ⟨hx, hb, hr, hml, hown, hts, hlk, hK, hN⟩ := id X
  have hown : s.vm.findClass RX8 = some m.cls := hown
  have hl : lv_has ls 3 [(0, .ref (a k)), (1, .int p2), (2, .int p3)] := hl
  have hS : va_S A s.heap s.heap [] := va_S.rf
  have hs : ∀ j : Nat, j ∉ [k] → ws0[j]? = ws0[j]? := fun _ _ => rfl
  have h_k0 := z_k0
  unfold FX8_put at hF
  refine lv_iload_n hx hb dX8_put_0 rfl (lv_at hl 1 rfl) ?_
  refine lv_if_lt (tgt := 14) hx hb dX8_put_1 (by decide) (fun c1 => ?_) (fun c1 => ?_)
  · replace hF := (if_pos c1).symm.trans hF
    obtain rfl := Option.some.inj hF
    rw [hQ]
    exact rw_v X hS hP hD hs h_k0 dX8_put_14
  · replace hF := (if_neg c1).symm.trans hF
    refine lv_iload_n hx hb dX8_put_4 rfl (lv_at hl 1 rfl) ?_
    refine lv_aload_n hx hb dX8_put_5 rfl (lv_at hl 0 rfl) ?_
    refine va_alen (v := nI n) hx hb hK hP k 0 h_k0 rfl rfl dX8_put_6 ?_
    refine lv_icmp_ge (tgt := 14) hx hb dX8_put_7 (by decide) (fun c2 => ?_) (fun c2 => ?_)
    · replace hF := (if_pos c2).symm.trans hF
      obtain rfl := Option.some.inj hF
      rw [hQ]
      exact rw_v X hS hP hD hs h_k0 dX8_put_14
    · replace hF := (if_neg c2).symm.trans hF
      refine lv_aload_n hx hb dX8_put_10 rfl (lv_at hl 0 rfl) ?_
      refine lv_iload_n hx hb dX8_put_11 rfl (lv_at hl 1 rfl) ?_
      refine lv_iload_n hx hb dX8_put_12 rfl (lv_at hl 2 rfl) ?_
      obtain ⟨hg3, hF⟩ := gd_some hF
      refine ast_i hx hb hK hP hD hS h_k0 hg3 dX8_put_13 (fun w4 H locs hP hD hk hc hS => ?_)
      have h_k0 : w4[k]? = some (a k, .inl (cI, n, .inl (upd p_f p2.toNatClampNeg p3))) := hc
      replace hs := sm_k hk (by simp) hs
      obtain rfl := Option.some.inj hF
      rw [hQ]
      exact rw_v X hS hP hD hs h_k0 dX8_put_14
theorem t_X8_put (l : Launch) (D : va_G) (cI cJ cZ : ClassId) (a : Nat → Nat) (ws0 : va_W) (A : Nat → Prop) (k : Nat) (p_f : Nat → Int32) (n : Nat) (p2 : Int32) (p3 : Int32) (u : (Nat → Int32)) (hF : gput p_f n p2 p3 = u) (z_k0 : ws0[k]? = some (a k, .inl (cI, n, .inl p_f))) (hD : va_D A ws0) (hq0 : n < 2147483648) : Met l yX8_put (wq yX8_put cX8_put 3 none) rm_X8_put (Pq [.ref (a k), .int p2, .int p3] D cI cJ cZ ws0) (Qw D A ws0 [k] none (fun w => w[k]? = some (a k, .inl (cI, n, .inl u)))) 0 0 A :=
  c_X8_put l D cI cJ cZ a ws0 A k p_f n p2 p3 u ((FX8_put_eq p_f n p2 p3 hq0).trans (congrArg some hF)) z_k0 hD
def FX6_append_S19 (p2 : Int64) (x2 : Int32) (x3 : Nat → Int32) (x4 : Int32) : Option ((Int32 × (Nat → Int32) × Int32) ⊕ ((Nat → Int32) × Int32)) :=
  if x2 < 0 then (some (.inr (x3, x4))) else (nmb (gput x3 72 x4 ((((p2.toUInt64 >>> (((8 : Int32) * x2).toInt64.toUInt64 &&& Int64.toUInt64 63)).toInt64).toInt32) &&& (255 : Int32))) fun u6 => some (.inl (x2 + (-1 : Int32), u6, x4 + (1 : Int32))))
def FX6_append (tx_length : Int32) (tx_bytes : Nat → Int32) (p1 : Int32) (p2 : Int64) : Option (Int32 × (Nat → Int32) × Int32) :=
  if (tx_length + p1) ≤ (72 : Int32) then ((itr (fun v => FX6_append_S19 p2 v.1 v.2.1 v.2.2) fu (p1 - (1 : Int32), tx_bytes, tx_length)).bind fun o9 => some (o9.2, o9.1, o9.2)) else (some ((-4 : Int32), tx_bytes, tx_length))
def rm_X6_append : Room := { frames := 1, cells := 0, slots := 0, locals := 22 }
set_option maxHeartbeats 4000000 in
set_option maxRecDepth 100000 in
theorem c_X6_append (l : Launch) (D : va_G) (cI cJ cZ : ClassId) (a : Nat → Nat) (ws0 : va_W) (A : Nat → Prop)  (tx_length : Int32) (tx_bytes : Nat → Int32) (p1 : Int32) (p2 : Int64) (u : Int32 × (Nat → Int32) × Int32) (hF : FX6_append tx_length tx_bytes p1 p2 = some u) (z1 : ws0[1]? = some (a 1, .inr (6, [.ref (a 2), .int tx_length]))) (z2 : ws0[2]? = some (a 2, .inl (cI, 72, .inl tx_bytes))) (hD : va_D A ws0) : Met l yX6_append (wq yX6_append cX6_append 5 (some .int)) rm_X6_append (Pq [.ref (a 1), .int p1, .long p2] D cI cJ cZ ws0) (Qw D A ws0 [2, 1] (some (.int u.1)) (fun w => w[2]? = some (a 2, .inl (cI, 72, .inl u.2.1)) ∧ w[1]? = some (a 1, .inr (6, [.ref (a 2), .int u.2.2])))) 0 0 A := by
  refine mq_of (by decide) (Nat.le_of_ble_eq_true rfl) (fun p e s m args below meth c ls Q hQ X _ hP hl => ?_)
  obtain ⟨hx, hb, hr, hml, hown, hts, hlk, hK, hN⟩ := id X
  have hown : s.vm.findClass RX6 = some m.cls := hown
  have hl : lv_has ls 5 [(0, .ref (a 1)), (1, .int p1), (2, .long p2)] := hl
  have hS : va_S A s.heap s.heap [] := va_S.rf
  have hs : ∀ j : Nat, j ∉ [2, 1] → ws0[j]? = ws0[j]? := fun _ _ => rfl
  have h1 := z1
  have h2 := z2
  unfold FX6_append at hF
  refine lv_aload_n hx hb dX6_append_0 rfl (lv_at hl 0 rfl) ?_
  refine gf_X6_15 hx hb hts hown hK hP h1 dX6_append_1 ?_
  refine lv_iload_n hx hb dX6_append_4 rfl (lv_at hl 1 rfl) ?_
  refine lv_iadd hx hb dX6_append_5 ?_
  refine lv_bipush (v := (72 : Int32)) hx hb dX6_append_6 (by decide) ?_
  refine lv_icmp_le (tgt := 14) hx hb dX6_append_8 (by decide) (fun c1 => ?_) (fun c1 => ?_)
  · replace hF := (if_pos c1).symm.trans hF
    refine lv_iload_n hx hb dX6_append_14 rfl (lv_at hl 1 rfl) ?_
    refine lv_iconst (v := (1 : Int32)) hx hb dX6_append_15 (by decide) ?_
    refine lv_isub hx hb dX6_append_16 ?_
    refine lv_istore (lv' := [(4, .int (p1 - (1 : Int32))), (0, .ref (a 1)), (1, .int p1), (2, .long p2)]) hx hb dX6_append_17 hl (by decide) rfl (fun ls hl => ?_)
    have hL19 : ∀ (nf : Nat) (x2 : Int32) (x3 : Nat → Int32) (x4 : Int32) (r : (Nat → Int32) × Int32), itr (fun v => FX6_append_S19 p2 v.1 v.2.1 v.2.2) nf (x2, x3, x4) = some r → ∀ (wJ : va_W) (HJ : Heap) (lJ : List Loc), va_P D vwCl wJ HJ → va_D A wJ → va_S A s.heap HJ lJ → (∀ j : Nat, j ∉ [2, 1] → wJ[j]? = ws0[j]?) → wJ[2]? = some (a 2, .inl (cI, 72, .inl x3)) → wJ[1]? = some (a 1, .inr (6, [.ref (a 2), .int x4])) → ∀ ls, lv_has ls 5 [(4, .int x2), (0, .ref (a 1)), (2, .long p2)] → (∀ o : (Nat → Int32) × Int32, r = o → ∀ (wK : va_W) (HK : Heap) (lK : List Loc), va_P D vwCl wK HK → va_D A wK → va_S A s.heap HK lK → (∀ j : Nat, j ∉ [2, 1] → wK[j]? = ws0[j]?) → wK[2]? = some (a 2, .inl (cI, 72, .inl o.1)) → wK[1]? = some (a 1, .inr (6, [.ref (a 2), .int o.2])) → ∀ ls, lv_has ls 5 [(0, .ref (a 1))] → W p l e rm_X6_append s m args below meth c HK lK 0 0 Q (F0 m 63 ls [])) → W p l e rm_X6_append s m args below meth c HJ lJ 0 0 Q (F0 m 19 ls []) := by
      intro nf
      induction nf with
      | zero => intro _ _ _ r hF; exact (itr_0 hF).elim
      | succ nf ih =>
        intro x2 x3 x4 r hF w H locs hP hD hS hs h2 h1 ls hl hE
        obtain ⟨wo, hF, hw⟩ := itr_s hF
        replace hF : FX6_append_S19 p2 x2 x3 x4 = some wo := hF
        unfold FX6_append_S19 at hF
        refine lv_iload hx hb dX6_append_19 (lv_at hl 0 rfl) ?_
        refine lv_if_lt (tgt := 63) hx hb dX6_append_21 (by decide) (fun c5 => ?_) (fun c5 => ?_)
        · replace hF := (if_pos c5).symm.trans hF
          obtain rfl := Option.some.inj hF
          obtain rfl := hw
          exact hE _ rfl _ _ _ hP hD hS hs h2 h1 ls (lv_sub hl [1] rfl)
        · replace hF := (if_neg c5).symm.trans hF
          refine lv_aload_n hx hb dX6_append_24 rfl (lv_at hl 1 rfl) ?_
          refine gf_X6_9 hx hb hts hown hK hP h1 dX6_append_25 ?_
          refine lv_aload_n hx hb dX6_append_28 rfl (lv_at hl 1 rfl) ?_
          refine gf_X6_15 hx hb hts hown hK hP h1 dX6_append_29 ?_
          refine lv_lload_n hx hb dX6_append_32 rfl (lv_at hl 2 rfl) ?_
          refine lv_bipush (v := (8 : Int32)) hx hb dX6_append_33 (by decide) ?_
          refine lv_iload hx hb dX6_append_35 (lv_at hl 0 rfl) ?_
          refine lv_imul hx hb dX6_append_37 ?_
          refine lv_lushr hx hb dX6_append_38 rfl ?_
          refine lv_l2i hx hb dX6_append_39 rfl ?_
          refine lv_sipush (v := (255 : Int32)) hx hb dX6_append_40 (by decide) ?_
          refine lv_iand hx hb dX6_append_43 ?_
          obtain ⟨u6, e_u6⟩ : ∃ q, q = gput x3 72 x4 ((((p2.toUInt64 >>> (((8 : Int32) * x2).toInt64.toUInt64 &&& Int64.toUInt64 63)).toInt64).toInt32) &&& (255 : Int32)) := ⟨_, rfl⟩
          replace hF := nm_at hF e_u6
          refine wr_v (runSN (As := [.ref (a 2), .int x4, .int ((((p2.toUInt64 >>> (((8 : Int32) * x2).toInt64.toUInt64 &&& Int64.toUInt64 63)).toInt64).toInt32) &&& (255 : Int32))]) (rest := []) X cq_X8_put lk_X6_19 (t_X8_put l D cI cJ cZ a w A 2 x3 72 x4 ((((p2.toUInt64 >>> (((8 : Int32) * x2).toInt64.toUInt64 &&& Int64.toUInt64 63)).toInt64).toInt32) &&& (255 : Int32)) u6 e_u6.symm h2 hD (by decide)) rfl rfl ⟨Nat.le_of_ble_eq_true rfl, Nat.le_of_ble_eq_true rfl⟩ hP rfl hl.1 rfl (Nat.le_of_ble_eq_true rfl) dX6_append_44 ⟨Nat.le_of_ble_eq_true rfl, Nat.le_of_ble_eq_true rfl⟩) hS (fun w7 H locs hP hD hk hB hS => ?_)
          have h2 : w7[2]? = some (a 2, .inl (cI, 72, .inl u6)) := hB
          have h1 := (hk 1 (by simp only [List.mem_cons, List.not_mem_nil, or_false, not_or]; omega)).trans h1
          replace hs := st_tr hk (fun j hj => by simp only [List.mem_cons, List.not_mem_nil, or_false] at hj ⊢; omega) hs
          refine lv_aload_n hx hb dX6_append_47 rfl (lv_at hl 1 rfl) ?_
          refine lv_dup hx hb dX6_append_48 rfl ?_
          refine gf_X6_15 hx hb hts hown hK hP h1 dX6_append_49 ?_
          refine lv_iconst (v := (1 : Int32)) hx hb dX6_append_52 (by decide) ?_
          refine lv_iadd hx hb dX6_append_53 ?_
          refine pf_X6_15 hx hb hts hown hK hP hD hS h1 rfl rfl dX6_append_54 (fun w8 H locs hP hD hk hc hS => ?_)
          have h1 : w8[1]? = some (a 1, .inr (6, [.ref (a 2), .int (x4 + (1 : Int32))])) := hc
          have h2 := (hk 2 (by omega)).trans h2
          replace hs := sm_k hk (by simp) hs
          refine lv_iinc (v := x2 + (-1 : Int32)) (lv' := [(4, .int (x2 + (-1 : Int32))), (0, .ref (a 1)), (2, .long p2)]) hx hb dX6_append_57 hl (k := 0) rfl rfl (by decide) rfl (fun ls hl => ?_)
          refine lv_goto (tgt := 19) hx hb dX6_append_60 (by decide) ?_
          obtain rfl := Option.some.inj hF
          exact ih _ _ _ _ hw _ _ _ hP hD hS hs h2 h1 ls (lv_sub hl [0, 1, 2] rfl) hE
    obtain ⟨o9, ho9, hF⟩ := bd_some hF
    refine hL19 fu (p1 - (1 : Int32)) tx_bytes tx_length o9 ho9 _ _ _ hP hD hS hs h2 h1 ls (lv_sub hl [0, 1, 3] rfl) ?_
    intro _ q_o9 w H locs hP hD hS hs h2 h1 ls hl
    subst q_o9
    refine lv_aload_n hx hb dX6_append_63 rfl (lv_at hl 0 rfl) ?_
    refine gf_X6_15 hx hb hts hown hK hP h1 dX6_append_64 ?_
    obtain rfl := Option.some.inj hF
    rw [hQ]
    exact rw_i X hS hP hD hs ⟨h2, h1⟩ dX6_append_67
  · replace hF := (if_neg c1).symm.trans hF
    refine lv_bipush (v := (-4 : Int32)) hx hb dX6_append_11 (by decide) ?_
    obtain rfl := Option.some.inj hF
    rw [hQ]
    exact rw_i X hS hP hD hs ⟨h2, h1⟩ dX6_append_13
def FX8_write (tx_length : Int32) (tx_bytes : Nat → Int32) (p1 : Int32) (p2 : Int64) : Option (Int32 × (Nat → Int32) × Int32) :=
  if (FX8_outside p1 (1 : Int32) (8 : Int32)) = true then (some ((-2 : Int32), tx_bytes, tx_length)) else ((FX6_append tx_length tx_bytes p1 p2).bind fun u2 => some (u2.1, u2.2.1, u2.2.2))
def rm_X8_write : Room := { frames := 2, cells := 0, slots := 0, locals := 46 }
set_option maxHeartbeats 4000000 in
set_option maxRecDepth 100000 in
theorem c_X8_write (l : Launch) (D : va_G) (cI cJ cZ : ClassId) (a : Nat → Nat) (ws0 : va_W) (A : Nat → Prop)  (tx_length : Int32) (tx_bytes : Nat → Int32) (p1 : Int32) (p2 : Int64) (u : Int32 × (Nat → Int32) × Int32) (hF : FX8_write tx_length tx_bytes p1 p2 = some u) (z0 : ws0[0]? = some (a 0, .inr (8, [.ref (a 1), .ref (a 3), .ref (a 13), .ref (a 16), .ref (a 22), .ref (a 25), .ref (a 28), .ref (a 33)]))) (z1 : ws0[1]? = some (a 1, .inr (6, [.ref (a 2), .int tx_length]))) (z2 : ws0[2]? = some (a 2, .inl (cI, 72, .inl tx_bytes))) (hD : va_D A ws0) : Met l yX8_write (wq yX8_write cX8_write 4 (some .int)) rm_X8_write (Pq [.ref (a 0), .int p1, .long p2] D cI cJ cZ ws0) (Qw D A ws0 [2, 1] (some (.int u.1)) (fun w => w[2]? = some (a 2, .inl (cI, 72, .inl u.2.1)) ∧ w[1]? = some (a 1, .inr (6, [.ref (a 2), .int u.2.2])))) 0 0 A := by
  refine mq_of (by decide) (Nat.le_of_ble_eq_true rfl) (fun p e s m args below meth c ls Q hQ X _ hP hl => ?_)
  obtain ⟨hx, hb, hr, hml, hown, hts, hlk, hK, hN⟩ := id X
  have hown : s.vm.findClass RX8 = some m.cls := hown
  have hl : lv_has ls 4 [(0, .ref (a 0)), (1, .int p1), (2, .long p2)] := hl
  have hS : va_S A s.heap s.heap [] := va_S.rf
  have hs : ∀ j : Nat, j ∉ [2, 1] → ws0[j]? = ws0[j]? := fun _ _ => rfl
  have h0 := z0
  have h1 := z1
  have h2 := z2
  unfold FX8_write at hF
  refine lv_iload_n hx hb dX8_write_0 rfl (lv_at hl 1 rfl) ?_
  refine lv_iconst (v := (1 : Int32)) hx hb dX8_write_1 (by decide) ?_
  refine lv_bipush (v := (8 : Int32)) hx hb dX8_write_2 (by decide) ?_
  refine rd_i (runS (As := [.int p1, .int (1 : Int32), .int (8 : Int32)]) (rest := []) X cq_X8_outside lk_X8_61 (c_X8_outside l D cI cJ cZ a ws0 p1 (1 : Int32) (8 : Int32) _ rfl ) rfl rfl ⟨Nat.le_of_ble_eq_true rfl, Nat.le_of_ble_eq_true rfl⟩ hP rfl hl.1 rfl (Nat.le_of_ble_eq_true rfl) dX8_write_4 ⟨Nat.le_of_ble_eq_true rfl, Nat.le_of_ble_eq_true rfl⟩) ?_
  refine zf_eq (tgt := 15) hx hb dX8_write_7 (by decide) (fun c1 => ?_) (fun c1 => ?_)
  · replace hF := (if_neg c1).symm.trans hF
    refine lv_aload_n hx hb dX8_write_15 rfl (lv_at hl 0 rfl) ?_
    refine gf_X8_10 hx hb hts hown hK hP h0 dX8_write_16 ?_
    refine lv_iload_n hx hb dX8_write_19 rfl (lv_at hl 1 rfl) ?_
    refine lv_lload_n hx hb dX8_write_20 rfl (lv_at hl 2 rfl) ?_
    obtain ⟨u2, hu2, hF⟩ := bd_some hF
    refine wr_i (runVN (As := [.int p1, .long p2]) (rest := []) X cq_X6_append lk_X8_65 (c_X6_append l D cI cJ cZ a ws0 A tx_length tx_bytes p1 p2 u2 hu2 h1 h2 hD) rfl rfl ⟨Nat.le_of_ble_eq_true rfl, Nat.le_of_ble_eq_true rfl⟩ hP h1 rfl rfl hl.1 rfl (Nat.le_of_ble_eq_true rfl) dX8_write_21 ⟨Nat.le_of_ble_eq_true rfl, Nat.le_of_ble_eq_true rfl⟩) hS (fun w3 H locs hP hD hk hB hS => ?_)
    obtain ⟨hB0, hB1⟩ := hB
    have h2 : w3[2]? = some (a 2, .inl (cI, 72, .inl u2.2.1)) := hB0
    have h1 : w3[1]? = some (a 1, .inr (6, [.ref (a 2), .int u2.2.2])) := hB1
    have h0 := (hk 0 (by simp only [List.mem_cons, List.not_mem_nil, or_false, not_or]; omega)).trans h0
    replace hs := st_tr hk (fun j hj => by simp only [List.mem_cons, List.not_mem_nil, or_false] at hj ⊢; omega) hs
    obtain rfl := Option.some.inj hF
    rw [hQ]
    exact rw_i X hS hP hD hs ⟨h2, h1⟩ dX8_write_24
  · replace hF := (if_pos c1).symm.trans hF
    refine lv_bipush (v := (-2 : Int32)) hx hb dX8_write_10 (by decide) ?_
    refine lv_goto (tgt := 24) hx hb dX8_write_12 (by decide) ?_
    obtain rfl := Option.some.inj hF
    rw [hQ]
    exact rw_i X hS hP hD hs ⟨h2, h1⟩ dX8_write_24
def FX6_empty (tx_length : Int32) : Int32 × Int32 :=
  (tx_length, (0 : Int32))
def rm_X6_empty : Room := { frames := 0, cells := 0, slots := 0, locals := 0 }
set_option maxHeartbeats 4000000 in
set_option maxRecDepth 100000 in
theorem c_X6_empty (l : Launch) (D : va_G) (cI cJ cZ : ClassId) (a : Nat → Nat) (ws0 : va_W) (A : Nat → Prop)  (tx_length : Int32)  (u : Int32 × Int32) (hF : FX6_empty tx_length = u) (z1 : ws0[1]? = some (a 1, .inr (6, [.ref (a 2), .int tx_length]))) (hD : va_D A ws0) : Met l yX6_empty (wq yX6_empty cX6_empty 2 (some .int)) rm_X6_empty (Pq [.ref (a 1)] D cI cJ cZ ws0) (Qw D A ws0 [1] (some (.int u.1)) (fun w => w[1]? = some (a 1, .inr (6, [.ref (a 2), .int u.2])))) 0 0 A := by
  refine mq_of (by decide) (Nat.le_of_ble_eq_true rfl) (fun p e s m args below meth c ls Q hQ X _ hP hl => ?_)
  obtain ⟨hx, hb, hr, hml, hown, hts, hlk, hK, hN⟩ := id X
  have hown : s.vm.findClass RX6 = some m.cls := hown
  have hl : lv_has ls 2 [(0, .ref (a 1))] := hl
  have hS : va_S A s.heap s.heap [] := va_S.rf
  have hs : ∀ j : Nat, j ∉ [1] → ws0[j]? = ws0[j]? := fun _ _ => rfl
  have h1 := z1
  unfold FX6_empty at hF
  refine lv_aload_n hx hb dX6_empty_0 rfl (lv_at hl 0 rfl) ?_
  refine gf_X6_15 hx hb hts hown hK hP h1 dX6_empty_1 ?_
  refine lv_istore_n (lv' := [(1, .int tx_length), (0, .ref (a 1))]) hx hb dX6_empty_4 rfl hl (by decide) rfl (fun ls hl => ?_)
  refine lv_aload_n hx hb dX6_empty_5 rfl (lv_at hl 1 rfl) ?_
  refine lv_iconst (v := (0 : Int32)) hx hb dX6_empty_6 (by decide) ?_
  refine pf_X6_15 hx hb hts hown hK hP hD hS h1 rfl rfl dX6_empty_7 (fun w1 H locs hP hD hk hc hS => ?_)
  have h1 : w1[1]? = some (a 1, .inr (6, [.ref (a 2), .int (0 : Int32)])) := hc
  replace hs := sm_k hk (by simp) hs
  refine lv_iload_n hx hb dX6_empty_10 rfl (lv_at hl 0 rfl) ?_
  subst hF
  rw [hQ]
  exact rw_i X hS hP hD hs h1 dX6_empty_11
def FX8_wipe (tx_length : Int32) : Int32 × Int32 :=
  nmb (FX6_empty tx_length) fun u1 => (u1.1, u1.2)
def rm_X8_wipe : Room := { frames := 1, cells := 0, slots := 0, locals := 21 }
set_option maxHeartbeats 4000000 in
set_option maxRecDepth 100000 in
theorem c_X8_wipe (l : Launch) (D : va_G) (cI cJ cZ : ClassId) (a : Nat → Nat) (ws0 : va_W) (A : Nat → Prop)  (tx_length : Int32)  (u : Int32 × Int32) (hF : FX8_wipe tx_length = u) (z0 : ws0[0]? = some (a 0, .inr (8, [.ref (a 1), .ref (a 3), .ref (a 13), .ref (a 16), .ref (a 22), .ref (a 25), .ref (a 28), .ref (a 33)]))) (z1 : ws0[1]? = some (a 1, .inr (6, [.ref (a 2), .int tx_length]))) (hD : va_D A ws0) : Met l yX8_wipe (wq yX8_wipe cX8_wipe 1 (some .int)) rm_X8_wipe (Pq [.ref (a 0)] D cI cJ cZ ws0) (Qw D A ws0 [1] (some (.int u.1)) (fun w => w[1]? = some (a 1, .inr (6, [.ref (a 2), .int u.2])))) 0 0 A := by
  refine mq_of (by decide) (Nat.le_of_ble_eq_true rfl) (fun p e s m args below meth c ls Q hQ X _ hP hl => ?_)
  obtain ⟨hx, hb, hr, hml, hown, hts, hlk, hK, hN⟩ := id X
  have hown : s.vm.findClass RX8 = some m.cls := hown
  have hl : lv_has ls 1 [(0, .ref (a 0))] := hl
  have hS : va_S A s.heap s.heap [] := va_S.rf
  have hs : ∀ j : Nat, j ∉ [1] → ws0[j]? = ws0[j]? := fun _ _ => rfl
  have h0 := z0
  have h1 := z1
  unfold FX8_wipe at hF
  refine lv_aload_n hx hb dX8_wipe_0 rfl (lv_at hl 0 rfl) ?_
  refine gf_X8_10 hx hb hts hown hK hP h0 dX8_wipe_1 ?_
  obtain ⟨u1, e_u1⟩ : ∃ q, q = FX6_empty tx_length := ⟨_, rfl⟩
  replace hF := nm_at hF e_u1
  refine wr_i (runVN (As := []) (rest := []) X cq_X6_empty lk_X8_69 (c_X6_empty l D cI cJ cZ a ws0 A tx_length u1 e_u1.symm h1 hD) rfl rfl ⟨Nat.le_of_ble_eq_true rfl, Nat.le_of_ble_eq_true rfl⟩ hP h1 rfl rfl hl.1 rfl (Nat.le_of_ble_eq_true rfl) dX8_wipe_4 ⟨Nat.le_of_ble_eq_true rfl, Nat.le_of_ble_eq_true rfl⟩) hS (fun w2 H locs hP hD hk hB hS => ?_)
  have h1 : w2[1]? = some (a 1, .inr (6, [.ref (a 2), .int u1.2])) := hB
  have h0 := (hk 0 (by simp only [List.mem_cons, List.not_mem_nil, or_false, not_or]; omega)).trans h0
  replace hs := st_tr hk (fun j hj => by simp only [List.mem_cons, List.not_mem_nil, or_false] at hj ⊢; omega) hs
  subst hF
  rw [hQ]
  exact rw_i X hS hP hD hs h1 dX8_wipe_7
def FX8_at (p_f : Nat → Int32) (n : Nat) (p2 : Int32) : Option (Int32) :=
  if p2 < 0 then (some (0 : Int32)) else (if (nI n) ≤ p2 then (some (0 : Int32)) else (if p2 < 0 ∨ n ≤ p2.toNatClampNeg then none else some (p_f p2.toNatClampNeg)))
def gat (f : Nat → Int32) (n : Nat) (i : Int32) : Int32 := if i < 0 then 0 else if nI n ≤ i then 0 else f i.toNatClampNeg
theorem FX8_at_eq (f : Nat → Int32) (n : Nat) (i : Int32) (hn : n < 2147483648) : FX8_at f n i = some (gat f n i) := by
  unfold FX8_at gat
  rcases pk_ix i hn with h | h | ⟨j, hj, rfl⟩
  · rw [if_pos h, if_pos h]
  · by_cases h0 : i < 0
    · rw [if_pos h0, if_pos h0]
    · rw [if_neg h0, if_neg h0, if_pos h, if_pos h]
  · have h2 : j < 2147483648 := Nat.lt_trans hj hn
    rw [if_neg (nI_pos h2), if_neg (nI_pos h2), if_neg (nI_ge hj hn), if_neg (nI_ge hj hn), if_neg (vp_in_nI hj hn)]
def rm_X8_at : Room := { frames := 0, cells := 0, slots := 0, locals := 0 }
set_option maxHeartbeats 4000000 in
set_option maxRecDepth 100000 in
theorem c_X8_at (l : Launch) (D : va_G) (cI cJ cZ : ClassId) (a : Nat → Nat) (ws0 : va_W) (k : Nat) (p_f : Nat → Int32) (n : Nat) (p2 : Int32) (u : Int32) (hF : FX8_at p_f n p2 = some u) (h_k0 : ws0[k]? = some (a k, .inl (cI, n, .inl p_f))) : Met l yX8_at (wq yX8_at cX8_at 2 (some .int)) rm_X8_at (Pq [.ref (a k), .int p2] D cI cJ cZ ws0) (Qq (some (.int u))) 0 0 (fun _ => False) := by
  refine mq_of (by decide) (Nat.le_of_ble_eq_true rfl) (fun p e s m args below meth c ls Q hQ X _ hP hl => ?_)
  obtain ⟨hx, hb, hr, hml, hown, hts, hlk, hK, hN⟩ := id X
  have hown : s.vm.findClass RX8 = some m.cls := hown
  have hl : lv_has ls 2 [(0, .ref (a k)), (1, .int p2)] := hl
  unfold FX8_at at hF
  refine lv_iload_n hx hb dX8_at_0 rfl (lv_at hl 1 rfl) ?_
  refine lv_if_lt (tgt := 16) hx hb dX8_at_1 (by decide) (fun c1 => ?_) (fun c1 => ?_)
  · replace hF := (if_pos c1).symm.trans hF
    refine lv_iconst (v := (0 : Int32)) hx hb dX8_at_16 (by decide) ?_
    obtain rfl := Option.some.inj hF
    rw [hQ]
    exact rt_i X dX8_at_17
  · replace hF := (if_neg c1).symm.trans hF
    refine lv_iload_n hx hb dX8_at_4 rfl (lv_at hl 1 rfl) ?_
    refine lv_aload_n hx hb dX8_at_5 rfl (lv_at hl 0 rfl) ?_
    refine va_alen (v := nI n) hx hb hK hP k 0 h_k0 rfl rfl dX8_at_6 ?_
    refine lv_icmp_ge (tgt := 16) hx hb dX8_at_7 (by decide) (fun c2 => ?_) (fun c2 => ?_)
    · replace hF := (if_pos c2).symm.trans hF
      refine lv_iconst (v := (0 : Int32)) hx hb dX8_at_16 (by decide) ?_
      obtain rfl := Option.some.inj hF
      rw [hQ]
      exact rt_i X dX8_at_17
    · replace hF := (if_neg c2).symm.trans hF
      refine lv_aload_n hx hb dX8_at_10 rfl (lv_at hl 0 rfl) ?_
      refine lv_iload_n hx hb dX8_at_11 rfl (lv_at hl 1 rfl) ?_
      obtain ⟨hg3, hF⟩ := gd_some hF
      refine va_iald hx hb hK hP k 0 h_k0 rfl hg3 dX8_at_12 ?_
      refine lv_goto (tgt := 17) hx hb dX8_at_13 (by decide) ?_
      obtain rfl := Option.some.inj hF
      rw [hQ]
      exact rt_i X dX8_at_17
theorem t_X8_at (l : Launch) (D : va_G) (cI cJ cZ : ClassId) (a : Nat → Nat) (ws0 : va_W) (k : Nat) (p_f : Nat → Int32) (n : Nat) (p2 : Int32) (u : Int32) (hF : gat p_f n p2 = u) (h_k0 : ws0[k]? = some (a k, .inl (cI, n, .inl p_f))) (hq0 : n < 2147483648) : Met l yX8_at (wq yX8_at cX8_at 2 (some .int)) rm_X8_at (Pq [.ref (a k), .int p2] D cI cJ cZ ws0) (Qq (some (.int u))) 0 0 (fun _ => False) :=
  c_X8_at l D cI cJ cZ a ws0 k p_f n p2 u ((FX8_at_eq p_f n p2 hq0).trans (congrArg some hF)) h_k0
def FX6_sign (tx_bytes : Nat → Int32) (p1 : Int32) : Int32 :=
  gat tx_bytes 72 p1
def rm_X6_sign : Room := { frames := 1, cells := 0, slots := 0, locals := 21 }
set_option maxHeartbeats 4000000 in
set_option maxRecDepth 100000 in
theorem c_X6_sign (l : Launch) (D : va_G) (cI cJ cZ : ClassId) (a : Nat → Nat) (ws0 : va_W)  (tx_length : Int32) (tx_bytes : Nat → Int32) (p1 : Int32) (u : Int32) (hF : FX6_sign tx_bytes p1 = u) (h1 : ws0[1]? = some (a 1, .inr (6, [.ref (a 2), .int tx_length]))) (h2 : ws0[2]? = some (a 2, .inl (cI, 72, .inl tx_bytes))) : Met l yX6_sign (wq yX6_sign cX6_sign 2 (some .int)) rm_X6_sign (Pq [.ref (a 1), .int p1] D cI cJ cZ ws0) (Qq (some (.int u))) 0 0 (fun _ => False) := by
  refine mq_of (by decide) (Nat.le_of_ble_eq_true rfl) (fun p e s m args below meth c ls Q hQ X _ hP hl => ?_)
  obtain ⟨hx, hb, hr, hml, hown, hts, hlk, hK, hN⟩ := id X
  have hown : s.vm.findClass RX6 = some m.cls := hown
  have hl : lv_has ls 2 [(0, .ref (a 1)), (1, .int p1)] := hl
  unfold FX6_sign at hF
  refine lv_aload_n hx hb dX6_sign_0 rfl (lv_at hl 0 rfl) ?_
  refine gf_X6_9 hx hb hts hown hK hP h1 dX6_sign_1 ?_
  refine lv_iload_n hx hb dX6_sign_4 rfl (lv_at hl 1 rfl) ?_
  refine rd_i (runSN (As := [.ref (a 2), .int p1]) (rest := []) X cq_X8_at lk_X6_23 (t_X8_at l D cI cJ cZ a ws0 2 tx_bytes 72 p1 _ rfl h2 (by decide)) rfl rfl ⟨Nat.le_of_ble_eq_true rfl, Nat.le_of_ble_eq_true rfl⟩ hP rfl hl.1 rfl (Nat.le_of_ble_eq_true rfl) dX6_sign_5 ⟨Nat.le_of_ble_eq_true rfl, Nat.le_of_ble_eq_true rfl⟩) ?_
  subst hF
  rw [hQ]
  exact rt_i X dX6_sign_8
def FX6_figure (tx_bytes : Nat → Int32) (p1 : Int32) : Int32 :=
  (gat tx_bytes 72 p1) - (48 : Int32)
def rm_X6_figure : Room := { frames := 1, cells := 0, slots := 0, locals := 21 }
set_option maxHeartbeats 4000000 in
set_option maxRecDepth 100000 in
theorem c_X6_figure (l : Launch) (D : va_G) (cI cJ cZ : ClassId) (a : Nat → Nat) (ws0 : va_W)  (tx_length : Int32) (tx_bytes : Nat → Int32) (p1 : Int32) (u : Int32) (hF : FX6_figure tx_bytes p1 = u) (h1 : ws0[1]? = some (a 1, .inr (6, [.ref (a 2), .int tx_length]))) (h2 : ws0[2]? = some (a 2, .inl (cI, 72, .inl tx_bytes))) : Met l yX6_figure (wq yX6_figure cX6_figure 2 (some .int)) rm_X6_figure (Pq [.ref (a 1), .int p1] D cI cJ cZ ws0) (Qq (some (.int u))) 0 0 (fun _ => False) := by
  refine mq_of (by decide) (Nat.le_of_ble_eq_true rfl) (fun p e s m args below meth c ls Q hQ X _ hP hl => ?_)
  obtain ⟨hx, hb, hr, hml, hown, hts, hlk, hK, hN⟩ := id X
  have hown : s.vm.findClass RX6 = some m.cls := hown
  have hl : lv_has ls 2 [(0, .ref (a 1)), (1, .int p1)] := hl
  unfold FX6_figure at hF
  refine lv_aload_n hx hb dX6_figure_0 rfl (lv_at hl 0 rfl) ?_
  refine gf_X6_9 hx hb hts hown hK hP h1 dX6_figure_1 ?_
  refine lv_iload_n hx hb dX6_figure_4 rfl (lv_at hl 1 rfl) ?_
  refine rd_i (runSN (As := [.ref (a 2), .int p1]) (rest := []) X cq_X8_at lk_X6_23 (t_X8_at l D cI cJ cZ a ws0 2 tx_bytes 72 p1 _ rfl h2 (by decide)) rfl rfl ⟨Nat.le_of_ble_eq_true rfl, Nat.le_of_ble_eq_true rfl⟩ hP rfl hl.1 rfl (Nat.le_of_ble_eq_true rfl) dX6_figure_5 ⟨Nat.le_of_ble_eq_true rfl, Nat.le_of_ble_eq_true rfl⟩) ?_
  refine lv_bipush (v := (48 : Int32)) hx hb dX6_figure_8 (by decide) ?_
  refine lv_isub hx hb dX6_figure_10 ?_
  subst hF
  rw [hQ]
  exact rt_i X dX6_figure_11
def FX6_seat (tx_bytes : Nat → Int32) (p1 : Int32) : Int32 :=
  (1 : Int32) <<< ((((6 : Int32) * (FX6_figure tx_bytes (p1 - (1 : Int32)))) + (FX6_figure tx_bytes p1)) &&& 31)
def rm_X6_seat : Room := { frames := 2, cells := 0, slots := 0, locals := 42 }
set_option maxHeartbeats 4000000 in
set_option maxRecDepth 100000 in
theorem c_X6_seat (l : Launch) (D : va_G) (cI cJ cZ : ClassId) (a : Nat → Nat) (ws0 : va_W)  (tx_length : Int32) (tx_bytes : Nat → Int32) (p1 : Int32) (u : Int32) (hF : FX6_seat tx_bytes p1 = u) (h1 : ws0[1]? = some (a 1, .inr (6, [.ref (a 2), .int tx_length]))) (h2 : ws0[2]? = some (a 2, .inl (cI, 72, .inl tx_bytes))) : Met l yX6_seat (wq yX6_seat cX6_seat 2 (some .int)) rm_X6_seat (Pq [.ref (a 1), .int p1] D cI cJ cZ ws0) (Qq (some (.int u))) 0 0 (fun _ => False) := by
  refine mq_of (by decide) (Nat.le_of_ble_eq_true rfl) (fun p e s m args below meth c ls Q hQ X _ hP hl => ?_)
  obtain ⟨hx, hb, hr, hml, hown, hts, hlk, hK, hN⟩ := id X
  have hown : s.vm.findClass RX6 = some m.cls := hown
  have hl : lv_has ls 2 [(0, .ref (a 1)), (1, .int p1)] := hl
  unfold FX6_seat at hF
  refine lv_iconst (v := (1 : Int32)) hx hb dX6_seat_0 (by decide) ?_
  refine lv_bipush (v := (6 : Int32)) hx hb dX6_seat_1 (by decide) ?_
  refine lv_aload_n hx hb dX6_seat_3 rfl (lv_at hl 0 rfl) ?_
  refine lv_iload_n hx hb dX6_seat_4 rfl (lv_at hl 1 rfl) ?_
  refine lv_iconst (v := (1 : Int32)) hx hb dX6_seat_5 (by decide) ?_
  refine lv_isub hx hb dX6_seat_6 ?_
  refine rd_i (runV (As := [.int (p1 - (1 : Int32))]) (rest := [.int (6 : Int32), .int (1 : Int32)]) X cq_X6_figure lk_X6_38 (c_X6_figure l D cI cJ cZ a ws0 tx_length tx_bytes (p1 - (1 : Int32)) _ rfl h1 h2) rfl rfl ⟨Nat.le_of_ble_eq_true rfl, Nat.le_of_ble_eq_true rfl⟩ hP h1 rfl rfl hl.1 rfl (Nat.le_of_ble_eq_true rfl) dX6_seat_7 ⟨Nat.le_of_ble_eq_true rfl, Nat.le_of_ble_eq_true rfl⟩) ?_
  refine lv_imul hx hb dX6_seat_10 ?_
  refine lv_aload_n hx hb dX6_seat_11 rfl (lv_at hl 0 rfl) ?_
  refine lv_iload_n hx hb dX6_seat_12 rfl (lv_at hl 1 rfl) ?_
  refine rd_i (runV (As := [.int p1]) (rest := [.int ((6 : Int32) * (FX6_figure tx_bytes (p1 - (1 : Int32)))), .int (1 : Int32)]) X cq_X6_figure lk_X6_38 (c_X6_figure l D cI cJ cZ a ws0 tx_length tx_bytes p1 _ rfl h1 h2) rfl rfl ⟨Nat.le_of_ble_eq_true rfl, Nat.le_of_ble_eq_true rfl⟩ hP h1 rfl rfl hl.1 rfl (Nat.le_of_ble_eq_true rfl) dX6_seat_13 ⟨Nat.le_of_ble_eq_true rfl, Nat.le_of_ble_eq_true rfl⟩) ?_
  refine lv_iadd hx hb dX6_seat_16 ?_
  refine lv_ishl hx hb dX6_seat_17 ?_
  subst hF
  rw [hQ]
  exact rt_i X dX6_seat_18
def FX6_fits (tx_bytes : Nat → Int32) (p1 : Int32) (p2 : Int32) : Bool :=
  if (p1 - p1 / (6 : Int32) * (6 : Int32)) = (0 : Int32) then (if (FX6_sign tx_bytes p1) = (80 : Int32) then true else (if (FX6_sign tx_bytes p1) = (70 : Int32) then true else false)) else if (p1 - p1 / (6 : Int32) * (6 : Int32)) = (1 : Int32) then (if (FX8_outside (FX6_figure tx_bytes p1) (0 : Int32) (3 : Int32)) = true then false else (if ((p2 >>> (((6 : Int32) * (FX6_figure tx_bytes p1)) &&& 31)) &&& (63 : Int32)) = (63 : Int32) then false else true)) else if (p1 - p1 / (6 : Int32) * (6 : Int32)) = (2 : Int32) then (if (FX8_outside (FX6_figure tx_bytes p1) (0 : Int32) (5 : Int32)) = true then false else (if (p2 &&& (FX6_seat tx_bytes p1)) = 0 then true else false)) else if (FX8_outside (FX6_figure tx_bytes p1) (0 : Int32) (9 : Int32)) = true then false else true
def rm_X6_fits : Room := { frames := 3, cells := 0, slots := 0, locals := 63 }
set_option maxHeartbeats 4000000 in
set_option maxRecDepth 100000 in
theorem c_X6_fits (l : Launch) (D : va_G) (cI cJ cZ : ClassId) (a : Nat → Nat) (ws0 : va_W)  (tx_length : Int32) (tx_bytes : Nat → Int32) (p1 : Int32) (p2 : Int32) (u : Bool) (hF : FX6_fits tx_bytes p1 p2 = u) (h1 : ws0[1]? = some (a 1, .inr (6, [.ref (a 2), .int tx_length]))) (h2 : ws0[2]? = some (a 2, .inl (cI, 72, .inl tx_bytes))) : Met l yX6_fits (wq yX6_fits cX6_fits 3 (some .boolean)) rm_X6_fits (Pq [.ref (a 1), .int p1, .int p2] D cI cJ cZ ws0) (Qq (some (.int (bi u)))) 0 0 (fun _ => False) := by
  refine mq_of (by decide) (Nat.le_of_ble_eq_true rfl) (fun p e s m args below meth c ls Q hQ X _ hP hl => ?_)
  obtain ⟨hx, hb, hr, hml, hown, hts, hlk, hK, hN⟩ := id X
  have hown : s.vm.findClass RX6 = some m.cls := hown
  have hl : lv_has ls 3 [(0, .ref (a 1)), (1, .int p1), (2, .int p2)] := hl
  unfold FX6_fits at hF
  refine lv_iload_n hx hb dX6_fits_0 rfl (lv_at hl 1 rfl) ?_
  refine lv_bipush (v := (6 : Int32)) hx hb dX6_fits_1 (by decide) ?_
  refine lv_irem hx hb dX6_fits_3 (by decide) ?_
  by_cases c1 : p1 - p1 / (6 : Int32) * (6 : Int32) = (0 : Int32)
  · replace hF := (if_pos c1).symm.trans hF
    refine lv_tableIn (tgt := 32) (off := 28) hx hb dX6_fits_4 (by rw [c1]; decide) (by rw [c1]; decide) (by rw [c1]; rfl) (by decide) ?_
    refine lv_aload_n hx hb dX6_fits_32 rfl (lv_at hl 0 rfl) ?_
    refine lv_iload_n hx hb dX6_fits_33 rfl (lv_at hl 1 rfl) ?_
    refine rd_i (runV (As := [.int p1]) (rest := []) X cq_X6_sign lk_X6_35 (c_X6_sign l D cI cJ cZ a ws0 tx_length tx_bytes p1 _ rfl h1 h2) rfl rfl ⟨Nat.le_of_ble_eq_true rfl, Nat.le_of_ble_eq_true rfl⟩ hP h1 rfl rfl hl.1 rfl (Nat.le_of_ble_eq_true rfl) dX6_fits_34 ⟨Nat.le_of_ble_eq_true rfl, Nat.le_of_ble_eq_true rfl⟩) ?_
    refine lv_bipush (v := (80 : Int32)) hx hb dX6_fits_37 (by decide) ?_
    refine lv_icmp_eq (tgt := 52) hx hb dX6_fits_39 (by decide) (fun c2 => ?_) (fun c2 => ?_)
    · replace hF := (if_pos c2).symm.trans hF
      refine lv_iconst (v := (1 : Int32)) hx hb dX6_fits_52 (by decide) ?_
      refine lv_goto (tgt := 57) hx hb dX6_fits_53 (by decide) ?_
      subst hF
      rw [hQ]
      exact rt_z (b := true) X dX6_fits_57
    · replace hF := (if_neg c2).symm.trans hF
      refine lv_aload_n hx hb dX6_fits_42 rfl (lv_at hl 0 rfl) ?_
      refine lv_iload_n hx hb dX6_fits_43 rfl (lv_at hl 1 rfl) ?_
      refine rd_i (runV (As := [.int p1]) (rest := []) X cq_X6_sign lk_X6_35 (c_X6_sign l D cI cJ cZ a ws0 tx_length tx_bytes p1 _ rfl h1 h2) rfl rfl ⟨Nat.le_of_ble_eq_true rfl, Nat.le_of_ble_eq_true rfl⟩ hP h1 rfl rfl hl.1 rfl (Nat.le_of_ble_eq_true rfl) dX6_fits_44 ⟨Nat.le_of_ble_eq_true rfl, Nat.le_of_ble_eq_true rfl⟩) ?_
      refine lv_bipush (v := (70 : Int32)) hx hb dX6_fits_47 (by decide) ?_
      refine lv_icmp_ne (tgt := 56) hx hb dX6_fits_49 (by decide) (fun c3 => ?_) (fun c3 => ?_)
      · replace hF := (if_neg c3).symm.trans hF
        refine lv_iconst (v := (0 : Int32)) hx hb dX6_fits_56 (by decide) ?_
        subst hF
        rw [hQ]
        exact rt_z (b := false) X dX6_fits_57
      · replace hF := (if_pos c3).symm.trans hF
        refine lv_iconst (v := (1 : Int32)) hx hb dX6_fits_52 (by decide) ?_
        refine lv_goto (tgt := 57) hx hb dX6_fits_53 (by decide) ?_
        subst hF
        rw [hQ]
        exact rt_z (b := true) X dX6_fits_57
  replace hF := (if_neg c1).symm.trans hF
  by_cases c4 : p1 - p1 / (6 : Int32) * (6 : Int32) = (1 : Int32)
  · replace hF := (if_pos c4).symm.trans hF
    refine lv_tableIn (tgt := 58) (off := 54) hx hb dX6_fits_4 (by rw [c4]; decide) (by rw [c4]; decide) (by rw [c4]; rfl) (by decide) ?_
    refine lv_aload_n hx hb dX6_fits_58 rfl (lv_at hl 0 rfl) ?_
    refine lv_iload_n hx hb dX6_fits_59 rfl (lv_at hl 1 rfl) ?_
    refine rd_i (runV (As := [.int p1]) (rest := []) X cq_X6_figure lk_X6_38 (c_X6_figure l D cI cJ cZ a ws0 tx_length tx_bytes p1 _ rfl h1 h2) rfl rfl ⟨Nat.le_of_ble_eq_true rfl, Nat.le_of_ble_eq_true rfl⟩ hP h1 rfl rfl hl.1 rfl (Nat.le_of_ble_eq_true rfl) dX6_fits_60 ⟨Nat.le_of_ble_eq_true rfl, Nat.le_of_ble_eq_true rfl⟩) ?_
    refine lv_iconst (v := (0 : Int32)) hx hb dX6_fits_63 (by decide) ?_
    refine lv_iconst (v := (3 : Int32)) hx hb dX6_fits_64 (by decide) ?_
    refine rd_i (runSN (As := [.int (FX6_figure tx_bytes p1), .int (0 : Int32), .int (3 : Int32)]) (rest := []) X cq_X8_outside lk_X6_41 (c_X8_outside l D cI cJ cZ a ws0 (FX6_figure tx_bytes p1) (0 : Int32) (3 : Int32) _ rfl ) rfl rfl ⟨Nat.le_of_ble_eq_true rfl, Nat.le_of_ble_eq_true rfl⟩ hP rfl hl.1 rfl (Nat.le_of_ble_eq_true rfl) dX6_fits_65 ⟨Nat.le_of_ble_eq_true rfl, Nat.le_of_ble_eq_true rfl⟩) ?_
    refine zf_ne (tgt := 93) hx hb dX6_fits_68 (by decide) (fun c5 => ?_) (fun c5 => ?_)
    · replace hF := (if_pos c5).symm.trans hF
      refine lv_iconst (v := (0 : Int32)) hx hb dX6_fits_93 (by decide) ?_
      subst hF
      rw [hQ]
      exact rt_z (b := false) X dX6_fits_94
    · replace hF := (if_neg c5).symm.trans hF
      refine lv_iload_n hx hb dX6_fits_71 rfl (lv_at hl 2 rfl) ?_
      refine lv_bipush (v := (6 : Int32)) hx hb dX6_fits_72 (by decide) ?_
      refine lv_aload_n hx hb dX6_fits_74 rfl (lv_at hl 0 rfl) ?_
      refine lv_iload_n hx hb dX6_fits_75 rfl (lv_at hl 1 rfl) ?_
      refine rd_i (runV (As := [.int p1]) (rest := [.int (6 : Int32), .int p2]) X cq_X6_figure lk_X6_38 (c_X6_figure l D cI cJ cZ a ws0 tx_length tx_bytes p1 _ rfl h1 h2) rfl rfl ⟨Nat.le_of_ble_eq_true rfl, Nat.le_of_ble_eq_true rfl⟩ hP h1 rfl rfl hl.1 rfl (Nat.le_of_ble_eq_true rfl) dX6_fits_76 ⟨Nat.le_of_ble_eq_true rfl, Nat.le_of_ble_eq_true rfl⟩) ?_
      refine lv_imul hx hb dX6_fits_79 ?_
      refine lv_ishr hx hb dX6_fits_80 ?_
      refine lv_bipush (v := (63 : Int32)) hx hb dX6_fits_81 (by decide) ?_
      refine lv_iand hx hb dX6_fits_83 ?_
      refine lv_bipush (v := (63 : Int32)) hx hb dX6_fits_84 (by decide) ?_
      refine lv_icmp_eq (tgt := 93) hx hb dX6_fits_86 (by decide) (fun c6 => ?_) (fun c6 => ?_)
      · replace hF := (if_pos c6).symm.trans hF
        refine lv_iconst (v := (0 : Int32)) hx hb dX6_fits_93 (by decide) ?_
        subst hF
        rw [hQ]
        exact rt_z (b := false) X dX6_fits_94
      · replace hF := (if_neg c6).symm.trans hF
        refine lv_iconst (v := (1 : Int32)) hx hb dX6_fits_89 (by decide) ?_
        refine lv_goto (tgt := 94) hx hb dX6_fits_90 (by decide) ?_
        subst hF
        rw [hQ]
        exact rt_z (b := true) X dX6_fits_94
  replace hF := (if_neg c4).symm.trans hF
  by_cases c7 : p1 - p1 / (6 : Int32) * (6 : Int32) = (2 : Int32)
  · replace hF := (if_pos c7).symm.trans hF
    refine lv_tableIn (tgt := 95) (off := 91) hx hb dX6_fits_4 (by rw [c7]; decide) (by rw [c7]; decide) (by rw [c7]; rfl) (by decide) ?_
    refine lv_aload_n hx hb dX6_fits_95 rfl (lv_at hl 0 rfl) ?_
    refine lv_iload_n hx hb dX6_fits_96 rfl (lv_at hl 1 rfl) ?_
    refine rd_i (runV (As := [.int p1]) (rest := []) X cq_X6_figure lk_X6_38 (c_X6_figure l D cI cJ cZ a ws0 tx_length tx_bytes p1 _ rfl h1 h2) rfl rfl ⟨Nat.le_of_ble_eq_true rfl, Nat.le_of_ble_eq_true rfl⟩ hP h1 rfl rfl hl.1 rfl (Nat.le_of_ble_eq_true rfl) dX6_fits_97 ⟨Nat.le_of_ble_eq_true rfl, Nat.le_of_ble_eq_true rfl⟩) ?_
    refine lv_iconst (v := (0 : Int32)) hx hb dX6_fits_100 (by decide) ?_
    refine lv_iconst (v := (5 : Int32)) hx hb dX6_fits_101 (by decide) ?_
    refine rd_i (runSN (As := [.int (FX6_figure tx_bytes p1), .int (0 : Int32), .int (5 : Int32)]) (rest := []) X cq_X8_outside lk_X6_41 (c_X8_outside l D cI cJ cZ a ws0 (FX6_figure tx_bytes p1) (0 : Int32) (5 : Int32) _ rfl ) rfl rfl ⟨Nat.le_of_ble_eq_true rfl, Nat.le_of_ble_eq_true rfl⟩ hP rfl hl.1 rfl (Nat.le_of_ble_eq_true rfl) dX6_fits_102 ⟨Nat.le_of_ble_eq_true rfl, Nat.le_of_ble_eq_true rfl⟩) ?_
    refine zf_ne (tgt := 122) hx hb dX6_fits_105 (by decide) (fun c8 => ?_) (fun c8 => ?_)
    · replace hF := (if_pos c8).symm.trans hF
      refine lv_iconst (v := (0 : Int32)) hx hb dX6_fits_122 (by decide) ?_
      subst hF
      rw [hQ]
      exact rt_z (b := false) X dX6_fits_123
    · replace hF := (if_neg c8).symm.trans hF
      refine lv_iload_n hx hb dX6_fits_108 rfl (lv_at hl 2 rfl) ?_
      refine lv_aload_n hx hb dX6_fits_109 rfl (lv_at hl 0 rfl) ?_
      refine lv_iload_n hx hb dX6_fits_110 rfl (lv_at hl 1 rfl) ?_
      refine rd_i (runV (As := [.int p1]) (rest := [.int p2]) X cq_X6_seat lk_X6_31 (c_X6_seat l D cI cJ cZ a ws0 tx_length tx_bytes p1 _ rfl h1 h2) rfl rfl ⟨Nat.le_of_ble_eq_true rfl, Nat.le_of_ble_eq_true rfl⟩ hP h1 rfl rfl hl.1 rfl (Nat.le_of_ble_eq_true rfl) dX6_fits_111 ⟨Nat.le_of_ble_eq_true rfl, Nat.le_of_ble_eq_true rfl⟩) ?_
      refine lv_iand hx hb dX6_fits_114 ?_
      refine lv_if_ne (tgt := 122) hx hb dX6_fits_115 (by decide) (fun c9 => ?_) (fun c9 => ?_)
      · replace hF := (if_neg c9).symm.trans hF
        refine lv_iconst (v := (0 : Int32)) hx hb dX6_fits_122 (by decide) ?_
        subst hF
        rw [hQ]
        exact rt_z (b := false) X dX6_fits_123
      · replace hF := (if_pos c9).symm.trans hF
        refine lv_iconst (v := (1 : Int32)) hx hb dX6_fits_118 (by decide) ?_
        refine lv_goto (tgt := 123) hx hb dX6_fits_119 (by decide) ?_
        subst hF
        rw [hQ]
        exact rt_z (b := true) X dX6_fits_123
  replace hF := (if_neg c7).symm.trans hF
  have zc1 : ¬ (p1 - p1 / (6 : Int32) * (6 : Int32)).toInt = 0 := fun q => c1 (Int32.toInt_inj.mp (q.trans (by decide)))
  have zc4 : ¬ (p1 - p1 / (6 : Int32) * (6 : Int32)).toInt = 1 := fun q => c4 (Int32.toInt_inj.mp (q.trans (by decide)))
  have zc7 : ¬ (p1 - p1 / (6 : Int32) * (6 : Int32)).toInt = 2 := fun q => c7 (Int32.toInt_inj.mp (q.trans (by decide)))
  refine lv_tableOut (tgt := 124) hx hb dX6_fits_4 (by omega) (by decide) ?_
  refine lv_aload_n hx hb dX6_fits_124 rfl (lv_at hl 0 rfl) ?_
  refine lv_iload_n hx hb dX6_fits_125 rfl (lv_at hl 1 rfl) ?_
  refine rd_i (runV (As := [.int p1]) (rest := []) X cq_X6_figure lk_X6_38 (c_X6_figure l D cI cJ cZ a ws0 tx_length tx_bytes p1 _ rfl h1 h2) rfl rfl ⟨Nat.le_of_ble_eq_true rfl, Nat.le_of_ble_eq_true rfl⟩ hP h1 rfl rfl hl.1 rfl (Nat.le_of_ble_eq_true rfl) dX6_fits_126 ⟨Nat.le_of_ble_eq_true rfl, Nat.le_of_ble_eq_true rfl⟩) ?_
  refine lv_iconst (v := (0 : Int32)) hx hb dX6_fits_129 (by decide) ?_
  refine lv_bipush (v := (9 : Int32)) hx hb dX6_fits_130 (by decide) ?_
  refine rd_i (runSN (As := [.int (FX6_figure tx_bytes p1), .int (0 : Int32), .int (9 : Int32)]) (rest := []) X cq_X8_outside lk_X6_41 (c_X8_outside l D cI cJ cZ a ws0 (FX6_figure tx_bytes p1) (0 : Int32) (9 : Int32) _ rfl ) rfl rfl ⟨Nat.le_of_ble_eq_true rfl, Nat.le_of_ble_eq_true rfl⟩ hP rfl hl.1 rfl (Nat.le_of_ble_eq_true rfl) dX6_fits_132 ⟨Nat.le_of_ble_eq_true rfl, Nat.le_of_ble_eq_true rfl⟩) ?_
  refine zf_ne (tgt := 142) hx hb dX6_fits_135 (by decide) (fun c10 => ?_) (fun c10 => ?_)
  · replace hF := (if_pos c10).symm.trans hF
    refine lv_iconst (v := (0 : Int32)) hx hb dX6_fits_142 (by decide) ?_
    subst hF
    rw [hQ]
    exact rt_z (b := false) X dX6_fits_143
  · replace hF := (if_neg c10).symm.trans hF
    refine lv_iconst (v := (1 : Int32)) hx hb dX6_fits_138 (by decide) ?_
    refine lv_goto (tgt := 143) hx hb dX6_fits_139 (by decide) ?_
    subst hF
    rw [hQ]
    exact rt_z (b := true) X dX6_fits_143
def FX6_firstFault_S4 (tx_length : Int32) (tx_bytes : Nat → Int32) (x1 : Int32) (x2 : Int32) : Option ((Int32 × Int32) ⊕ ((Unit) ⊕ Int32)) :=
  if tx_length ≤ x2 then (some (.inr (.inl ()))) else (if (FX6_fits tx_bytes x2 x1) = true then (if (x2 - x2 / (6 : Int32) * (6 : Int32)) = (2 : Int32) then (some (.inl (x1 ||| (FX6_seat tx_bytes x2), x2 + (1 : Int32)))) else (some (.inl (x1, x2 + (1 : Int32))))) else (some (.inr (.inr x2))))
def FX6_firstFault (tx_length : Int32) (tx_bytes : Nat → Int32) : Option (Int32) :=
  (itr (fun v => FX6_firstFault_S4 tx_length tx_bytes v.1 v.2) fu ((0 : Int32), (0 : Int32))).bind fun o6 => Sum.elim (fun o7 => (if (tx_length - tx_length / (6 : Int32) * (6 : Int32)) = 0 then (some (-9 : Int32)) else (some tx_length))) (fun q => some q) o6
def rm_X6_firstFault : Room := { frames := 4, cells := 0, slots := 0, locals := 85 }
set_option maxHeartbeats 4000000 in
set_option maxRecDepth 100000 in
theorem c_X6_firstFault (l : Launch) (D : va_G) (cI cJ cZ : ClassId) (a : Nat → Nat) (ws0 : va_W)  (tx_length : Int32) (tx_bytes : Nat → Int32)  (u : Int32) (hF : FX6_firstFault tx_length tx_bytes = some u) (h1 : ws0[1]? = some (a 1, .inr (6, [.ref (a 2), .int tx_length]))) (h2 : ws0[2]? = some (a 2, .inl (cI, 72, .inl tx_bytes))) : Met l yX6_firstFault (wq yX6_firstFault cX6_firstFault 3 (some .int)) rm_X6_firstFault (Pq [.ref (a 1)] D cI cJ cZ ws0) (Qq (some (.int u))) 0 0 (fun _ => False) := by
  refine mq_of (by decide) (Nat.le_of_ble_eq_true rfl) (fun p e s m args below meth c ls Q hQ X _ hP hl => ?_)
  obtain ⟨hx, hb, hr, hml, hown, hts, hlk, hK, hN⟩ := id X
  have hown : s.vm.findClass RX6 = some m.cls := hown
  have hl : lv_has ls 3 [(0, .ref (a 1))] := hl
  unfold FX6_firstFault at hF
  refine lv_iconst (v := (0 : Int32)) hx hb dX6_firstFault_0 (by decide) ?_
  refine lv_istore_n (lv' := [(1, .int (0 : Int32)), (0, .ref (a 1))]) hx hb dX6_firstFault_1 rfl hl (by decide) rfl (fun ls hl => ?_)
  refine lv_iconst (v := (0 : Int32)) hx hb dX6_firstFault_2 (by decide) ?_
  refine lv_istore_n (lv' := [(2, .int (0 : Int32)), (1, .int (0 : Int32)), (0, .ref (a 1))]) hx hb dX6_firstFault_3 rfl hl (by decide) rfl (fun ls hl => ?_)
  have hL4 : ∀ (nf : Nat) (x1 : Int32) (x2 : Int32) (r : (Unit) ⊕ Int32), itr (fun v => FX6_firstFault_S4 tx_length tx_bytes v.1 v.2) nf (x1, x2) = some r → ∀ ls, lv_has ls 3 [(2, .int x2), (1, .int x1), (0, .ref (a 1))] → (∀ o : Unit, r = .inl o → ∀ ls, lv_has ls 3 [(0, .ref (a 1))] → W p l e rm_X6_firstFault s m args below meth c s.heap [] 0 0 Q (F0 m 45 ls [])) → (∀ o : Int32, r = .inr o → ∀ ls, ls.size = 3 → W p l e rm_X6_firstFault s m args below meth c s.heap [] 0 0 Q (F0 m 22 ls [.int o])) → W p l e rm_X6_firstFault s m args below meth c s.heap [] 0 0 Q (F0 m 4 ls []) := by
    intro nf
    induction nf with
    | zero => intro _ _ r hF; exact (itr_0 hF).elim
    | succ nf ih =>
      intro x1 x2 r hF ls hl hE hE2
      obtain ⟨wo, hF, hw⟩ := itr_s hF
      replace hF : FX6_firstFault_S4 tx_length tx_bytes x1 x2 = some wo := hF
      unfold FX6_firstFault_S4 at hF
      refine lv_iload_n hx hb dX6_firstFault_4 rfl (lv_at hl 0 rfl) ?_
      refine lv_aload_n hx hb dX6_firstFault_5 rfl (lv_at hl 2 rfl) ?_
      refine gf_X6_15 hx hb hts hown hK hP h1 dX6_firstFault_6 ?_
      refine lv_icmp_ge (tgt := 45) hx hb dX6_firstFault_9 (by decide) (fun c3 => ?_) (fun c3 => ?_)
      · replace hF := (if_pos c3).symm.trans hF
        obtain rfl := Option.some.inj hF
        obtain rfl := hw
        exact hE _ rfl ls (lv_sub hl [2] rfl)
      · replace hF := (if_neg c3).symm.trans hF
        refine lv_aload_n hx hb dX6_firstFault_12 rfl (lv_at hl 2 rfl) ?_
        refine lv_iload_n hx hb dX6_firstFault_13 rfl (lv_at hl 0 rfl) ?_
        refine lv_iload_n hx hb dX6_firstFault_14 rfl (lv_at hl 1 rfl) ?_
        refine rd_i (runV (As := [.int x2, .int x1]) (rest := []) X cq_X6_fits lk_X6_27 (c_X6_fits l D cI cJ cZ a ws0 tx_length tx_bytes x2 x1 _ rfl h1 h2) rfl rfl ⟨Nat.le_of_ble_eq_true rfl, Nat.le_of_ble_eq_true rfl⟩ hP h1 rfl rfl hl.1 rfl (Nat.le_of_ble_eq_true rfl) dX6_firstFault_15 ⟨Nat.le_of_ble_eq_true rfl, Nat.le_of_ble_eq_true rfl⟩) ?_
        refine zf_ne (tgt := 23) hx hb dX6_firstFault_18 (by decide) (fun c4 => ?_) (fun c4 => ?_)
        · replace hF := (if_pos c4).symm.trans hF
          refine lv_iload_n hx hb dX6_firstFault_23 rfl (lv_at hl 0 rfl) ?_
          refine lv_bipush (v := (6 : Int32)) hx hb dX6_firstFault_24 (by decide) ?_
          refine lv_irem hx hb dX6_firstFault_26 (by decide) ?_
          refine lv_iconst (v := (2 : Int32)) hx hb dX6_firstFault_27 (by decide) ?_
          refine lv_icmp_ne (tgt := 39) hx hb dX6_firstFault_28 (by decide) (fun c5 => ?_) (fun c5 => ?_)
          · replace hF := (if_neg c5).symm.trans hF
            refine lv_iinc (v := x2 + (1 : Int32)) (lv' := [(2, .int (x2 + (1 : Int32))), (1, .int x1), (0, .ref (a 1))]) hx hb dX6_firstFault_39 hl (k := 0) rfl rfl (by decide) rfl (fun ls hl => ?_)
            refine lv_goto (tgt := 4) hx hb dX6_firstFault_42 (by decide) ?_
            obtain rfl := Option.some.inj hF
            exact ih _ _ _ hw ls (lv_sub hl [0, 1, 2] rfl) hE hE2
          · replace hF := (if_pos c5).symm.trans hF
            refine lv_iload_n hx hb dX6_firstFault_31 rfl (lv_at hl 1 rfl) ?_
            refine lv_aload_n hx hb dX6_firstFault_32 rfl (lv_at hl 2 rfl) ?_
            refine lv_iload_n hx hb dX6_firstFault_33 rfl (lv_at hl 0 rfl) ?_
            refine rd_i (runV (As := [.int x2]) (rest := [.int x1]) X cq_X6_seat lk_X6_31 (c_X6_seat l D cI cJ cZ a ws0 tx_length tx_bytes x2 _ rfl h1 h2) rfl rfl ⟨Nat.le_of_ble_eq_true rfl, Nat.le_of_ble_eq_true rfl⟩ hP h1 rfl rfl hl.1 rfl (Nat.le_of_ble_eq_true rfl) dX6_firstFault_34 ⟨Nat.le_of_ble_eq_true rfl, Nat.le_of_ble_eq_true rfl⟩) ?_
            refine lv_ior hx hb dX6_firstFault_37 ?_
            refine lv_istore_n (lv' := [(1, .int (x1 ||| (FX6_seat tx_bytes x2))), (2, .int x2), (0, .ref (a 1))]) hx hb dX6_firstFault_38 rfl hl (by decide) rfl (fun ls hl => ?_)
            refine lv_iinc (v := x2 + (1 : Int32)) (lv' := [(2, .int (x2 + (1 : Int32))), (1, .int (x1 ||| (FX6_seat tx_bytes x2))), (0, .ref (a 1))]) hx hb dX6_firstFault_39 hl (k := 1) rfl rfl (by decide) rfl (fun ls hl => ?_)
            refine lv_goto (tgt := 4) hx hb dX6_firstFault_42 (by decide) ?_
            obtain rfl := Option.some.inj hF
            exact ih _ _ _ hw ls (lv_sub hl [0, 1, 2] rfl) hE hE2
        · replace hF := (if_neg c4).symm.trans hF
          refine lv_iload_n hx hb dX6_firstFault_21 rfl (lv_at hl 0 rfl) ?_
          obtain rfl := Option.some.inj hF
          obtain rfl := hw
          exact hE2 _ rfl ls hl.1
  obtain ⟨o6, ho6, hF⟩ := bd_some hF
  refine hL4 fu (0 : Int32) (0 : Int32) o6 ho6 ls (lv_sub hl [0, 1, 2] rfl) ?_ ?_
  · intro o7 q_o6 ls hl
    subst q_o6
    refine lv_aload_n hx hb dX6_firstFault_45 rfl (lv_at hl 0 rfl) ?_
    refine gf_X6_15 hx hb hts hown hK hP h1 dX6_firstFault_46 ?_
    refine lv_bipush (v := (6 : Int32)) hx hb dX6_firstFault_49 (by decide) ?_
    refine lv_irem hx hb dX6_firstFault_51 (by decide) ?_
    refine lv_if_ne (tgt := 60) hx hb dX6_firstFault_52 (by decide) (fun c8 => ?_) (fun c8 => ?_)
    · replace hF := (if_neg c8).symm.trans hF
      refine lv_aload_n hx hb dX6_firstFault_60 rfl (lv_at hl 0 rfl) ?_
      refine gf_X6_15 hx hb hts hown hK hP h1 dX6_firstFault_61 ?_
      obtain rfl := Option.some.inj hF
      rw [hQ]
      exact rt_i X dX6_firstFault_64
    · replace hF := (if_pos c8).symm.trans hF
      refine lv_bipush (v := (-9 : Int32)) hx hb dX6_firstFault_55 (by decide) ?_
      refine lv_goto (tgt := 64) hx hb dX6_firstFault_57 (by decide) ?_
      obtain rfl := Option.some.inj hF
      rw [hQ]
      exact rt_i X dX6_firstFault_64
  · intro o q_o6 ls hls
    subst q_o6
    obtain rfl := Option.some.inj hF
    rw [hQ]
    exact rt_i X dX6_firstFault_22
def FX8_fault (tx_length : Int32) (tx_bytes : Nat → Int32) : Option (Int32) :=
  (FX6_firstFault tx_length tx_bytes).bind fun x1 => some x1
def rm_X8_fault : Room := { frames := 5, cells := 0, slots := 0, locals := 107 }
set_option maxHeartbeats 4000000 in
set_option maxRecDepth 100000 in
theorem c_X8_fault (l : Launch) (D : va_G) (cI cJ cZ : ClassId) (a : Nat → Nat) (ws0 : va_W)  (tx_length : Int32) (tx_bytes : Nat → Int32)  (u : Int32) (hF : FX8_fault tx_length tx_bytes = some u) (h0 : ws0[0]? = some (a 0, .inr (8, [.ref (a 1), .ref (a 3), .ref (a 13), .ref (a 16), .ref (a 22), .ref (a 25), .ref (a 28), .ref (a 33)]))) (h1 : ws0[1]? = some (a 1, .inr (6, [.ref (a 2), .int tx_length]))) (h2 : ws0[2]? = some (a 2, .inl (cI, 72, .inl tx_bytes))) : Met l yX8_fault (wq yX8_fault cX8_fault 1 (some .int)) rm_X8_fault (Pq [.ref (a 0)] D cI cJ cZ ws0) (Qq (some (.int u))) 0 0 (fun _ => False) := by
  refine mq_of (by decide) (Nat.le_of_ble_eq_true rfl) (fun p e s m args below meth c ls Q hQ X _ hP hl => ?_)
  obtain ⟨hx, hb, hr, hml, hown, hts, hlk, hK, hN⟩ := id X
  have hown : s.vm.findClass RX8 = some m.cls := hown
  have hl : lv_has ls 1 [(0, .ref (a 0))] := hl
  unfold FX8_fault at hF
  refine lv_aload_n hx hb dX8_fault_0 rfl (lv_at hl 0 rfl) ?_
  refine gf_X8_10 hx hb hts hown hK hP h0 dX8_fault_1 ?_
  obtain ⟨x1, hx1, hF⟩ := bd_some hF
  refine rd_i (runVN (As := []) (rest := []) X cq_X6_firstFault lk_X8_73 (c_X6_firstFault l D cI cJ cZ a ws0 tx_length tx_bytes x1 hx1 h1 h2) rfl rfl ⟨Nat.le_of_ble_eq_true rfl, Nat.le_of_ble_eq_true rfl⟩ hP h1 rfl rfl hl.1 rfl (Nat.le_of_ble_eq_true rfl) dX8_fault_4 ⟨Nat.le_of_ble_eq_true rfl, Nat.le_of_ble_eq_true rfl⟩) ?_
  obtain rfl := Option.some.inj hF
  rw [hQ]
  exact rt_i X dX8_fault_7
def FJ7_fill_53178_S5 (n : Nat) (p2 : Int32) (x1 : Int32) (x2 : Nat → Int32) : Option ((Int32 × (Nat → Int32)) ⊕ ((Nat → Int32))) :=
  if (nI n) ≤ x1 then (some (.inr x2)) else (if x1 < 0 ∨ n ≤ x1.toNatClampNeg then none else some (.inl (x1 + (1 : Int32), upd x2 x1.toNatClampNeg p2)))
def FJ7_fill_53178 (p_f : Nat → Int32) (n : Nat) (p2 : Int32) : Option ((Nat → Int32)) :=
  (itr (fun v => FJ7_fill_53178_S5 n p2 v.1 v.2) fu ((0 : Int32), p_f)).bind fun o6 => some o6
def gfill (f : Nat → Int32) (n : Nat) (v : Int32) : Nat → Int32 := fun j => if j < n then v else f j
theorem FJ7_fill_53178_eq (f : Nat → Int32) (n : Nat) (v : Int32) (hn : n < 3000) : FJ7_fill_53178 f n v = some (gfill f n v) := by
  have h1 : ∀ k, k < n → FJ7_fill_53178_S5 n v (nI k) (gfill f k v) = some (.inl (nI (k + 1), gfill f (k + 1) v)) := fun k hk => by
    unfold FJ7_fill_53178_S5
    rw [if_neg (nI_ge hk (by omega)), if_neg (vp_in_nI hk (by omega)), nI_clamp (by omega), show (1 : Int32) = nI 1 from rfl, nI_add]
    have e : upd (gfill f k v) k v = gfill f (k + 1) v := by
      funext j
      simp only [upd, gfill]
      by_cases h1 : j = k
      · rw [if_pos h1, if_pos (by omega)]
      · rw [if_neg h1]
        by_cases h2 : j < k
        · rw [if_pos h2, if_pos (by omega)]
        · rw [if_neg h2, if_neg (by omega)]
    rw [e]
  have h2 : FJ7_fill_53178_S5 n v (nI n) (gfill f n v) = some (.inr (gfill f n v)) := by
    unfold FJ7_fill_53178_S5
    rw [if_pos (nI_le (Nat.le_refl n) (by omega))]
  have h0 : ((0 : Int32), f) = (nI 0, gfill f 0 v) := by
    have e : gfill f 0 v = f := by funext j; simp [gfill]
    rw [e, nI_0]
  have h : itr (fun w => FJ7_fill_53178_S5 n v w.1 w.2) fu ((0 : Int32), f) = some (gfill f n v) := itr_cnt (g := fun k => (nI k, gfill f k v)) (e := n) (fu_le hn) h0 h1 h2
  unfold FJ7_fill_53178
  rw [h]
  rfl
def rm_J7_fill_53178 : Room := { frames := 0, cells := 0, slots := 0, locals := 0 }
set_option maxHeartbeats 4000000 in
set_option maxRecDepth 100000 in
theorem c_J7_fill_53178 (l : Launch) (D : va_G) (cI cJ cZ : ClassId) (a : Nat → Nat) (ws0 : va_W) (A : Nat → Prop) (k : Nat) (p_f : Nat → Int32) (n : Nat) (p2 : Int32) (u : (Nat → Int32)) (hF : FJ7_fill_53178 p_f n p2 = some u) (z_k0 : ws0[k]? = some (a k, .inl (cI, n, .inl p_f))) (hD : va_D A ws0) : Met l yJ7_fill_53178 (wq yJ7_fill_53178 cJ7_fill_53178 4 none) rm_J7_fill_53178 (Pq [.ref (a k), .int p2] D cI cJ cZ ws0) (Qw D A ws0 [k] none (fun w => w[k]? = some (a k, .inl (cI, n, .inl u)))) 0 0 A := by
  refine mq_of (by decide) (Nat.le_of_ble_eq_true rfl) (fun p e s m args below meth c ls Q hQ X _ hP hl => ?_)
  obtain ⟨hx, hb, hr, hml, hown, hts, hlk, hK, hN⟩ := id X
  have hown : s.vm.findClass RJ7 = some m.cls := hown
  have hl : lv_has ls 4 [(0, .ref (a k)), (1, .int p2)] := hl
  have hS : va_S A s.heap s.heap [] := va_S.rf
  have hs : ∀ j : Nat, j ∉ [k] → ws0[j]? = ws0[j]? := fun _ _ => rfl
  have h_k0 := z_k0
  unfold FJ7_fill_53178 at hF
  refine lv_iconst (v := (0 : Int32)) hx hb dJ7_fill_53178_0 (by decide) ?_
  refine lv_istore_n (lv' := [(2, .int (0 : Int32)), (0, .ref (a k)), (1, .int p2)]) hx hb dJ7_fill_53178_1 rfl hl (by decide) rfl (fun ls hl => ?_)
  refine lv_aload_n hx hb dJ7_fill_53178_2 rfl (lv_at hl 1 rfl) ?_
  refine va_alen (v := nI n) hx hb hK hP k 0 h_k0 rfl rfl dJ7_fill_53178_3 ?_
  refine lv_istore_n (lv' := [(3, .int (nI n)), (2, .int (0 : Int32)), (0, .ref (a k)), (1, .int p2)]) hx hb dJ7_fill_53178_4 rfl hl (by decide) rfl (fun ls hl => ?_)
  have hL5 : ∀ (nf : Nat) (x1 : Int32) (x2 : Nat → Int32) (r : (Nat → Int32)), itr (fun v => FJ7_fill_53178_S5 n p2 v.1 v.2) nf (x1, x2) = some r → ∀ (wJ : va_W) (HJ : Heap) (lJ : List Loc), va_P D vwCl wJ HJ → va_D A wJ → va_S A s.heap HJ lJ → (∀ j : Nat, j ∉ [k] → wJ[j]? = ws0[j]?) → wJ[k]? = some (a k, .inl (cI, n, .inl x2)) → ∀ ls, lv_has ls 4 [(3, .int (nI n)), (2, .int x1), (0, .ref (a k)), (1, .int p2)] → (∀ o : (Nat → Int32), r = o → ∀ (wK : va_W) (HK : Heap) (lK : List Loc), va_P D vwCl wK HK → va_D A wK → va_S A s.heap HK lK → (∀ j : Nat, j ∉ [k] → wK[j]? = ws0[j]?) → wK[k]? = some (a k, .inl (cI, n, .inl o)) → ∀ ls, lv_has ls 4 [] → W p l e rm_J7_fill_53178 s m args below meth c HK lK 0 0 Q (F0 m 20 ls [])) → W p l e rm_J7_fill_53178 s m args below meth c HJ lJ 0 0 Q (F0 m 5 ls []) := by
    intro nf
    induction nf with
    | zero => intro _ _ r hF; exact (itr_0 hF).elim
    | succ nf ih =>
      intro x1 x2 r hF w H locs hP hD hS hs h_k0 ls hl hE
      obtain ⟨wo, hF, hw⟩ := itr_s hF
      replace hF : FJ7_fill_53178_S5 n p2 x1 x2 = some wo := hF
      unfold FJ7_fill_53178_S5 at hF
      refine lv_iload_n hx hb dJ7_fill_53178_5 rfl (lv_at hl 1 rfl) ?_
      refine lv_iload_n hx hb dJ7_fill_53178_6 rfl (lv_at hl 0 rfl) ?_
      refine lv_icmp_ge (tgt := 20) hx hb dJ7_fill_53178_7 (by decide) (fun c3 => ?_) (fun c3 => ?_)
      · replace hF := (if_pos c3).symm.trans hF
        obtain rfl := Option.some.inj hF
        obtain rfl := hw
        exact hE _ rfl _ _ _ hP hD hS hs h_k0 ls (lv_sub hl [] rfl)
      · replace hF := (if_neg c3).symm.trans hF
        refine lv_aload_n hx hb dJ7_fill_53178_10 rfl (lv_at hl 2 rfl) ?_
        refine lv_iload_n hx hb dJ7_fill_53178_11 rfl (lv_at hl 1 rfl) ?_
        refine lv_iload_n hx hb dJ7_fill_53178_12 rfl (lv_at hl 3 rfl) ?_
        obtain ⟨hg4, hF⟩ := gd_some hF
        refine ast_i hx hb hK hP hD hS h_k0 hg4 dJ7_fill_53178_13 (fun w5 H locs hP hD hk hc hS => ?_)
        have h_k0 : w5[k]? = some (a k, .inl (cI, n, .inl (upd x2 x1.toNatClampNeg p2))) := hc
        replace hs := sm_k hk (by simp) hs
        refine lv_iinc (v := x1 + (1 : Int32)) (lv' := [(2, .int (x1 + (1 : Int32))), (3, .int (nI n)), (0, .ref (a k)), (1, .int p2)]) hx hb dJ7_fill_53178_14 hl (k := 1) rfl rfl (by decide) rfl (fun ls hl => ?_)
        refine lv_goto (tgt := 5) hx hb dJ7_fill_53178_17 (by decide) ?_
        obtain rfl := Option.some.inj hF
        exact ih _ _ _ hw _ _ _ hP hD hS hs h_k0 ls (lv_sub hl [1, 0, 2, 3] rfl) hE
  obtain ⟨o6, ho6, hF⟩ := bd_some hF
  refine hL5 fu (0 : Int32) p_f o6 ho6 _ _ _ hP hD hS hs h_k0 ls (lv_sub hl [0, 1, 2, 3] rfl) ?_
  intro _ q_o6 w H locs hP hD hS hs h_k0 ls hl
  subst q_o6
  obtain rfl := Option.some.inj hF
  rw [hQ]
  exact rw_v X hS hP hD hs h_k0 dJ7_fill_53178_20
theorem t_J7_fill_53178 (l : Launch) (D : va_G) (cI cJ cZ : ClassId) (a : Nat → Nat) (ws0 : va_W) (A : Nat → Prop) (k : Nat) (p_f : Nat → Int32) (n : Nat) (p2 : Int32) (u : (Nat → Int32)) (hF : gfill p_f n p2 = u) (z_k0 : ws0[k]? = some (a k, .inl (cI, n, .inl p_f))) (hD : va_D A ws0) (hq0 : n < 3000) : Met l yJ7_fill_53178 (wq yJ7_fill_53178 cJ7_fill_53178 4 none) rm_J7_fill_53178 (Pq [.ref (a k), .int p2] D cI cJ cZ ws0) (Qw D A ws0 [k] none (fun w => w[k]? = some (a k, .inl (cI, n, .inl u)))) 0 0 A :=
  c_J7_fill_53178 l D cI cJ cZ a ws0 A k p_f n p2 u ((FJ7_fill_53178_eq p_f n p2 hq0).trans (congrArg some hF)) z_k0 hD
def FX2_begin (p_times : Nat → Int32) : (Nat → Int32) × Int64 × Int32 × Int32 × Int32 :=
  nmb (gfill p_times 12 (0 : Int32)) fun u1 => (u1, (0 : Int64), (0 : Int32), (0 : Int32), (0 : Int32))
def rm_X2_begin : Room := { frames := 1, cells := 0, slots := 0, locals := 23 }
set_option maxHeartbeats 4000000 in
set_option maxRecDepth 100000 in
theorem c_X2_begin (l : Launch) (D : va_G) (cI cJ cZ : ClassId) (a : Nat → Nat) (ws0 : va_W) (A : Nat → Prop) (k : Nat) (p_seed : Int64) (p_questions : Int32) (p_rightOnes : Int32) (p_wrongOnes : Int32) (p_isKept : Int32) (p_times : Nat → Int32)  (u : (Nat → Int32) × Int64 × Int32 × Int32 × Int32) (hF : FX2_begin p_times = u) (z_k0 : ws0[k]? = some (a k, .inr (2, [.ref (a (k + 1)), .ref (a (k + 2)), .long p_seed, .int p_questions, .int p_rightOnes, .int p_wrongOnes, .int p_isKept]))) (z_k2 : ws0[(k + 2)]? = some (a (k + 2), .inl (cI, 12, .inl p_times))) (hD : va_D A ws0) : Met l yX2_begin (wq yX2_begin cX2_begin 1 none) rm_X2_begin (Pq [.ref (a k)] D cI cJ cZ ws0) (Qw D A ws0 [(k + 2), k] none (fun w => w[(k + 2)]? = some (a (k + 2), .inl (cI, 12, .inl u.1)) ∧ w[k]? = some (a k, .inr (2, [.ref (a (k + 1)), .ref (a (k + 2)), .long u.2.1, .int u.2.2.1, .int u.2.2.2.1, .int u.2.2.2.2, .int p_isKept])))) 0 0 A := by
  refine mq_of (by decide) (Nat.le_of_ble_eq_true rfl) (fun p e s m args below meth c ls Q hQ X _ hP hl => ?_)
  obtain ⟨hx, hb, hr, hml, hown, hts, hlk, hK, hN⟩ := id X
  have hown : s.vm.findClass RX2 = some m.cls := hown
  have hl : lv_has ls 1 [(0, .ref (a k))] := hl
  have hS : va_S A s.heap s.heap [] := va_S.rf
  have hs : ∀ j : Nat, j ∉ [(k + 2), k] → ws0[j]? = ws0[j]? := fun _ _ => rfl
  have h_k0 := z_k0
  have h_k2 := z_k2
  unfold FX2_begin at hF
  refine lv_aload_n hx hb dX2_begin_0 rfl (lv_at hl 0 rfl) ?_
  refine gf_X2_15 hx hb hts hown hK hP h_k0 dX2_begin_1 ?_
  refine lv_iconst (v := (0 : Int32)) hx hb dX2_begin_4 (by decide) ?_
  obtain ⟨u1, e_u1⟩ : ∃ q, q = gfill p_times 12 (0 : Int32) := ⟨_, rfl⟩
  replace hF := nm_at hF e_u1
  refine wr_v (runS (As := [.ref (a (k + 2)), .int (0 : Int32)]) (rest := []) X cq_J7_fill_53178 lk_X2_18 (t_J7_fill_53178 l D cI cJ cZ a ws0 A (k + 2) p_times 12 (0 : Int32) u1 e_u1.symm h_k2 hD (by decide)) rfl rfl ⟨Nat.le_of_ble_eq_true rfl, Nat.le_of_ble_eq_true rfl⟩ hP rfl hl.1 rfl (Nat.le_of_ble_eq_true rfl) dX2_begin_5 ⟨Nat.le_of_ble_eq_true rfl, Nat.le_of_ble_eq_true rfl⟩) hS (fun w2 H locs hP hD hk hB hS => ?_)
  have h_k2 : w2[(k + 2)]? = some (a (k + 2), .inl (cI, 12, .inl u1)) := hB
  have h_k0 := (hk k (by simp only [List.mem_cons, List.not_mem_nil, or_false, not_or]; omega)).trans h_k0
  replace hs := st_tr hk (fun j hj => by simp only [List.mem_cons, List.not_mem_nil, or_false] at hj ⊢; omega) hs
  refine lv_aload_n hx hb dX2_begin_8 rfl (lv_at hl 0 rfl) ?_
  refine lv_lconst (v := (0 : Int64)) hx hb dX2_begin_9 (by decide) ?_
  refine pf_X2_24 hx hb hts hown hK hP hD hS h_k0 rfl rfl dX2_begin_10 (fun w3 H locs hP hD hk hc hS => ?_)
  have h_k0 : w3[k]? = some (a k, .inr (2, [.ref (a (k + 1)), .ref (a (k + 2)), .long (0 : Int64), .int p_questions, .int p_rightOnes, .int p_wrongOnes, .int p_isKept])) := hc
  have h_k2 := (hk (k + 2) (by omega)).trans h_k2
  replace hs := sm_k hk (by simp) hs
  refine lv_aload_n hx hb dX2_begin_13 rfl (lv_at hl 0 rfl) ?_
  refine lv_iconst (v := (0 : Int32)) hx hb dX2_begin_14 (by decide) ?_
  refine pf_X2_28 hx hb hts hown hK hP hD hS h_k0 rfl rfl dX2_begin_15 (fun w4 H locs hP hD hk hc hS => ?_)
  have h_k0 : w4[k]? = some (a k, .inr (2, [.ref (a (k + 1)), .ref (a (k + 2)), .long (0 : Int64), .int (0 : Int32), .int p_rightOnes, .int p_wrongOnes, .int p_isKept])) := hc
  have h_k2 := (hk (k + 2) (by omega)).trans h_k2
  replace hs := sm_k hk (by simp) hs
  refine lv_aload_n hx hb dX2_begin_18 rfl (lv_at hl 0 rfl) ?_
  refine lv_iconst (v := (0 : Int32)) hx hb dX2_begin_19 (by decide) ?_
  refine pf_X2_32 hx hb hts hown hK hP hD hS h_k0 rfl rfl dX2_begin_20 (fun w5 H locs hP hD hk hc hS => ?_)
  have h_k0 : w5[k]? = some (a k, .inr (2, [.ref (a (k + 1)), .ref (a (k + 2)), .long (0 : Int64), .int (0 : Int32), .int (0 : Int32), .int p_wrongOnes, .int p_isKept])) := hc
  have h_k2 := (hk (k + 2) (by omega)).trans h_k2
  replace hs := sm_k hk (by simp) hs
  refine lv_aload_n hx hb dX2_begin_23 rfl (lv_at hl 0 rfl) ?_
  refine lv_iconst (v := (0 : Int32)) hx hb dX2_begin_24 (by decide) ?_
  refine pf_X2_35 hx hb hts hown hK hP hD hS h_k0 rfl rfl dX2_begin_25 (fun w6 H locs hP hD hk hc hS => ?_)
  have h_k0 : w6[k]? = some (a k, .inr (2, [.ref (a (k + 1)), .ref (a (k + 2)), .long (0 : Int64), .int (0 : Int32), .int (0 : Int32), .int (0 : Int32), .int p_isKept])) := hc
  have h_k2 := (hk (k + 2) (by omega)).trans h_k2
  replace hs := sm_k hk (by simp) hs
  subst hF
  rw [hQ]
  exact rw_v X hS hP hD hs ⟨h_k2, h_k0⟩ dX2_begin_28
def FX3_seatAll_S20 (tx_length : Int32) (tx_bytes : Nat → Int32) (x4 : Int32) (x5 : Nat → Int32) (x6 : Nat → Int32) (x7 : Nat → Int32) (x8 : Nat → Int32) (x9 : Nat → Int32) (x10 : Nat → Int32) (x11 : Nat → Int32) : Option ((Int32 × (Nat → Int32) × (Nat → Int32) × (Nat → Int32) × (Nat → Int32) × (Nat → Int32) × (Nat → Int32) × (Nat → Int32)) ⊕ ((Nat → Int32) × (Nat → Int32) × (Nat → Int32) × (Nat → Int32) × (Nat → Int32) × (Nat → Int32) × (Nat → Int32))) :=
  if (tx_length / (6 : Int32)) ≤ x4 then (some (.inr (x5, x6, x7, x8, x9, x10, x11))) else (nmb (gput x5 12 x4 (FX6_sign tx_bytes ((x4 * (6 : Int32)) + (0 : Int32)))) fun u13 => nmb (gput x6 12 x4 (FX6_figure tx_bytes ((x4 * (6 : Int32)) + (1 : Int32)))) fun u15 => nmb (gput x7 12 x4 (FX6_figure tx_bytes ((x4 * (6 : Int32)) + (2 : Int32)))) fun u17 => nmb (gput x8 12 x4 (FX6_figure tx_bytes ((x4 * (6 : Int32)) + (3 : Int32)))) fun u19 => nmb (gput x9 12 x4 (FX6_figure tx_bytes ((x4 * (6 : Int32)) + (4 : Int32)))) fun u21 => nmb (gput x10 12 x4 (FX6_figure tx_bytes ((x4 * (6 : Int32)) + (5 : Int32)))) fun u23 => nmb (gput x11 12 x4 (FX6_figure tx_bytes ((x4 * (6 : Int32)) + (5 : Int32)))) fun u25 => some (.inl (x4 + (1 : Int32), u13, u15, u17, u19, u21, u23, u25)))
def FX3_seatAll (tx_length : Int32) (le_times : Nat → Int32) (tx_bytes : Nat → Int32) (ro_letters : Nat → Int32) (ro_rows : Nat → Int32) (ro_columns : Nat → Int32) (ro_tenths : Nat → Int32) (ro_needs : Nat → Int32) (ro_toldDares : Nat → Int32) (le_dares : Nat → Int32) : Option (Int32 × (Nat → Int32) × Int64 × Int32 × Int32 × Int32 × (Nat → Int32) × (Nat → Int32) × (Nat → Int32) × (Nat → Int32) × (Nat → Int32) × (Nat → Int32) × (Nat → Int32)) :=
  nmb (FX2_begin le_times) fun u2 => (itr (fun v => FX3_seatAll_S20 tx_length tx_bytes v.1 v.2.1 v.2.2.1 v.2.2.2.1 v.2.2.2.2.1 v.2.2.2.2.2.1 v.2.2.2.2.2.2.1 v.2.2.2.2.2.2.2) fu ((0 : Int32), ro_letters, ro_rows, ro_columns, ro_tenths, ro_needs, ro_toldDares, le_dares)).bind fun o27 => some (tx_length / (6 : Int32), u2.1, u2.2.1, u2.2.2.1, u2.2.2.2.1, u2.2.2.2.2, o27.1, o27.2.1, o27.2.2.1, o27.2.2.2.1, o27.2.2.2.2.1, o27.2.2.2.2.2.1, o27.2.2.2.2.2.2)
def rm_X3_seatAll : Room := { frames := 2, cells := 0, slots := 0, locals := 43 }
set_option maxHeartbeats 4000000 in
set_option maxRecDepth 100000 in
theorem c_X3_seatAll (l : Launch) (D : va_G) (cI cJ cZ : ClassId) (a : Nat → Nat) (ws0 : va_W) (A : Nat → Prop)  (tx_length : Int32) (ro_pupils : Int32) (ro_mood : Int32) (le_seed : Int64) (le_questions : Int32) (le_rightOnes : Int32) (le_wrongOnes : Int32) (le_isKept : Int32) (le_times : Nat → Int32) (tx_bytes : Nat → Int32) (ro_letters : Nat → Int32) (ro_rows : Nat → Int32) (ro_columns : Nat → Int32) (ro_tenths : Nat → Int32) (ro_needs : Nat → Int32) (ro_toldDares : Nat → Int32) (le_dares : Nat → Int32)  (u : Int32 × (Nat → Int32) × Int64 × Int32 × Int32 × Int32 × (Nat → Int32) × (Nat → Int32) × (Nat → Int32) × (Nat → Int32) × (Nat → Int32) × (Nat → Int32) × (Nat → Int32)) (hF : FX3_seatAll tx_length le_times tx_bytes ro_letters ro_rows ro_columns ro_tenths ro_needs ro_toldDares le_dares = some u) (z1 : ws0[1]? = some (a 1, .inr (6, [.ref (a 2), .int tx_length]))) (z2 : ws0[2]? = some (a 2, .inl (cI, 72, .inl tx_bytes))) (z3 : ws0[3]? = some (a 3, .inr (3, [.ref (a 4), .ref (a 5), .ref (a 6), .ref (a 7), .ref (a 8), .ref (a 9), .ref (a 10), .int ro_pupils, .int ro_mood]))) (z4 : ws0[4]? = some (a 4, .inl (cI, 12, .inl ro_letters))) (z5 : ws0[5]? = some (a 5, .inl (cI, 12, .inl ro_rows))) (z6 : ws0[6]? = some (a 6, .inl (cI, 12, .inl ro_columns))) (z7 : ws0[7]? = some (a 7, .inl (cI, 12, .inl ro_tenths))) (z8 : ws0[8]? = some (a 8, .inl (cI, 12, .inl ro_needs))) (z9 : ws0[9]? = some (a 9, .inl (cI, 12, .inl ro_toldDares))) (z10 : ws0[10]? = some (a 10, .inr (2, [.ref (a 11), .ref (a 12), .long le_seed, .int le_questions, .int le_rightOnes, .int le_wrongOnes, .int le_isKept]))) (z11 : ws0[11]? = some (a 11, .inl (cI, 12, .inl le_dares))) (z12 : ws0[12]? = some (a 12, .inl (cI, 12, .inl le_times))) (hD : va_D A ws0) : Met l yX3_seatAll (wq yX3_seatAll cX3_seatAll 4 none) rm_X3_seatAll (Pq [.ref (a 3), .ref (a 1)] D cI cJ cZ ws0) (Qw D A ws0 [3, 12, 10, 4, 5, 6, 7, 8, 9, 11] none (fun w => w[3]? = some (a 3, .inr (3, [.ref (a 4), .ref (a 5), .ref (a 6), .ref (a 7), .ref (a 8), .ref (a 9), .ref (a 10), .int u.1, .int ro_mood])) ∧ w[12]? = some (a 12, .inl (cI, 12, .inl u.2.1)) ∧ w[10]? = some (a 10, .inr (2, [.ref (a 11), .ref (a 12), .long u.2.2.1, .int u.2.2.2.1, .int u.2.2.2.2.1, .int u.2.2.2.2.2.1, .int le_isKept])) ∧ w[4]? = some (a 4, .inl (cI, 12, .inl u.2.2.2.2.2.2.1)) ∧ w[5]? = some (a 5, .inl (cI, 12, .inl u.2.2.2.2.2.2.2.1)) ∧ w[6]? = some (a 6, .inl (cI, 12, .inl u.2.2.2.2.2.2.2.2.1)) ∧ w[7]? = some (a 7, .inl (cI, 12, .inl u.2.2.2.2.2.2.2.2.2.1)) ∧ w[8]? = some (a 8, .inl (cI, 12, .inl u.2.2.2.2.2.2.2.2.2.2.1)) ∧ w[9]? = some (a 9, .inl (cI, 12, .inl u.2.2.2.2.2.2.2.2.2.2.2.1)) ∧ w[11]? = some (a 11, .inl (cI, 12, .inl u.2.2.2.2.2.2.2.2.2.2.2.2)))) 0 0 A := by
  refine mq_of (by decide) (Nat.le_of_ble_eq_true rfl) (fun p e s m args below meth c ls Q hQ X _ hP hl => ?_)
  obtain ⟨hx, hb, hr, hml, hown, hts, hlk, hK, hN⟩ := id X
  have hown : s.vm.findClass RX3 = some m.cls := hown
  have hl : lv_has ls 4 [(0, .ref (a 3)), (1, .ref (a 1))] := hl
  have hS : va_S A s.heap s.heap [] := va_S.rf
  have hs : ∀ j : Nat, j ∉ [3, 12, 10, 4, 5, 6, 7, 8, 9, 11] → ws0[j]? = ws0[j]? := fun _ _ => rfl
  have h1 := z1
  have h2 := z2
  have h3 := z3
  have h4 := z4
  have h5 := z5
  have h6 := z6
  have h7 := z7
  have h8 := z8
  have h9 := z9
  have h10 := z10
  have h11 := z11
  have h12 := z12
  unfold FX3_seatAll at hF
  refine lv_aload_n hx hb dX3_seatAll_0 rfl (lv_at hl 0 rfl) ?_
  refine lv_aload_n hx hb dX3_seatAll_1 rfl (lv_at hl 1 rfl) ?_
  refine gf_X3_41 hx hb hts hown hK hN hP h1 dX3_seatAll_2 ?_
  refine lv_bipush (v := (6 : Int32)) hx hb dX3_seatAll_5 (by decide) ?_
  refine lv_idiv hx hb dX3_seatAll_7 (by decide) ?_
  refine pf_X3_46 hx hb hts hown hK hP hD hS h3 rfl rfl dX3_seatAll_8 (fun w1 H locs hP hD hk hc hS => ?_)
  have h3 : w1[3]? = some (a 3, .inr (3, [.ref (a 4), .ref (a 5), .ref (a 6), .ref (a 7), .ref (a 8), .ref (a 9), .ref (a 10), .int (tx_length / (6 : Int32)), .int ro_mood])) := hc
  have h1 := (hk 1 (by omega)).trans h1
  have h10 := (hk 10 (by omega)).trans h10
  have h12 := (hk 12 (by omega)).trans h12
  have h2 := (hk 2 (by omega)).trans h2
  have h4 := (hk 4 (by omega)).trans h4
  have h5 := (hk 5 (by omega)).trans h5
  have h6 := (hk 6 (by omega)).trans h6
  have h7 := (hk 7 (by omega)).trans h7
  have h8 := (hk 8 (by omega)).trans h8
  have h9 := (hk 9 (by omega)).trans h9
  have h11 := (hk 11 (by omega)).trans h11
  replace hs := sm_k hk (by simp) hs
  refine lv_aload_n hx hb dX3_seatAll_11 rfl (lv_at hl 0 rfl) ?_
  refine gf_X3_33 hx hb hts hown hK hP h3 dX3_seatAll_12 ?_
  obtain ⟨u2, e_u2⟩ : ∃ q, q = FX2_begin le_times := ⟨_, rfl⟩
  replace hF := nm_at hF e_u2
  refine wr_v (runVN (As := []) (rest := []) X cq_X2_begin lk_X3_49 (c_X2_begin l D cI cJ cZ a w1 A 10 le_seed le_questions le_rightOnes le_wrongOnes le_isKept le_times u2 e_u2.symm h10 h12 hD) rfl rfl ⟨Nat.le_of_ble_eq_true rfl, Nat.le_of_ble_eq_true rfl⟩ hP h10 rfl rfl hl.1 rfl (Nat.le_of_ble_eq_true rfl) dX3_seatAll_15 ⟨Nat.le_of_ble_eq_true rfl, Nat.le_of_ble_eq_true rfl⟩) hS (fun w3 H locs hP hD hk hB hS => ?_)
  obtain ⟨hB0, hB1⟩ := hB
  have h12 : w3[12]? = some (a 12, .inl (cI, 12, .inl u2.1)) := hB0
  have h10 : w3[10]? = some (a 10, .inr (2, [.ref (a 11), .ref (a 12), .long u2.2.1, .int u2.2.2.1, .int u2.2.2.2.1, .int u2.2.2.2.2, .int le_isKept])) := hB1
  have h1 := (hk 1 (by simp only [List.mem_cons, List.not_mem_nil, or_false, not_or]; omega)).trans h1
  have h3 := (hk 3 (by simp only [List.mem_cons, List.not_mem_nil, or_false, not_or]; omega)).trans h3
  have h2 := (hk 2 (by simp only [List.mem_cons, List.not_mem_nil, or_false, not_or]; omega)).trans h2
  have h4 := (hk 4 (by simp only [List.mem_cons, List.not_mem_nil, or_false, not_or]; omega)).trans h4
  have h5 := (hk 5 (by simp only [List.mem_cons, List.not_mem_nil, or_false, not_or]; omega)).trans h5
  have h6 := (hk 6 (by simp only [List.mem_cons, List.not_mem_nil, or_false, not_or]; omega)).trans h6
  have h7 := (hk 7 (by simp only [List.mem_cons, List.not_mem_nil, or_false, not_or]; omega)).trans h7
  have h8 := (hk 8 (by simp only [List.mem_cons, List.not_mem_nil, or_false, not_or]; omega)).trans h8
  have h9 := (hk 9 (by simp only [List.mem_cons, List.not_mem_nil, or_false, not_or]; omega)).trans h9
  have h11 := (hk 11 (by simp only [List.mem_cons, List.not_mem_nil, or_false, not_or]; omega)).trans h11
  replace hs := st_tr hk (fun j hj => by simp only [List.mem_cons, List.not_mem_nil, or_false] at hj ⊢; omega) hs
  refine lv_iconst (v := (0 : Int32)) hx hb dX3_seatAll_18 (by decide) ?_
  refine lv_istore_n (lv' := [(2, .int (0 : Int32)), (0, .ref (a 3)), (1, .ref (a 1))]) hx hb dX3_seatAll_19 rfl hl (by decide) rfl (fun ls hl => ?_)
  have hL20 : ∀ (nf : Nat) (x4 : Int32) (x5 : Nat → Int32) (x6 : Nat → Int32) (x7 : Nat → Int32) (x8 : Nat → Int32) (x9 : Nat → Int32) (x10 : Nat → Int32) (x11 : Nat → Int32) (r : (Nat → Int32) × (Nat → Int32) × (Nat → Int32) × (Nat → Int32) × (Nat → Int32) × (Nat → Int32) × (Nat → Int32)), itr (fun v => FX3_seatAll_S20 tx_length tx_bytes v.1 v.2.1 v.2.2.1 v.2.2.2.1 v.2.2.2.2.1 v.2.2.2.2.2.1 v.2.2.2.2.2.2.1 v.2.2.2.2.2.2.2) nf (x4, x5, x6, x7, x8, x9, x10, x11) = some r → ∀ (wJ : va_W) (HJ : Heap) (lJ : List Loc), va_P D vwCl wJ HJ → va_D A wJ → va_S A s.heap HJ lJ → (∀ j : Nat, j ∉ [3, 12, 10, 4, 5, 6, 7, 8, 9, 11] → wJ[j]? = ws0[j]?) → wJ[3]? = some (a 3, .inr (3, [.ref (a 4), .ref (a 5), .ref (a 6), .ref (a 7), .ref (a 8), .ref (a 9), .ref (a 10), .int (tx_length / (6 : Int32)), .int ro_mood])) → wJ[12]? = some (a 12, .inl (cI, 12, .inl u2.1)) → wJ[10]? = some (a 10, .inr (2, [.ref (a 11), .ref (a 12), .long u2.2.1, .int u2.2.2.1, .int u2.2.2.2.1, .int u2.2.2.2.2, .int le_isKept])) → wJ[4]? = some (a 4, .inl (cI, 12, .inl x5)) → wJ[5]? = some (a 5, .inl (cI, 12, .inl x6)) → wJ[6]? = some (a 6, .inl (cI, 12, .inl x7)) → wJ[7]? = some (a 7, .inl (cI, 12, .inl x8)) → wJ[8]? = some (a 8, .inl (cI, 12, .inl x9)) → wJ[9]? = some (a 9, .inl (cI, 12, .inl x10)) → wJ[11]? = some (a 11, .inl (cI, 12, .inl x11)) → ∀ ls, lv_has ls 4 [(2, .int x4), (0, .ref (a 3)), (1, .ref (a 1))] → (∀ o : (Nat → Int32) × (Nat → Int32) × (Nat → Int32) × (Nat → Int32) × (Nat → Int32) × (Nat → Int32) × (Nat → Int32), r = o → ∀ (wK : va_W) (HK : Heap) (lK : List Loc), va_P D vwCl wK HK → va_D A wK → va_S A s.heap HK lK → (∀ j : Nat, j ∉ [3, 12, 10, 4, 5, 6, 7, 8, 9, 11] → wK[j]? = ws0[j]?) → wK[3]? = some (a 3, .inr (3, [.ref (a 4), .ref (a 5), .ref (a 6), .ref (a 7), .ref (a 8), .ref (a 9), .ref (a 10), .int (tx_length / (6 : Int32)), .int ro_mood])) → wK[12]? = some (a 12, .inl (cI, 12, .inl u2.1)) → wK[10]? = some (a 10, .inr (2, [.ref (a 11), .ref (a 12), .long u2.2.1, .int u2.2.2.1, .int u2.2.2.2.1, .int u2.2.2.2.2, .int le_isKept])) → wK[4]? = some (a 4, .inl (cI, 12, .inl o.1)) → wK[5]? = some (a 5, .inl (cI, 12, .inl o.2.1)) → wK[6]? = some (a 6, .inl (cI, 12, .inl o.2.2.1)) → wK[7]? = some (a 7, .inl (cI, 12, .inl o.2.2.2.1)) → wK[8]? = some (a 8, .inl (cI, 12, .inl o.2.2.2.2.1)) → wK[9]? = some (a 9, .inl (cI, 12, .inl o.2.2.2.2.2.1)) → wK[11]? = some (a 11, .inl (cI, 12, .inl o.2.2.2.2.2.2)) → ∀ ls, lv_has ls 4 [] → W p l e rm_X3_seatAll s m args below meth c HK lK 0 0 Q (F0 m 147 ls [])) → W p l e rm_X3_seatAll s m args below meth c HJ lJ 0 0 Q (F0 m 20 ls []) := by
    intro nf
    induction nf with
    | zero => intro _ _ _ _ _ _ _ _ r hF; exact (itr_0 hF).elim
    | succ nf ih =>
      intro x4 x5 x6 x7 x8 x9 x10 x11 r hF w H locs hP hD hS hs h3 h12 h10 h4 h5 h6 h7 h8 h9 h11 ls hl hE
      obtain ⟨wo, hF, hw⟩ := itr_s hF
      replace hF : FX3_seatAll_S20 tx_length tx_bytes x4 x5 x6 x7 x8 x9 x10 x11 = some wo := hF
      have h1 := (hs 1 (by simp only [List.mem_cons, List.not_mem_nil, or_false, not_or]; omega)).trans z1
      have h2 := (hs 2 (by simp only [List.mem_cons, List.not_mem_nil, or_false, not_or]; omega)).trans z2
      unfold FX3_seatAll_S20 at hF
      refine lv_iload_n hx hb dX3_seatAll_20 rfl (lv_at hl 0 rfl) ?_
      refine lv_aload_n hx hb dX3_seatAll_21 rfl (lv_at hl 1 rfl) ?_
      refine gf_X3_46 hx hb hts hown hK hP h3 dX3_seatAll_22 ?_
      refine lv_icmp_ge (tgt := 147) hx hb dX3_seatAll_25 (by decide) (fun c12 => ?_) (fun c12 => ?_)
      · replace hF := (if_pos c12).symm.trans hF
        obtain rfl := Option.some.inj hF
        obtain rfl := hw
        exact hE _ rfl _ _ _ hP hD hS hs h3 h12 h10 h4 h5 h6 h7 h8 h9 h11 ls (lv_sub hl [] rfl)
      · replace hF := (if_neg c12).symm.trans hF
        refine lv_iload_n hx hb dX3_seatAll_28 rfl (lv_at hl 0 rfl) ?_
        refine lv_bipush (v := (6 : Int32)) hx hb dX3_seatAll_29 (by decide) ?_
        refine lv_imul hx hb dX3_seatAll_31 ?_
        refine lv_istore_n (lv' := [(3, .int (x4 * (6 : Int32))), (2, .int x4), (0, .ref (a 3)), (1, .ref (a 1))]) hx hb dX3_seatAll_32 rfl hl (by decide) rfl (fun ls hl => ?_)
        refine lv_aload_n hx hb dX3_seatAll_33 rfl (lv_at hl 2 rfl) ?_
        refine gf_X3_9 hx hb hts hown hK hP h3 dX3_seatAll_34 ?_
        refine lv_iload_n hx hb dX3_seatAll_37 rfl (lv_at hl 1 rfl) ?_
        refine lv_aload_n hx hb dX3_seatAll_38 rfl (lv_at hl 3 rfl) ?_
        refine lv_iload_n hx hb dX3_seatAll_39 rfl (lv_at hl 0 rfl) ?_
        refine lv_iconst (v := (0 : Int32)) hx hb dX3_seatAll_40 (by decide) ?_
        refine lv_iadd hx hb dX3_seatAll_41 ?_
        refine rd_i (runVN (As := [.int ((x4 * (6 : Int32)) + (0 : Int32))]) (rest := [.int x4, .ref (a 4)]) X cq_X6_sign lk_X3_52 (c_X6_sign l D cI cJ cZ a w tx_length tx_bytes ((x4 * (6 : Int32)) + (0 : Int32)) _ rfl h1 h2) rfl rfl ⟨Nat.le_of_ble_eq_true rfl, Nat.le_of_ble_eq_true rfl⟩ hP h1 rfl rfl hl.1 rfl (Nat.le_of_ble_eq_true rfl) dX3_seatAll_42 ⟨Nat.le_of_ble_eq_true rfl, Nat.le_of_ble_eq_true rfl⟩) ?_
        obtain ⟨u13, e_u13⟩ : ∃ q, q = gput x5 12 x4 (FX6_sign tx_bytes ((x4 * (6 : Int32)) + (0 : Int32))) := ⟨_, rfl⟩
        replace hF := nm_at hF e_u13
        refine wr_v (runSN (As := [.ref (a 4), .int x4, .int (FX6_sign tx_bytes ((x4 * (6 : Int32)) + (0 : Int32)))]) (rest := []) X cq_X8_put lk_X3_56 (t_X8_put l D cI cJ cZ a w A 4 x5 12 x4 (FX6_sign tx_bytes ((x4 * (6 : Int32)) + (0 : Int32))) u13 e_u13.symm h4 hD (by decide)) rfl rfl ⟨Nat.le_of_ble_eq_true rfl, Nat.le_of_ble_eq_true rfl⟩ hP rfl hl.1 rfl (Nat.le_of_ble_eq_true rfl) dX3_seatAll_45 ⟨Nat.le_of_ble_eq_true rfl, Nat.le_of_ble_eq_true rfl⟩) hS (fun w14 H locs hP hD hk hB hS => ?_)
        have h4 : w14[4]? = some (a 4, .inl (cI, 12, .inl u13)) := hB
        have h1 := (hk 1 (by simp only [List.mem_cons, List.not_mem_nil, or_false, not_or]; omega)).trans h1
        have h3 := (hk 3 (by simp only [List.mem_cons, List.not_mem_nil, or_false, not_or]; omega)).trans h3
        have h10 := (hk 10 (by simp only [List.mem_cons, List.not_mem_nil, or_false, not_or]; omega)).trans h10
        have h12 := (hk 12 (by simp only [List.mem_cons, List.not_mem_nil, or_false, not_or]; omega)).trans h12
        have h2 := (hk 2 (by simp only [List.mem_cons, List.not_mem_nil, or_false, not_or]; omega)).trans h2
        have h5 := (hk 5 (by simp only [List.mem_cons, List.not_mem_nil, or_false, not_or]; omega)).trans h5
        have h6 := (hk 6 (by simp only [List.mem_cons, List.not_mem_nil, or_false, not_or]; omega)).trans h6
        have h7 := (hk 7 (by simp only [List.mem_cons, List.not_mem_nil, or_false, not_or]; omega)).trans h7
        have h8 := (hk 8 (by simp only [List.mem_cons, List.not_mem_nil, or_false, not_or]; omega)).trans h8
        have h9 := (hk 9 (by simp only [List.mem_cons, List.not_mem_nil, or_false, not_or]; omega)).trans h9
        have h11 := (hk 11 (by simp only [List.mem_cons, List.not_mem_nil, or_false, not_or]; omega)).trans h11
        replace hs := st_tr hk (fun j hj => by simp only [List.mem_cons, List.not_mem_nil, or_false] at hj ⊢; omega) hs
        refine lv_aload_n hx hb dX3_seatAll_48 rfl (lv_at hl 2 rfl) ?_
        refine gf_X3_15 hx hb hts hown hK hP h3 dX3_seatAll_49 ?_
        refine lv_iload_n hx hb dX3_seatAll_52 rfl (lv_at hl 1 rfl) ?_
        refine lv_aload_n hx hb dX3_seatAll_53 rfl (lv_at hl 3 rfl) ?_
        refine lv_iload_n hx hb dX3_seatAll_54 rfl (lv_at hl 0 rfl) ?_
        refine lv_iconst (v := (1 : Int32)) hx hb dX3_seatAll_55 (by decide) ?_
        refine lv_iadd hx hb dX3_seatAll_56 ?_
        refine rd_i (runVN (As := [.int ((x4 * (6 : Int32)) + (1 : Int32))]) (rest := [.int x4, .ref (a 5)]) X cq_X6_figure lk_X3_60 (c_X6_figure l D cI cJ cZ a w14 tx_length tx_bytes ((x4 * (6 : Int32)) + (1 : Int32)) _ rfl h1 h2) rfl rfl ⟨Nat.le_of_ble_eq_true rfl, Nat.le_of_ble_eq_true rfl⟩ hP h1 rfl rfl hl.1 rfl (Nat.le_of_ble_eq_true rfl) dX3_seatAll_57 ⟨Nat.le_of_ble_eq_true rfl, Nat.le_of_ble_eq_true rfl⟩) ?_
        obtain ⟨u15, e_u15⟩ : ∃ q, q = gput x6 12 x4 (FX6_figure tx_bytes ((x4 * (6 : Int32)) + (1 : Int32))) := ⟨_, rfl⟩
        replace hF := nm_at hF e_u15
        refine wr_v (runSN (As := [.ref (a 5), .int x4, .int (FX6_figure tx_bytes ((x4 * (6 : Int32)) + (1 : Int32)))]) (rest := []) X cq_X8_put lk_X3_56 (t_X8_put l D cI cJ cZ a w14 A 5 x6 12 x4 (FX6_figure tx_bytes ((x4 * (6 : Int32)) + (1 : Int32))) u15 e_u15.symm h5 hD (by decide)) rfl rfl ⟨Nat.le_of_ble_eq_true rfl, Nat.le_of_ble_eq_true rfl⟩ hP rfl hl.1 rfl (Nat.le_of_ble_eq_true rfl) dX3_seatAll_60 ⟨Nat.le_of_ble_eq_true rfl, Nat.le_of_ble_eq_true rfl⟩) hS (fun w16 H locs hP hD hk hB hS => ?_)
        have h5 : w16[5]? = some (a 5, .inl (cI, 12, .inl u15)) := hB
        have h1 := (hk 1 (by simp only [List.mem_cons, List.not_mem_nil, or_false, not_or]; omega)).trans h1
        have h3 := (hk 3 (by simp only [List.mem_cons, List.not_mem_nil, or_false, not_or]; omega)).trans h3
        have h10 := (hk 10 (by simp only [List.mem_cons, List.not_mem_nil, or_false, not_or]; omega)).trans h10
        have h12 := (hk 12 (by simp only [List.mem_cons, List.not_mem_nil, or_false, not_or]; omega)).trans h12
        have h2 := (hk 2 (by simp only [List.mem_cons, List.not_mem_nil, or_false, not_or]; omega)).trans h2
        have h4 := (hk 4 (by simp only [List.mem_cons, List.not_mem_nil, or_false, not_or]; omega)).trans h4
        have h6 := (hk 6 (by simp only [List.mem_cons, List.not_mem_nil, or_false, not_or]; omega)).trans h6
        have h7 := (hk 7 (by simp only [List.mem_cons, List.not_mem_nil, or_false, not_or]; omega)).trans h7
        have h8 := (hk 8 (by simp only [List.mem_cons, List.not_mem_nil, or_false, not_or]; omega)).trans h8
        have h9 := (hk 9 (by simp only [List.mem_cons, List.not_mem_nil, or_false, not_or]; omega)).trans h9
        have h11 := (hk 11 (by simp only [List.mem_cons, List.not_mem_nil, or_false, not_or]; omega)).trans h11
        replace hs := st_tr hk (fun j hj => by simp only [List.mem_cons, List.not_mem_nil, or_false] at hj ⊢; omega) hs
        refine lv_aload_n hx hb dX3_seatAll_63 rfl (lv_at hl 2 rfl) ?_
        refine gf_X3_18 hx hb hts hown hK hP h3 dX3_seatAll_64 ?_
        refine lv_iload_n hx hb dX3_seatAll_67 rfl (lv_at hl 1 rfl) ?_
        refine lv_aload_n hx hb dX3_seatAll_68 rfl (lv_at hl 3 rfl) ?_
        refine lv_iload_n hx hb dX3_seatAll_69 rfl (lv_at hl 0 rfl) ?_
        refine lv_iconst (v := (2 : Int32)) hx hb dX3_seatAll_70 (by decide) ?_
        refine lv_iadd hx hb dX3_seatAll_71 ?_
        refine rd_i (runVN (As := [.int ((x4 * (6 : Int32)) + (2 : Int32))]) (rest := [.int x4, .ref (a 6)]) X cq_X6_figure lk_X3_60 (c_X6_figure l D cI cJ cZ a w16 tx_length tx_bytes ((x4 * (6 : Int32)) + (2 : Int32)) _ rfl h1 h2) rfl rfl ⟨Nat.le_of_ble_eq_true rfl, Nat.le_of_ble_eq_true rfl⟩ hP h1 rfl rfl hl.1 rfl (Nat.le_of_ble_eq_true rfl) dX3_seatAll_72 ⟨Nat.le_of_ble_eq_true rfl, Nat.le_of_ble_eq_true rfl⟩) ?_
        obtain ⟨u17, e_u17⟩ : ∃ q, q = gput x7 12 x4 (FX6_figure tx_bytes ((x4 * (6 : Int32)) + (2 : Int32))) := ⟨_, rfl⟩
        replace hF := nm_at hF e_u17
        refine wr_v (runSN (As := [.ref (a 6), .int x4, .int (FX6_figure tx_bytes ((x4 * (6 : Int32)) + (2 : Int32)))]) (rest := []) X cq_X8_put lk_X3_56 (t_X8_put l D cI cJ cZ a w16 A 6 x7 12 x4 (FX6_figure tx_bytes ((x4 * (6 : Int32)) + (2 : Int32))) u17 e_u17.symm h6 hD (by decide)) rfl rfl ⟨Nat.le_of_ble_eq_true rfl, Nat.le_of_ble_eq_true rfl⟩ hP rfl hl.1 rfl (Nat.le_of_ble_eq_true rfl) dX3_seatAll_75 ⟨Nat.le_of_ble_eq_true rfl, Nat.le_of_ble_eq_true rfl⟩) hS (fun w18 H locs hP hD hk hB hS => ?_)
        have h6 : w18[6]? = some (a 6, .inl (cI, 12, .inl u17)) := hB
        have h1 := (hk 1 (by simp only [List.mem_cons, List.not_mem_nil, or_false, not_or]; omega)).trans h1
        have h3 := (hk 3 (by simp only [List.mem_cons, List.not_mem_nil, or_false, not_or]; omega)).trans h3
        have h10 := (hk 10 (by simp only [List.mem_cons, List.not_mem_nil, or_false, not_or]; omega)).trans h10
        have h12 := (hk 12 (by simp only [List.mem_cons, List.not_mem_nil, or_false, not_or]; omega)).trans h12
        have h2 := (hk 2 (by simp only [List.mem_cons, List.not_mem_nil, or_false, not_or]; omega)).trans h2
        have h4 := (hk 4 (by simp only [List.mem_cons, List.not_mem_nil, or_false, not_or]; omega)).trans h4
        have h5 := (hk 5 (by simp only [List.mem_cons, List.not_mem_nil, or_false, not_or]; omega)).trans h5
        have h7 := (hk 7 (by simp only [List.mem_cons, List.not_mem_nil, or_false, not_or]; omega)).trans h7
        have h8 := (hk 8 (by simp only [List.mem_cons, List.not_mem_nil, or_false, not_or]; omega)).trans h8
        have h9 := (hk 9 (by simp only [List.mem_cons, List.not_mem_nil, or_false, not_or]; omega)).trans h9
        have h11 := (hk 11 (by simp only [List.mem_cons, List.not_mem_nil, or_false, not_or]; omega)).trans h11
        replace hs := st_tr hk (fun j hj => by simp only [List.mem_cons, List.not_mem_nil, or_false] at hj ⊢; omega) hs
        refine lv_aload_n hx hb dX3_seatAll_78 rfl (lv_at hl 2 rfl) ?_
        refine gf_X3_21 hx hb hts hown hK hP h3 dX3_seatAll_79 ?_
        refine lv_iload_n hx hb dX3_seatAll_82 rfl (lv_at hl 1 rfl) ?_
        refine lv_aload_n hx hb dX3_seatAll_83 rfl (lv_at hl 3 rfl) ?_
        refine lv_iload_n hx hb dX3_seatAll_84 rfl (lv_at hl 0 rfl) ?_
        refine lv_iconst (v := (3 : Int32)) hx hb dX3_seatAll_85 (by decide) ?_
        refine lv_iadd hx hb dX3_seatAll_86 ?_
        refine rd_i (runVN (As := [.int ((x4 * (6 : Int32)) + (3 : Int32))]) (rest := [.int x4, .ref (a 7)]) X cq_X6_figure lk_X3_60 (c_X6_figure l D cI cJ cZ a w18 tx_length tx_bytes ((x4 * (6 : Int32)) + (3 : Int32)) _ rfl h1 h2) rfl rfl ⟨Nat.le_of_ble_eq_true rfl, Nat.le_of_ble_eq_true rfl⟩ hP h1 rfl rfl hl.1 rfl (Nat.le_of_ble_eq_true rfl) dX3_seatAll_87 ⟨Nat.le_of_ble_eq_true rfl, Nat.le_of_ble_eq_true rfl⟩) ?_
        obtain ⟨u19, e_u19⟩ : ∃ q, q = gput x8 12 x4 (FX6_figure tx_bytes ((x4 * (6 : Int32)) + (3 : Int32))) := ⟨_, rfl⟩
        replace hF := nm_at hF e_u19
        refine wr_v (runSN (As := [.ref (a 7), .int x4, .int (FX6_figure tx_bytes ((x4 * (6 : Int32)) + (3 : Int32)))]) (rest := []) X cq_X8_put lk_X3_56 (t_X8_put l D cI cJ cZ a w18 A 7 x8 12 x4 (FX6_figure tx_bytes ((x4 * (6 : Int32)) + (3 : Int32))) u19 e_u19.symm h7 hD (by decide)) rfl rfl ⟨Nat.le_of_ble_eq_true rfl, Nat.le_of_ble_eq_true rfl⟩ hP rfl hl.1 rfl (Nat.le_of_ble_eq_true rfl) dX3_seatAll_90 ⟨Nat.le_of_ble_eq_true rfl, Nat.le_of_ble_eq_true rfl⟩) hS (fun w20 H locs hP hD hk hB hS => ?_)
        have h7 : w20[7]? = some (a 7, .inl (cI, 12, .inl u19)) := hB
        have h1 := (hk 1 (by simp only [List.mem_cons, List.not_mem_nil, or_false, not_or]; omega)).trans h1
        have h3 := (hk 3 (by simp only [List.mem_cons, List.not_mem_nil, or_false, not_or]; omega)).trans h3
        have h10 := (hk 10 (by simp only [List.mem_cons, List.not_mem_nil, or_false, not_or]; omega)).trans h10
        have h12 := (hk 12 (by simp only [List.mem_cons, List.not_mem_nil, or_false, not_or]; omega)).trans h12
        have h2 := (hk 2 (by simp only [List.mem_cons, List.not_mem_nil, or_false, not_or]; omega)).trans h2
        have h4 := (hk 4 (by simp only [List.mem_cons, List.not_mem_nil, or_false, not_or]; omega)).trans h4
        have h5 := (hk 5 (by simp only [List.mem_cons, List.not_mem_nil, or_false, not_or]; omega)).trans h5
        have h6 := (hk 6 (by simp only [List.mem_cons, List.not_mem_nil, or_false, not_or]; omega)).trans h6
        have h8 := (hk 8 (by simp only [List.mem_cons, List.not_mem_nil, or_false, not_or]; omega)).trans h8
        have h9 := (hk 9 (by simp only [List.mem_cons, List.not_mem_nil, or_false, not_or]; omega)).trans h9
        have h11 := (hk 11 (by simp only [List.mem_cons, List.not_mem_nil, or_false, not_or]; omega)).trans h11
        replace hs := st_tr hk (fun j hj => by simp only [List.mem_cons, List.not_mem_nil, or_false] at hj ⊢; omega) hs
        refine lv_aload_n hx hb dX3_seatAll_93 rfl (lv_at hl 2 rfl) ?_
        refine gf_X3_24 hx hb hts hown hK hP h3 dX3_seatAll_94 ?_
        refine lv_iload_n hx hb dX3_seatAll_97 rfl (lv_at hl 1 rfl) ?_
        refine lv_aload_n hx hb dX3_seatAll_98 rfl (lv_at hl 3 rfl) ?_
        refine lv_iload_n hx hb dX3_seatAll_99 rfl (lv_at hl 0 rfl) ?_
        refine lv_iconst (v := (4 : Int32)) hx hb dX3_seatAll_100 (by decide) ?_
        refine lv_iadd hx hb dX3_seatAll_101 ?_
        refine rd_i (runVN (As := [.int ((x4 * (6 : Int32)) + (4 : Int32))]) (rest := [.int x4, .ref (a 8)]) X cq_X6_figure lk_X3_60 (c_X6_figure l D cI cJ cZ a w20 tx_length tx_bytes ((x4 * (6 : Int32)) + (4 : Int32)) _ rfl h1 h2) rfl rfl ⟨Nat.le_of_ble_eq_true rfl, Nat.le_of_ble_eq_true rfl⟩ hP h1 rfl rfl hl.1 rfl (Nat.le_of_ble_eq_true rfl) dX3_seatAll_102 ⟨Nat.le_of_ble_eq_true rfl, Nat.le_of_ble_eq_true rfl⟩) ?_
        obtain ⟨u21, e_u21⟩ : ∃ q, q = gput x9 12 x4 (FX6_figure tx_bytes ((x4 * (6 : Int32)) + (4 : Int32))) := ⟨_, rfl⟩
        replace hF := nm_at hF e_u21
        refine wr_v (runSN (As := [.ref (a 8), .int x4, .int (FX6_figure tx_bytes ((x4 * (6 : Int32)) + (4 : Int32)))]) (rest := []) X cq_X8_put lk_X3_56 (t_X8_put l D cI cJ cZ a w20 A 8 x9 12 x4 (FX6_figure tx_bytes ((x4 * (6 : Int32)) + (4 : Int32))) u21 e_u21.symm h8 hD (by decide)) rfl rfl ⟨Nat.le_of_ble_eq_true rfl, Nat.le_of_ble_eq_true rfl⟩ hP rfl hl.1 rfl (Nat.le_of_ble_eq_true rfl) dX3_seatAll_105 ⟨Nat.le_of_ble_eq_true rfl, Nat.le_of_ble_eq_true rfl⟩) hS (fun w22 H locs hP hD hk hB hS => ?_)
        have h8 : w22[8]? = some (a 8, .inl (cI, 12, .inl u21)) := hB
        have h1 := (hk 1 (by simp only [List.mem_cons, List.not_mem_nil, or_false, not_or]; omega)).trans h1
        have h3 := (hk 3 (by simp only [List.mem_cons, List.not_mem_nil, or_false, not_or]; omega)).trans h3
        have h10 := (hk 10 (by simp only [List.mem_cons, List.not_mem_nil, or_false, not_or]; omega)).trans h10
        have h12 := (hk 12 (by simp only [List.mem_cons, List.not_mem_nil, or_false, not_or]; omega)).trans h12
        have h2 := (hk 2 (by simp only [List.mem_cons, List.not_mem_nil, or_false, not_or]; omega)).trans h2
        have h4 := (hk 4 (by simp only [List.mem_cons, List.not_mem_nil, or_false, not_or]; omega)).trans h4
        have h5 := (hk 5 (by simp only [List.mem_cons, List.not_mem_nil, or_false, not_or]; omega)).trans h5
        have h6 := (hk 6 (by simp only [List.mem_cons, List.not_mem_nil, or_false, not_or]; omega)).trans h6
        have h7 := (hk 7 (by simp only [List.mem_cons, List.not_mem_nil, or_false, not_or]; omega)).trans h7
        have h9 := (hk 9 (by simp only [List.mem_cons, List.not_mem_nil, or_false, not_or]; omega)).trans h9
        have h11 := (hk 11 (by simp only [List.mem_cons, List.not_mem_nil, or_false, not_or]; omega)).trans h11
        replace hs := st_tr hk (fun j hj => by simp only [List.mem_cons, List.not_mem_nil, or_false] at hj ⊢; omega) hs
        refine lv_aload_n hx hb dX3_seatAll_108 rfl (lv_at hl 2 rfl) ?_
        refine gf_X3_27 hx hb hts hown hK hP h3 dX3_seatAll_109 ?_
        refine lv_iload_n hx hb dX3_seatAll_112 rfl (lv_at hl 1 rfl) ?_
        refine lv_aload_n hx hb dX3_seatAll_113 rfl (lv_at hl 3 rfl) ?_
        refine lv_iload_n hx hb dX3_seatAll_114 rfl (lv_at hl 0 rfl) ?_
        refine lv_iconst (v := (5 : Int32)) hx hb dX3_seatAll_115 (by decide) ?_
        refine lv_iadd hx hb dX3_seatAll_116 ?_
        refine rd_i (runVN (As := [.int ((x4 * (6 : Int32)) + (5 : Int32))]) (rest := [.int x4, .ref (a 9)]) X cq_X6_figure lk_X3_60 (c_X6_figure l D cI cJ cZ a w22 tx_length tx_bytes ((x4 * (6 : Int32)) + (5 : Int32)) _ rfl h1 h2) rfl rfl ⟨Nat.le_of_ble_eq_true rfl, Nat.le_of_ble_eq_true rfl⟩ hP h1 rfl rfl hl.1 rfl (Nat.le_of_ble_eq_true rfl) dX3_seatAll_117 ⟨Nat.le_of_ble_eq_true rfl, Nat.le_of_ble_eq_true rfl⟩) ?_
        obtain ⟨u23, e_u23⟩ : ∃ q, q = gput x10 12 x4 (FX6_figure tx_bytes ((x4 * (6 : Int32)) + (5 : Int32))) := ⟨_, rfl⟩
        replace hF := nm_at hF e_u23
        refine wr_v (runSN (As := [.ref (a 9), .int x4, .int (FX6_figure tx_bytes ((x4 * (6 : Int32)) + (5 : Int32)))]) (rest := []) X cq_X8_put lk_X3_56 (t_X8_put l D cI cJ cZ a w22 A 9 x10 12 x4 (FX6_figure tx_bytes ((x4 * (6 : Int32)) + (5 : Int32))) u23 e_u23.symm h9 hD (by decide)) rfl rfl ⟨Nat.le_of_ble_eq_true rfl, Nat.le_of_ble_eq_true rfl⟩ hP rfl hl.1 rfl (Nat.le_of_ble_eq_true rfl) dX3_seatAll_120 ⟨Nat.le_of_ble_eq_true rfl, Nat.le_of_ble_eq_true rfl⟩) hS (fun w24 H locs hP hD hk hB hS => ?_)
        have h9 : w24[9]? = some (a 9, .inl (cI, 12, .inl u23)) := hB
        have h1 := (hk 1 (by simp only [List.mem_cons, List.not_mem_nil, or_false, not_or]; omega)).trans h1
        have h3 := (hk 3 (by simp only [List.mem_cons, List.not_mem_nil, or_false, not_or]; omega)).trans h3
        have h10 := (hk 10 (by simp only [List.mem_cons, List.not_mem_nil, or_false, not_or]; omega)).trans h10
        have h12 := (hk 12 (by simp only [List.mem_cons, List.not_mem_nil, or_false, not_or]; omega)).trans h12
        have h2 := (hk 2 (by simp only [List.mem_cons, List.not_mem_nil, or_false, not_or]; omega)).trans h2
        have h4 := (hk 4 (by simp only [List.mem_cons, List.not_mem_nil, or_false, not_or]; omega)).trans h4
        have h5 := (hk 5 (by simp only [List.mem_cons, List.not_mem_nil, or_false, not_or]; omega)).trans h5
        have h6 := (hk 6 (by simp only [List.mem_cons, List.not_mem_nil, or_false, not_or]; omega)).trans h6
        have h7 := (hk 7 (by simp only [List.mem_cons, List.not_mem_nil, or_false, not_or]; omega)).trans h7
        have h8 := (hk 8 (by simp only [List.mem_cons, List.not_mem_nil, or_false, not_or]; omega)).trans h8
        have h11 := (hk 11 (by simp only [List.mem_cons, List.not_mem_nil, or_false, not_or]; omega)).trans h11
        replace hs := st_tr hk (fun j hj => by simp only [List.mem_cons, List.not_mem_nil, or_false] at hj ⊢; omega) hs
        refine lv_aload_n hx hb dX3_seatAll_123 rfl (lv_at hl 2 rfl) ?_
        refine gf_X3_33 hx hb hts hown hK hP h3 dX3_seatAll_124 ?_
        refine gf_X3_63 hx hb hts hown hK hN hP h10 dX3_seatAll_127 ?_
        refine lv_iload_n hx hb dX3_seatAll_130 rfl (lv_at hl 1 rfl) ?_
        refine lv_aload_n hx hb dX3_seatAll_131 rfl (lv_at hl 3 rfl) ?_
        refine lv_iload_n hx hb dX3_seatAll_132 rfl (lv_at hl 0 rfl) ?_
        refine lv_iconst (v := (5 : Int32)) hx hb dX3_seatAll_133 (by decide) ?_
        refine lv_iadd hx hb dX3_seatAll_134 ?_
        refine rd_i (runVN (As := [.int ((x4 * (6 : Int32)) + (5 : Int32))]) (rest := [.int x4, .ref (a 11)]) X cq_X6_figure lk_X3_60 (c_X6_figure l D cI cJ cZ a w24 tx_length tx_bytes ((x4 * (6 : Int32)) + (5 : Int32)) _ rfl h1 h2) rfl rfl ⟨Nat.le_of_ble_eq_true rfl, Nat.le_of_ble_eq_true rfl⟩ hP h1 rfl rfl hl.1 rfl (Nat.le_of_ble_eq_true rfl) dX3_seatAll_135 ⟨Nat.le_of_ble_eq_true rfl, Nat.le_of_ble_eq_true rfl⟩) ?_
        obtain ⟨u25, e_u25⟩ : ∃ q, q = gput x11 12 x4 (FX6_figure tx_bytes ((x4 * (6 : Int32)) + (5 : Int32))) := ⟨_, rfl⟩
        replace hF := nm_at hF e_u25
        refine wr_v (runSN (As := [.ref (a 11), .int x4, .int (FX6_figure tx_bytes ((x4 * (6 : Int32)) + (5 : Int32)))]) (rest := []) X cq_X8_put lk_X3_56 (t_X8_put l D cI cJ cZ a w24 A 11 x11 12 x4 (FX6_figure tx_bytes ((x4 * (6 : Int32)) + (5 : Int32))) u25 e_u25.symm h11 hD (by decide)) rfl rfl ⟨Nat.le_of_ble_eq_true rfl, Nat.le_of_ble_eq_true rfl⟩ hP rfl hl.1 rfl (Nat.le_of_ble_eq_true rfl) dX3_seatAll_138 ⟨Nat.le_of_ble_eq_true rfl, Nat.le_of_ble_eq_true rfl⟩) hS (fun w26 H locs hP hD hk hB hS => ?_)
        have h11 : w26[11]? = some (a 11, .inl (cI, 12, .inl u25)) := hB
        have h1 := (hk 1 (by simp only [List.mem_cons, List.not_mem_nil, or_false, not_or]; omega)).trans h1
        have h3 := (hk 3 (by simp only [List.mem_cons, List.not_mem_nil, or_false, not_or]; omega)).trans h3
        have h10 := (hk 10 (by simp only [List.mem_cons, List.not_mem_nil, or_false, not_or]; omega)).trans h10
        have h12 := (hk 12 (by simp only [List.mem_cons, List.not_mem_nil, or_false, not_or]; omega)).trans h12
        have h2 := (hk 2 (by simp only [List.mem_cons, List.not_mem_nil, or_false, not_or]; omega)).trans h2
        have h4 := (hk 4 (by simp only [List.mem_cons, List.not_mem_nil, or_false, not_or]; omega)).trans h4
        have h5 := (hk 5 (by simp only [List.mem_cons, List.not_mem_nil, or_false, not_or]; omega)).trans h5
        have h6 := (hk 6 (by simp only [List.mem_cons, List.not_mem_nil, or_false, not_or]; omega)).trans h6
        have h7 := (hk 7 (by simp only [List.mem_cons, List.not_mem_nil, or_false, not_or]; omega)).trans h7
        have h8 := (hk 8 (by simp only [List.mem_cons, List.not_mem_nil, or_false, not_or]; omega)).trans h8
        have h9 := (hk 9 (by simp only [List.mem_cons, List.not_mem_nil, or_false, not_or]; omega)).trans h9
        replace hs := st_tr hk (fun j hj => by simp only [List.mem_cons, List.not_mem_nil, or_false] at hj ⊢; omega) hs
        refine lv_iinc (v := x4 + (1 : Int32)) (lv' := [(2, .int (x4 + (1 : Int32))), (3, .int (x4 * (6 : Int32))), (0, .ref (a 3)), (1, .ref (a 1))]) hx hb dX3_seatAll_141 hl (k := 1) rfl rfl (by decide) rfl (fun ls hl => ?_)
        refine lv_goto (tgt := 20) hx hb dX3_seatAll_144 (by decide) ?_
        obtain rfl := Option.some.inj hF
        exact ih _ _ _ _ _ _ _ _ _ hw _ _ _ hP hD hS hs h3 h12 h10 h4 h5 h6 h7 h8 h9 h11 ls (lv_sub hl [0, 2, 3] rfl) hE
  obtain ⟨o27, ho27, hF⟩ := bd_some hF
  refine hL20 fu (0 : Int32) ro_letters ro_rows ro_columns ro_tenths ro_needs ro_toldDares le_dares o27 ho27 _ _ _ hP hD hS hs h3 h12 h10 h4 h5 h6 h7 h8 h9 h11 ls (lv_sub hl [0, 1, 2] rfl) ?_
  intro _ q_o27 w H locs hP hD hS hs h3 h12 h10 h4 h5 h6 h7 h8 h9 h11 ls hl
  subst q_o27
  have h1 := (hs 1 (by simp only [List.mem_cons, List.not_mem_nil, or_false, not_or]; omega)).trans z1
  have h2 := (hs 2 (by simp only [List.mem_cons, List.not_mem_nil, or_false, not_or]; omega)).trans z2
  obtain rfl := Option.some.inj hF
  rw [hQ]
  exact rw_v X hS hP hD hs ⟨h3, h12, h10, h4, h5, h6, h7, h8, h9, h11⟩ dX3_seatAll_147
def FX8_room (tx_length : Int32) (tx_bytes : Nat → Int32) (ro_pupils : Int32) (ro_letters : Nat → Int32) (ro_rows : Nat → Int32) (ro_columns : Nat → Int32) (ro_tenths : Nat → Int32) (ro_needs : Nat → Int32) (ro_toldDares : Nat → Int32) (le_seed : Int64) (le_questions : Int32) (le_rightOnes : Int32) (le_wrongOnes : Int32) (le_dares : Nat → Int32) (le_times : Nat → Int32) (s1_isKept : Int32) (s2_isKept : Int32) : Option (Int32 × Int32 × (Nat → Int32) × Int64 × Int32 × Int32 × Int32 × (Nat → Int32) × (Nat → Int32) × (Nat → Int32) × (Nat → Int32) × (Nat → Int32) × (Nat → Int32) × (Nat → Int32) × Int32 × Int32) :=
  (FX6_firstFault tx_length tx_bytes).bind fun x1 => if x1 = (-9 : Int32) then ((FX3_seatAll tx_length le_times tx_bytes ro_letters ro_rows ro_columns ro_tenths ro_needs ro_toldDares le_dares).bind fun u3 => some (u3.1, u3.1, u3.2.1, u3.2.2.1, u3.2.2.2.1, u3.2.2.2.2.1, u3.2.2.2.2.2.1, u3.2.2.2.2.2.2.1, u3.2.2.2.2.2.2.2.1, u3.2.2.2.2.2.2.2.2.1, u3.2.2.2.2.2.2.2.2.2.1, u3.2.2.2.2.2.2.2.2.2.2.1, u3.2.2.2.2.2.2.2.2.2.2.2.1, u3.2.2.2.2.2.2.2.2.2.2.2.2, (0 : Int32), (0 : Int32))) else (some ((-3 : Int32), ro_pupils, le_times, le_seed, le_questions, le_rightOnes, le_wrongOnes, ro_letters, ro_rows, ro_columns, ro_tenths, ro_needs, ro_toldDares, le_dares, s1_isKept, s2_isKept))
def rm_X8_room : Room := { frames := 5, cells := 0, slots := 0, locals := 107 }
set_option maxHeartbeats 4000000 in
set_option maxRecDepth 100000 in
theorem c_X8_room (l : Launch) (D : va_G) (cI cJ cZ : ClassId) (a : Nat → Nat) (ws0 : va_W) (A : Nat → Prop)  (tx_length : Int32) (tx_bytes : Nat → Int32) (ro_pupils : Int32) (ro_mood : Int32) (ro_letters : Nat → Int32) (ro_rows : Nat → Int32) (ro_columns : Nat → Int32) (ro_tenths : Nat → Int32) (ro_needs : Nat → Int32) (ro_toldDares : Nat → Int32) (le_seed : Int64) (le_questions : Int32) (le_rightOnes : Int32) (le_wrongOnes : Int32) (le_isKept : Int32) (le_dares : Nat → Int32) (le_times : Nat → Int32) (s1_seed : Int64) (s1_questions : Int32) (s1_rightOnes : Int32) (s1_wrongOnes : Int32) (s1_isKept : Int32) (s2_seed : Int64) (s2_questions : Int32) (s2_rightOnes : Int32) (s2_wrongOnes : Int32) (s2_isKept : Int32)  (u : Int32 × Int32 × (Nat → Int32) × Int64 × Int32 × Int32 × Int32 × (Nat → Int32) × (Nat → Int32) × (Nat → Int32) × (Nat → Int32) × (Nat → Int32) × (Nat → Int32) × (Nat → Int32) × Int32 × Int32) (hF : FX8_room tx_length tx_bytes ro_pupils ro_letters ro_rows ro_columns ro_tenths ro_needs ro_toldDares le_seed le_questions le_rightOnes le_wrongOnes le_dares le_times s1_isKept s2_isKept = some u) (z0 : ws0[0]? = some (a 0, .inr (8, [.ref (a 1), .ref (a 3), .ref (a 13), .ref (a 16), .ref (a 22), .ref (a 25), .ref (a 28), .ref (a 33)]))) (z1 : ws0[1]? = some (a 1, .inr (6, [.ref (a 2), .int tx_length]))) (z2 : ws0[2]? = some (a 2, .inl (cI, 72, .inl tx_bytes))) (z3 : ws0[3]? = some (a 3, .inr (3, [.ref (a 4), .ref (a 5), .ref (a 6), .ref (a 7), .ref (a 8), .ref (a 9), .ref (a 10), .int ro_pupils, .int ro_mood]))) (z4 : ws0[4]? = some (a 4, .inl (cI, 12, .inl ro_letters))) (z5 : ws0[5]? = some (a 5, .inl (cI, 12, .inl ro_rows))) (z6 : ws0[6]? = some (a 6, .inl (cI, 12, .inl ro_columns))) (z7 : ws0[7]? = some (a 7, .inl (cI, 12, .inl ro_tenths))) (z8 : ws0[8]? = some (a 8, .inl (cI, 12, .inl ro_needs))) (z9 : ws0[9]? = some (a 9, .inl (cI, 12, .inl ro_toldDares))) (z10 : ws0[10]? = some (a 10, .inr (2, [.ref (a 11), .ref (a 12), .long le_seed, .int le_questions, .int le_rightOnes, .int le_wrongOnes, .int le_isKept]))) (z11 : ws0[11]? = some (a 11, .inl (cI, 12, .inl le_dares))) (z12 : ws0[12]? = some (a 12, .inl (cI, 12, .inl le_times))) (z22 : ws0[22]? = some (a 22, .inr (2, [.ref (a 23), .ref (a 24), .long s1_seed, .int s1_questions, .int s1_rightOnes, .int s1_wrongOnes, .int s1_isKept]))) (z25 : ws0[25]? = some (a 25, .inr (2, [.ref (a 26), .ref (a 27), .long s2_seed, .int s2_questions, .int s2_rightOnes, .int s2_wrongOnes, .int s2_isKept]))) (hD : va_D A ws0) : Met l yX8_room (wq yX8_room cX8_room 1 (some .int)) rm_X8_room (Pq [.ref (a 0)] D cI cJ cZ ws0) (Qw D A ws0 [3, 12, 10, 4, 5, 6, 7, 8, 9, 11, 22, 25] (some (.int u.1)) (fun w => w[3]? = some (a 3, .inr (3, [.ref (a 4), .ref (a 5), .ref (a 6), .ref (a 7), .ref (a 8), .ref (a 9), .ref (a 10), .int u.2.1, .int ro_mood])) ∧ w[12]? = some (a 12, .inl (cI, 12, .inl u.2.2.1)) ∧ w[10]? = some (a 10, .inr (2, [.ref (a 11), .ref (a 12), .long u.2.2.2.1, .int u.2.2.2.2.1, .int u.2.2.2.2.2.1, .int u.2.2.2.2.2.2.1, .int le_isKept])) ∧ w[4]? = some (a 4, .inl (cI, 12, .inl u.2.2.2.2.2.2.2.1)) ∧ w[5]? = some (a 5, .inl (cI, 12, .inl u.2.2.2.2.2.2.2.2.1)) ∧ w[6]? = some (a 6, .inl (cI, 12, .inl u.2.2.2.2.2.2.2.2.2.1)) ∧ w[7]? = some (a 7, .inl (cI, 12, .inl u.2.2.2.2.2.2.2.2.2.2.1)) ∧ w[8]? = some (a 8, .inl (cI, 12, .inl u.2.2.2.2.2.2.2.2.2.2.2.1)) ∧ w[9]? = some (a 9, .inl (cI, 12, .inl u.2.2.2.2.2.2.2.2.2.2.2.2.1)) ∧ w[11]? = some (a 11, .inl (cI, 12, .inl u.2.2.2.2.2.2.2.2.2.2.2.2.2.1)) ∧ w[22]? = some (a 22, .inr (2, [.ref (a 23), .ref (a 24), .long s1_seed, .int s1_questions, .int s1_rightOnes, .int s1_wrongOnes, .int u.2.2.2.2.2.2.2.2.2.2.2.2.2.2.1])) ∧ w[25]? = some (a 25, .inr (2, [.ref (a 26), .ref (a 27), .long s2_seed, .int s2_questions, .int s2_rightOnes, .int s2_wrongOnes, .int u.2.2.2.2.2.2.2.2.2.2.2.2.2.2.2])))) 0 0 A := by
  refine mq_of (by decide) (Nat.le_of_ble_eq_true rfl) (fun p e s m args below meth c ls Q hQ X _ hP hl => ?_)
  obtain ⟨hx, hb, hr, hml, hown, hts, hlk, hK, hN⟩ := id X
  have hown : s.vm.findClass RX8 = some m.cls := hown
  have hl : lv_has ls 1 [(0, .ref (a 0))] := hl
  have hS : va_S A s.heap s.heap [] := va_S.rf
  have hs : ∀ j : Nat, j ∉ [3, 12, 10, 4, 5, 6, 7, 8, 9, 11, 22, 25] → ws0[j]? = ws0[j]? := fun _ _ => rfl
  have h0 := z0
  have h1 := z1
  have h2 := z2
  have h3 := z3
  have h4 := z4
  have h5 := z5
  have h6 := z6
  have h7 := z7
  have h8 := z8
  have h9 := z9
  have h10 := z10
  have h11 := z11
  have h12 := z12
  have h22 := z22
  have h25 := z25
  unfold FX8_room at hF
  refine lv_aload_n hx hb dX8_room_0 rfl (lv_at hl 0 rfl) ?_
  refine gf_X8_10 hx hb hts hown hK hP h0 dX8_room_1 ?_
  obtain ⟨x1, hx1, hF⟩ := bd_some hF
  refine rd_i (runVN (As := []) (rest := []) X cq_X6_firstFault lk_X8_73 (c_X6_firstFault l D cI cJ cZ a ws0 tx_length tx_bytes x1 hx1 h1 h2) rfl rfl ⟨Nat.le_of_ble_eq_true rfl, Nat.le_of_ble_eq_true rfl⟩ hP h1 rfl rfl hl.1 rfl (Nat.le_of_ble_eq_true rfl) dX8_room_4 ⟨Nat.le_of_ble_eq_true rfl, Nat.le_of_ble_eq_true rfl⟩) ?_
  refine lv_bipush (v := (-9 : Int32)) hx hb dX8_room_7 (by decide) ?_
  refine lv_icmp_eq (tgt := 15) hx hb dX8_room_9 (by decide) (fun c2 => ?_) (fun c2 => ?_)
  · replace hF := (if_pos c2).symm.trans hF
    refine lv_aload_n hx hb dX8_room_15 rfl (lv_at hl 0 rfl) ?_
    refine gf_X8_19 hx hb hts hown hK hP h0 dX8_room_16 ?_
    refine lv_aload_n hx hb dX8_room_19 rfl (lv_at hl 0 rfl) ?_
    refine gf_X8_10 hx hb hts hown hK hP h0 dX8_room_20 ?_
    obtain ⟨u3, hu3, hF⟩ := bd_some hF
    refine wr_v (runVN (As := [.ref (a 1)]) (rest := []) X cq_X3_seatAll lk_X8_76 (c_X3_seatAll l D cI cJ cZ a ws0 A tx_length ro_pupils ro_mood le_seed le_questions le_rightOnes le_wrongOnes le_isKept le_times tx_bytes ro_letters ro_rows ro_columns ro_tenths ro_needs ro_toldDares le_dares u3 hu3 h1 h2 h3 h4 h5 h6 h7 h8 h9 h10 h11 h12 hD) rfl rfl ⟨Nat.le_of_ble_eq_true rfl, Nat.le_of_ble_eq_true rfl⟩ hP h3 rfl rfl hl.1 rfl (Nat.le_of_ble_eq_true rfl) dX8_room_23 ⟨Nat.le_of_ble_eq_true rfl, Nat.le_of_ble_eq_true rfl⟩) hS (fun w4 H locs hP hD hk hB hS => ?_)
    obtain ⟨hB0, hB1, hB2, hB3, hB4, hB5, hB6, hB7, hB8, hB9⟩ := hB
    have h3 : w4[3]? = some (a 3, .inr (3, [.ref (a 4), .ref (a 5), .ref (a 6), .ref (a 7), .ref (a 8), .ref (a 9), .ref (a 10), .int u3.1, .int ro_mood])) := hB0
    have h12 : w4[12]? = some (a 12, .inl (cI, 12, .inl u3.2.1)) := hB1
    have h10 : w4[10]? = some (a 10, .inr (2, [.ref (a 11), .ref (a 12), .long u3.2.2.1, .int u3.2.2.2.1, .int u3.2.2.2.2.1, .int u3.2.2.2.2.2.1, .int le_isKept])) := hB2
    have h4 : w4[4]? = some (a 4, .inl (cI, 12, .inl u3.2.2.2.2.2.2.1)) := hB3
    have h5 : w4[5]? = some (a 5, .inl (cI, 12, .inl u3.2.2.2.2.2.2.2.1)) := hB4
    have h6 : w4[6]? = some (a 6, .inl (cI, 12, .inl u3.2.2.2.2.2.2.2.2.1)) := hB5
    have h7 : w4[7]? = some (a 7, .inl (cI, 12, .inl u3.2.2.2.2.2.2.2.2.2.1)) := hB6
    have h8 : w4[8]? = some (a 8, .inl (cI, 12, .inl u3.2.2.2.2.2.2.2.2.2.2.1)) := hB7
    have h9 : w4[9]? = some (a 9, .inl (cI, 12, .inl u3.2.2.2.2.2.2.2.2.2.2.2.1)) := hB8
    have h11 : w4[11]? = some (a 11, .inl (cI, 12, .inl u3.2.2.2.2.2.2.2.2.2.2.2.2)) := hB9
    have h0 := (hk 0 (by simp only [List.mem_cons, List.not_mem_nil, or_false, not_or]; omega)).trans h0
    have h1 := (hk 1 (by simp only [List.mem_cons, List.not_mem_nil, or_false, not_or]; omega)).trans h1
    have h2 := (hk 2 (by simp only [List.mem_cons, List.not_mem_nil, or_false, not_or]; omega)).trans h2
    have h22 := (hk 22 (by simp only [List.mem_cons, List.not_mem_nil, or_false, not_or]; omega)).trans h22
    have h25 := (hk 25 (by simp only [List.mem_cons, List.not_mem_nil, or_false, not_or]; omega)).trans h25
    replace hs := st_tr hk (fun j hj => by simp only [List.mem_cons, List.not_mem_nil, or_false] at hj ⊢; omega) hs
    refine lv_aload_n hx hb dX8_room_26 rfl (lv_at hl 0 rfl) ?_
    refine gf_X8_40 hx hb hts hown hK hP h0 dX8_room_27 ?_
    refine lv_iconst (v := (0 : Int32)) hx hb dX8_room_30 (by decide) ?_
    refine pf_X8_80 hx hb hts hown hK hN hP hD hS h22 (by decide) (by decide) dX8_room_31 (fun w5 H locs hP hD hk hc hS => ?_)
    have h22 : w5[22]? = some (a 22, .inr (2, [.ref (a 23), .ref (a 24), .long s1_seed, .int s1_questions, .int s1_rightOnes, .int s1_wrongOnes, .int (0 : Int32)])) := hc
    have h0 := (hk 0 (by omega)).trans h0
    have h1 := (hk 1 (by omega)).trans h1
    have h2 := (hk 2 (by omega)).trans h2
    have h3 := (hk 3 (by omega)).trans h3
    have h4 := (hk 4 (by omega)).trans h4
    have h5 := (hk 5 (by omega)).trans h5
    have h6 := (hk 6 (by omega)).trans h6
    have h7 := (hk 7 (by omega)).trans h7
    have h8 := (hk 8 (by omega)).trans h8
    have h9 := (hk 9 (by omega)).trans h9
    have h10 := (hk 10 (by omega)).trans h10
    have h11 := (hk 11 (by omega)).trans h11
    have h12 := (hk 12 (by omega)).trans h12
    have h25 := (hk 25 (by omega)).trans h25
    replace hs := sm_k hk (by simp) hs
    refine lv_aload_n hx hb dX8_room_34 rfl (lv_at hl 0 rfl) ?_
    refine gf_X8_44 hx hb hts hown hK hP h0 dX8_room_35 ?_
    refine lv_iconst (v := (0 : Int32)) hx hb dX8_room_38 (by decide) ?_
    refine pf_X8_80 hx hb hts hown hK hN hP hD hS h25 (by decide) (by decide) dX8_room_39 (fun w6 H locs hP hD hk hc hS => ?_)
    have h25 : w6[25]? = some (a 25, .inr (2, [.ref (a 26), .ref (a 27), .long s2_seed, .int s2_questions, .int s2_rightOnes, .int s2_wrongOnes, .int (0 : Int32)])) := hc
    have h0 := (hk 0 (by omega)).trans h0
    have h1 := (hk 1 (by omega)).trans h1
    have h2 := (hk 2 (by omega)).trans h2
    have h3 := (hk 3 (by omega)).trans h3
    have h4 := (hk 4 (by omega)).trans h4
    have h5 := (hk 5 (by omega)).trans h5
    have h6 := (hk 6 (by omega)).trans h6
    have h7 := (hk 7 (by omega)).trans h7
    have h8 := (hk 8 (by omega)).trans h8
    have h9 := (hk 9 (by omega)).trans h9
    have h10 := (hk 10 (by omega)).trans h10
    have h11 := (hk 11 (by omega)).trans h11
    have h12 := (hk 12 (by omega)).trans h12
    have h22 := (hk 22 (by omega)).trans h22
    replace hs := sm_k hk (by simp) hs
    refine lv_aload_n hx hb dX8_room_42 rfl (lv_at hl 0 rfl) ?_
    refine gf_X8_19 hx hb hts hown hK hP h0 dX8_room_43 ?_
    refine gf_X8_84 hx hb hts hown hK hN hP h3 dX8_room_46 ?_
    obtain rfl := Option.some.inj hF
    rw [hQ]
    exact rw_i X hS hP hD hs ⟨h3, h12, h10, h4, h5, h6, h7, h8, h9, h11, h22, h25⟩ dX8_room_49
  · replace hF := (if_neg c2).symm.trans hF
    refine lv_bipush (v := (-3 : Int32)) hx hb dX8_room_12 (by decide) ?_
    obtain rfl := Option.some.inj hF
    rw [hQ]
    exact rw_i X hS hP hD hs ⟨h3, h12, h10, h4, h5, h6, h7, h8, h9, h11, h22, h25⟩ dX8_room_14
def FX3_lacks (ro_pupils : Int32) (p1 : Int32) : Bool :=
  FX8_outside p1 (0 : Int32) (ro_pupils - (1 : Int32))
def rm_X3_lacks : Room := { frames := 1, cells := 0, slots := 0, locals := 22 }
set_option maxHeartbeats 4000000 in
set_option maxRecDepth 100000 in
theorem c_X3_lacks (l : Launch) (D : va_G) (cI cJ cZ : ClassId) (a : Nat → Nat) (ws0 : va_W)  (ro_pupils : Int32) (ro_mood : Int32) (p1 : Int32) (u : Bool) (hF : FX3_lacks ro_pupils p1 = u) (h3 : ws0[3]? = some (a 3, .inr (3, [.ref (a 4), .ref (a 5), .ref (a 6), .ref (a 7), .ref (a 8), .ref (a 9), .ref (a 10), .int ro_pupils, .int ro_mood]))) : Met l yX3_lacks (wq yX3_lacks cX3_lacks 2 (some .boolean)) rm_X3_lacks (Pq [.ref (a 3), .int p1] D cI cJ cZ ws0) (Qq (some (.int (bi u)))) 0 0 (fun _ => False) := by
  refine mq_of (by decide) (Nat.le_of_ble_eq_true rfl) (fun p e s m args below meth c ls Q hQ X _ hP hl => ?_)
  obtain ⟨hx, hb, hr, hml, hown, hts, hlk, hK, hN⟩ := id X
  have hown : s.vm.findClass RX3 = some m.cls := hown
  have hl : lv_has ls 2 [(0, .ref (a 3)), (1, .int p1)] := hl
  unfold FX3_lacks at hF
  refine lv_iload_n hx hb dX3_lacks_0 rfl (lv_at hl 1 rfl) ?_
  refine lv_iconst (v := (0 : Int32)) hx hb dX3_lacks_1 (by decide) ?_
  refine lv_aload_n hx hb dX3_lacks_2 rfl (lv_at hl 0 rfl) ?_
  refine gf_X3_46 hx hb hts hown hK hP h3 dX3_lacks_3 ?_
  refine lv_iconst (v := (1 : Int32)) hx hb dX3_lacks_6 (by decide) ?_
  refine lv_isub hx hb dX3_lacks_7 ?_
  refine rd_i (runSN (As := [.int p1, .int (0 : Int32), .int (ro_pupils - (1 : Int32))]) (rest := []) X cq_X8_outside lk_X3_66 (c_X8_outside l D cI cJ cZ a ws0 p1 (0 : Int32) (ro_pupils - (1 : Int32)) _ rfl ) rfl rfl ⟨Nat.le_of_ble_eq_true rfl, Nat.le_of_ble_eq_true rfl⟩ hP rfl hl.1 rfl (Nat.le_of_ble_eq_true rfl) dX3_lacks_8 ⟨Nat.le_of_ble_eq_true rfl, Nat.le_of_ble_eq_true rfl⟩) ?_
  subst hF
  rw [hQ]
  exact rt_z (b := FX8_outside p1 (0 : Int32) (ro_pupils - (1 : Int32))) X dX3_lacks_11
def FX3_isF (ro_letters : Nat → Int32) (p1 : Int32) : Bool :=
  if (gat ro_letters 12 p1) = (70 : Int32) then true else false
def rm_X3_isF : Room := { frames := 1, cells := 0, slots := 0, locals := 21 }
set_option maxHeartbeats 4000000 in
set_option maxRecDepth 100000 in
theorem c_X3_isF (l : Launch) (D : va_G) (cI cJ cZ : ClassId) (a : Nat → Nat) (ws0 : va_W)  (ro_pupils : Int32) (ro_mood : Int32) (ro_letters : Nat → Int32) (p1 : Int32) (u : Bool) (hF : FX3_isF ro_letters p1 = u) (h3 : ws0[3]? = some (a 3, .inr (3, [.ref (a 4), .ref (a 5), .ref (a 6), .ref (a 7), .ref (a 8), .ref (a 9), .ref (a 10), .int ro_pupils, .int ro_mood]))) (h4 : ws0[4]? = some (a 4, .inl (cI, 12, .inl ro_letters))) : Met l yX3_isF (wq yX3_isF cX3_isF 2 (some .boolean)) rm_X3_isF (Pq [.ref (a 3), .int p1] D cI cJ cZ ws0) (Qq (some (.int (bi u)))) 0 0 (fun _ => False) := by
  refine mq_of (by decide) (Nat.le_of_ble_eq_true rfl) (fun p e s m args below meth c ls Q hQ X _ hP hl => ?_)
  obtain ⟨hx, hb, hr, hml, hown, hts, hlk, hK, hN⟩ := id X
  have hown : s.vm.findClass RX3 = some m.cls := hown
  have hl : lv_has ls 2 [(0, .ref (a 3)), (1, .int p1)] := hl
  unfold FX3_isF at hF
  refine lv_aload_n hx hb dX3_isF_0 rfl (lv_at hl 0 rfl) ?_
  refine gf_X3_9 hx hb hts hown hK hP h3 dX3_isF_1 ?_
  refine lv_iload_n hx hb dX3_isF_4 rfl (lv_at hl 1 rfl) ?_
  refine rd_i (runSN (As := [.ref (a 4), .int p1]) (rest := []) X cq_X8_at lk_X3_74 (t_X8_at l D cI cJ cZ a ws0 4 ro_letters 12 p1 _ rfl h4 (by decide)) rfl rfl ⟨Nat.le_of_ble_eq_true rfl, Nat.le_of_ble_eq_true rfl⟩ hP rfl hl.1 rfl (Nat.le_of_ble_eq_true rfl) dX3_isF_5 ⟨Nat.le_of_ble_eq_true rfl, Nat.le_of_ble_eq_true rfl⟩) ?_
  refine lv_bipush (v := (70 : Int32)) hx hb dX3_isF_8 (by decide) ?_
  refine lv_icmp_ne (tgt := 17) hx hb dX3_isF_10 (by decide) (fun c1 => ?_) (fun c1 => ?_)
  · replace hF := (if_neg c1).symm.trans hF
    refine lv_iconst (v := (0 : Int32)) hx hb dX3_isF_17 (by decide) ?_
    subst hF
    rw [hQ]
    exact rt_z (b := false) X dX3_isF_18
  · replace hF := (if_pos c1).symm.trans hF
    refine lv_iconst (v := (1 : Int32)) hx hb dX3_isF_13 (by decide) ?_
    refine lv_goto (tgt := 18) hx hb dX3_isF_14 (by decide) ?_
    subst hF
    rw [hQ]
    exact rt_z (b := true) X dX3_isF_18
def FX3_tell (ro_rows : Nat → Int32) (ro_columns : Nat → Int32) (ro_tenths : Nat → Int32) (ro_needs : Nat → Int32) (ro_toldDares : Nat → Int32) (ro_letters : Nat → Int32) (le_dares : Nat → Int32) (le_times : Nat → Int32) (p1 : Int32) (p2 : Int32) : Int32 :=
  if p2 = (0 : Int32) then (gat ro_rows 12 p1) else if p2 = (1 : Int32) then (gat ro_columns 12 p1) else if p2 = (2 : Int32) then (gat ro_tenths 12 p1) else if p2 = (3 : Int32) then (gat ro_needs 12 p1) else if p2 = (4 : Int32) then (gat ro_toldDares 12 p1) else if p2 = (5 : Int32) then (if (FX3_isF ro_letters p1) = true then ((1 : Int32)) else ((0 : Int32))) else if p2 = (6 : Int32) then (gat le_dares 12 p1) else gat le_times 12 p1
def rm_X3_tell : Room := { frames := 2, cells := 0, slots := 0, locals := 42 }
set_option maxHeartbeats 4000000 in
set_option maxRecDepth 100000 in
theorem c_X3_tell (l : Launch) (D : va_G) (cI cJ cZ : ClassId) (a : Nat → Nat) (ws0 : va_W)  (ro_pupils : Int32) (ro_mood : Int32) (ro_rows : Nat → Int32) (ro_columns : Nat → Int32) (ro_tenths : Nat → Int32) (ro_needs : Nat → Int32) (ro_toldDares : Nat → Int32) (ro_letters : Nat → Int32) (le_seed : Int64) (le_questions : Int32) (le_rightOnes : Int32) (le_wrongOnes : Int32) (le_isKept : Int32) (le_dares : Nat → Int32) (le_times : Nat → Int32) (p1 : Int32) (p2 : Int32) (u : Int32) (hF : FX3_tell ro_rows ro_columns ro_tenths ro_needs ro_toldDares ro_letters le_dares le_times p1 p2 = u) (h3 : ws0[3]? = some (a 3, .inr (3, [.ref (a 4), .ref (a 5), .ref (a 6), .ref (a 7), .ref (a 8), .ref (a 9), .ref (a 10), .int ro_pupils, .int ro_mood]))) (h4 : ws0[4]? = some (a 4, .inl (cI, 12, .inl ro_letters))) (h5 : ws0[5]? = some (a 5, .inl (cI, 12, .inl ro_rows))) (h6 : ws0[6]? = some (a 6, .inl (cI, 12, .inl ro_columns))) (h7 : ws0[7]? = some (a 7, .inl (cI, 12, .inl ro_tenths))) (h8 : ws0[8]? = some (a 8, .inl (cI, 12, .inl ro_needs))) (h9 : ws0[9]? = some (a 9, .inl (cI, 12, .inl ro_toldDares))) (h10 : ws0[10]? = some (a 10, .inr (2, [.ref (a 11), .ref (a 12), .long le_seed, .int le_questions, .int le_rightOnes, .int le_wrongOnes, .int le_isKept]))) (h11 : ws0[11]? = some (a 11, .inl (cI, 12, .inl le_dares))) (h12 : ws0[12]? = some (a 12, .inl (cI, 12, .inl le_times))) : Met l yX3_tell (wq yX3_tell cX3_tell 3 (some .int)) rm_X3_tell (Pq [.ref (a 3), .int p1, .int p2] D cI cJ cZ ws0) (Qq (some (.int u))) 0 0 (fun _ => False) := by
  refine mq_of (by decide) (Nat.le_of_ble_eq_true rfl) (fun p e s m args below meth c ls Q hQ X _ hP hl => ?_)
  obtain ⟨hx, hb, hr, hml, hown, hts, hlk, hK, hN⟩ := id X
  have hown : s.vm.findClass RX3 = some m.cls := hown
  have hl : lv_has ls 3 [(0, .ref (a 3)), (1, .int p1), (2, .int p2)] := hl
  unfold FX3_tell at hF
  refine lv_iload_n hx hb dX3_tell_0 rfl (lv_at hl 2 rfl) ?_
  by_cases c1 : p2 = (0 : Int32)
  · replace hF := (if_pos c1).symm.trans hF
    refine lv_tableIn (tgt := 44) (off := 43) hx hb dX3_tell_1 (by rw [c1]; decide) (by rw [c1]; decide) (by rw [c1]; rfl) (by decide) ?_
    refine lv_aload_n hx hb dX3_tell_44 rfl (lv_at hl 0 rfl) ?_
    refine gf_X3_15 hx hb hts hown hK hP h3 dX3_tell_45 ?_
    refine lv_iload_n hx hb dX3_tell_48 rfl (lv_at hl 1 rfl) ?_
    refine rd_i (runSN (As := [.ref (a 5), .int p1]) (rest := []) X cq_X8_at lk_X3_74 (t_X8_at l D cI cJ cZ a ws0 5 ro_rows 12 p1 _ rfl h5 (by decide)) rfl rfl ⟨Nat.le_of_ble_eq_true rfl, Nat.le_of_ble_eq_true rfl⟩ hP rfl hl.1 rfl (Nat.le_of_ble_eq_true rfl) dX3_tell_49 ⟨Nat.le_of_ble_eq_true rfl, Nat.le_of_ble_eq_true rfl⟩) ?_
    subst hF
    rw [hQ]
    exact rt_i X dX3_tell_52
  replace hF := (if_neg c1).symm.trans hF
  by_cases c2 : p2 = (1 : Int32)
  · replace hF := (if_pos c2).symm.trans hF
    refine lv_tableIn (tgt := 53) (off := 52) hx hb dX3_tell_1 (by rw [c2]; decide) (by rw [c2]; decide) (by rw [c2]; rfl) (by decide) ?_
    refine lv_aload_n hx hb dX3_tell_53 rfl (lv_at hl 0 rfl) ?_
    refine gf_X3_18 hx hb hts hown hK hP h3 dX3_tell_54 ?_
    refine lv_iload_n hx hb dX3_tell_57 rfl (lv_at hl 1 rfl) ?_
    refine rd_i (runSN (As := [.ref (a 6), .int p1]) (rest := []) X cq_X8_at lk_X3_74 (t_X8_at l D cI cJ cZ a ws0 6 ro_columns 12 p1 _ rfl h6 (by decide)) rfl rfl ⟨Nat.le_of_ble_eq_true rfl, Nat.le_of_ble_eq_true rfl⟩ hP rfl hl.1 rfl (Nat.le_of_ble_eq_true rfl) dX3_tell_58 ⟨Nat.le_of_ble_eq_true rfl, Nat.le_of_ble_eq_true rfl⟩) ?_
    subst hF
    rw [hQ]
    exact rt_i X dX3_tell_61
  replace hF := (if_neg c2).symm.trans hF
  by_cases c3 : p2 = (2 : Int32)
  · replace hF := (if_pos c3).symm.trans hF
    refine lv_tableIn (tgt := 62) (off := 61) hx hb dX3_tell_1 (by rw [c3]; decide) (by rw [c3]; decide) (by rw [c3]; rfl) (by decide) ?_
    refine lv_aload_n hx hb dX3_tell_62 rfl (lv_at hl 0 rfl) ?_
    refine gf_X3_21 hx hb hts hown hK hP h3 dX3_tell_63 ?_
    refine lv_iload_n hx hb dX3_tell_66 rfl (lv_at hl 1 rfl) ?_
    refine rd_i (runSN (As := [.ref (a 7), .int p1]) (rest := []) X cq_X8_at lk_X3_74 (t_X8_at l D cI cJ cZ a ws0 7 ro_tenths 12 p1 _ rfl h7 (by decide)) rfl rfl ⟨Nat.le_of_ble_eq_true rfl, Nat.le_of_ble_eq_true rfl⟩ hP rfl hl.1 rfl (Nat.le_of_ble_eq_true rfl) dX3_tell_67 ⟨Nat.le_of_ble_eq_true rfl, Nat.le_of_ble_eq_true rfl⟩) ?_
    subst hF
    rw [hQ]
    exact rt_i X dX3_tell_70
  replace hF := (if_neg c3).symm.trans hF
  by_cases c4 : p2 = (3 : Int32)
  · replace hF := (if_pos c4).symm.trans hF
    refine lv_tableIn (tgt := 71) (off := 70) hx hb dX3_tell_1 (by rw [c4]; decide) (by rw [c4]; decide) (by rw [c4]; rfl) (by decide) ?_
    refine lv_aload_n hx hb dX3_tell_71 rfl (lv_at hl 0 rfl) ?_
    refine gf_X3_24 hx hb hts hown hK hP h3 dX3_tell_72 ?_
    refine lv_iload_n hx hb dX3_tell_75 rfl (lv_at hl 1 rfl) ?_
    refine rd_i (runSN (As := [.ref (a 8), .int p1]) (rest := []) X cq_X8_at lk_X3_74 (t_X8_at l D cI cJ cZ a ws0 8 ro_needs 12 p1 _ rfl h8 (by decide)) rfl rfl ⟨Nat.le_of_ble_eq_true rfl, Nat.le_of_ble_eq_true rfl⟩ hP rfl hl.1 rfl (Nat.le_of_ble_eq_true rfl) dX3_tell_76 ⟨Nat.le_of_ble_eq_true rfl, Nat.le_of_ble_eq_true rfl⟩) ?_
    subst hF
    rw [hQ]
    exact rt_i X dX3_tell_79
  replace hF := (if_neg c4).symm.trans hF
  by_cases c5 : p2 = (4 : Int32)
  · replace hF := (if_pos c5).symm.trans hF
    refine lv_tableIn (tgt := 80) (off := 79) hx hb dX3_tell_1 (by rw [c5]; decide) (by rw [c5]; decide) (by rw [c5]; rfl) (by decide) ?_
    refine lv_aload_n hx hb dX3_tell_80 rfl (lv_at hl 0 rfl) ?_
    refine gf_X3_27 hx hb hts hown hK hP h3 dX3_tell_81 ?_
    refine lv_iload_n hx hb dX3_tell_84 rfl (lv_at hl 1 rfl) ?_
    refine rd_i (runSN (As := [.ref (a 9), .int p1]) (rest := []) X cq_X8_at lk_X3_74 (t_X8_at l D cI cJ cZ a ws0 9 ro_toldDares 12 p1 _ rfl h9 (by decide)) rfl rfl ⟨Nat.le_of_ble_eq_true rfl, Nat.le_of_ble_eq_true rfl⟩ hP rfl hl.1 rfl (Nat.le_of_ble_eq_true rfl) dX3_tell_85 ⟨Nat.le_of_ble_eq_true rfl, Nat.le_of_ble_eq_true rfl⟩) ?_
    subst hF
    rw [hQ]
    exact rt_i X dX3_tell_88
  replace hF := (if_neg c5).symm.trans hF
  by_cases c6 : p2 = (5 : Int32)
  · replace hF := (if_pos c6).symm.trans hF
    refine lv_tableIn (tgt := 89) (off := 88) hx hb dX3_tell_1 (by rw [c6]; decide) (by rw [c6]; decide) (by rw [c6]; rfl) (by decide) ?_
    refine lv_aload_n hx hb dX3_tell_89 rfl (lv_at hl 0 rfl) ?_
    refine lv_iload_n hx hb dX3_tell_90 rfl (lv_at hl 1 rfl) ?_
    refine rd_i (runV (As := [.int p1]) (rest := []) X cq_X3_isF lk_X3_78 (c_X3_isF l D cI cJ cZ a ws0 ro_pupils ro_mood ro_letters p1 _ rfl h3 h4) rfl rfl ⟨Nat.le_of_ble_eq_true rfl, Nat.le_of_ble_eq_true rfl⟩ hP h3 rfl rfl hl.1 rfl (Nat.le_of_ble_eq_true rfl) dX3_tell_91 ⟨Nat.le_of_ble_eq_true rfl, Nat.le_of_ble_eq_true rfl⟩) ?_
    refine zf_eq (tgt := 101) hx hb dX3_tell_94 (by decide) (fun c7 => ?_) (fun c7 => ?_)
    · replace hF := (if_neg c7).symm.trans hF
      refine lv_iconst (v := (0 : Int32)) hx hb dX3_tell_101 (by decide) ?_
      subst hF
      rw [hQ]
      exact rt_i X dX3_tell_102
    · replace hF := (if_pos c7).symm.trans hF
      refine lv_iconst (v := (1 : Int32)) hx hb dX3_tell_97 (by decide) ?_
      refine lv_goto (tgt := 102) hx hb dX3_tell_98 (by decide) ?_
      subst hF
      rw [hQ]
      exact rt_i X dX3_tell_102
  replace hF := (if_neg c6).symm.trans hF
  by_cases c8 : p2 = (6 : Int32)
  · replace hF := (if_pos c8).symm.trans hF
    refine lv_tableIn (tgt := 103) (off := 102) hx hb dX3_tell_1 (by rw [c8]; decide) (by rw [c8]; decide) (by rw [c8]; rfl) (by decide) ?_
    refine lv_aload_n hx hb dX3_tell_103 rfl (lv_at hl 0 rfl) ?_
    refine gf_X3_33 hx hb hts hown hK hP h3 dX3_tell_104 ?_
    refine gf_X3_63 hx hb hts hown hK hN hP h10 dX3_tell_107 ?_
    refine lv_iload_n hx hb dX3_tell_110 rfl (lv_at hl 1 rfl) ?_
    refine rd_i (runSN (As := [.ref (a 11), .int p1]) (rest := []) X cq_X8_at lk_X3_74 (t_X8_at l D cI cJ cZ a ws0 11 le_dares 12 p1 _ rfl h11 (by decide)) rfl rfl ⟨Nat.le_of_ble_eq_true rfl, Nat.le_of_ble_eq_true rfl⟩ hP rfl hl.1 rfl (Nat.le_of_ble_eq_true rfl) dX3_tell_111 ⟨Nat.le_of_ble_eq_true rfl, Nat.le_of_ble_eq_true rfl⟩) ?_
    subst hF
    rw [hQ]
    exact rt_i X dX3_tell_114
  replace hF := (if_neg c8).symm.trans hF
  have zc1 : ¬ p2.toInt = 0 := fun q => c1 (Int32.toInt_inj.mp (q.trans (by decide)))
  have zc2 : ¬ p2.toInt = 1 := fun q => c2 (Int32.toInt_inj.mp (q.trans (by decide)))
  have zc3 : ¬ p2.toInt = 2 := fun q => c3 (Int32.toInt_inj.mp (q.trans (by decide)))
  have zc4 : ¬ p2.toInt = 3 := fun q => c4 (Int32.toInt_inj.mp (q.trans (by decide)))
  have zc5 : ¬ p2.toInt = 4 := fun q => c5 (Int32.toInt_inj.mp (q.trans (by decide)))
  have zc6 : ¬ p2.toInt = 5 := fun q => c6 (Int32.toInt_inj.mp (q.trans (by decide)))
  have zc8 : ¬ p2.toInt = 6 := fun q => c8 (Int32.toInt_inj.mp (q.trans (by decide)))
  refine lv_tableOut (tgt := 115) hx hb dX3_tell_1 (by omega) (by decide) ?_
  refine lv_aload_n hx hb dX3_tell_115 rfl (lv_at hl 0 rfl) ?_
  refine gf_X3_33 hx hb hts hown hK hP h3 dX3_tell_116 ?_
  refine gf_X3_82 hx hb hts hown hK hN hP h10 dX3_tell_119 ?_
  refine lv_iload_n hx hb dX3_tell_122 rfl (lv_at hl 1 rfl) ?_
  refine rd_i (runSN (As := [.ref (a 12), .int p1]) (rest := []) X cq_X8_at lk_X3_74 (t_X8_at l D cI cJ cZ a ws0 12 le_times 12 p1 _ rfl h12 (by decide)) rfl rfl ⟨Nat.le_of_ble_eq_true rfl, Nat.le_of_ble_eq_true rfl⟩ hP rfl hl.1 rfl (Nat.le_of_ble_eq_true rfl) dX3_tell_123 ⟨Nat.le_of_ble_eq_true rfl, Nat.le_of_ble_eq_true rfl⟩) ?_
  subst hF
  rw [hQ]
  exact rt_i X dX3_tell_126
def FX8_about (ro_pupils : Int32) (ro_letters : Nat → Int32) (ro_rows : Nat → Int32) (ro_columns : Nat → Int32) (ro_tenths : Nat → Int32) (ro_needs : Nat → Int32) (ro_toldDares : Nat → Int32) (le_dares : Nat → Int32) (le_times : Nat → Int32) (p1 : Int32) (p2 : Int32) : Int32 :=
  if (FX3_lacks ro_pupils p1) = true then ((-1 : Int32)) else (if (FX8_outside p2 (0 : Int32) (7 : Int32)) = true then ((-2 : Int32)) else (FX3_tell ro_rows ro_columns ro_tenths ro_needs ro_toldDares ro_letters le_dares le_times p1 p2))
def rm_X8_about : Room := { frames := 3, cells := 0, slots := 0, locals := 64 }
set_option maxHeartbeats 4000000 in
set_option maxRecDepth 100000 in
theorem c_X8_about (l : Launch) (D : va_G) (cI cJ cZ : ClassId) (a : Nat → Nat) (ws0 : va_W)  (ro_pupils : Int32) (ro_mood : Int32) (ro_letters : Nat → Int32) (ro_rows : Nat → Int32) (ro_columns : Nat → Int32) (ro_tenths : Nat → Int32) (ro_needs : Nat → Int32) (ro_toldDares : Nat → Int32) (le_seed : Int64) (le_questions : Int32) (le_rightOnes : Int32) (le_wrongOnes : Int32) (le_isKept : Int32) (le_dares : Nat → Int32) (le_times : Nat → Int32) (p1 : Int32) (p2 : Int32) (u : Int32) (hF : FX8_about ro_pupils ro_letters ro_rows ro_columns ro_tenths ro_needs ro_toldDares le_dares le_times p1 p2 = u) (h0 : ws0[0]? = some (a 0, .inr (8, [.ref (a 1), .ref (a 3), .ref (a 13), .ref (a 16), .ref (a 22), .ref (a 25), .ref (a 28), .ref (a 33)]))) (h3 : ws0[3]? = some (a 3, .inr (3, [.ref (a 4), .ref (a 5), .ref (a 6), .ref (a 7), .ref (a 8), .ref (a 9), .ref (a 10), .int ro_pupils, .int ro_mood]))) (h4 : ws0[4]? = some (a 4, .inl (cI, 12, .inl ro_letters))) (h5 : ws0[5]? = some (a 5, .inl (cI, 12, .inl ro_rows))) (h6 : ws0[6]? = some (a 6, .inl (cI, 12, .inl ro_columns))) (h7 : ws0[7]? = some (a 7, .inl (cI, 12, .inl ro_tenths))) (h8 : ws0[8]? = some (a 8, .inl (cI, 12, .inl ro_needs))) (h9 : ws0[9]? = some (a 9, .inl (cI, 12, .inl ro_toldDares))) (h10 : ws0[10]? = some (a 10, .inr (2, [.ref (a 11), .ref (a 12), .long le_seed, .int le_questions, .int le_rightOnes, .int le_wrongOnes, .int le_isKept]))) (h11 : ws0[11]? = some (a 11, .inl (cI, 12, .inl le_dares))) (h12 : ws0[12]? = some (a 12, .inl (cI, 12, .inl le_times))) : Met l yX8_about (wq yX8_about cX8_about 3 (some .int)) rm_X8_about (Pq [.ref (a 0), .int p1, .int p2] D cI cJ cZ ws0) (Qq (some (.int u))) 0 0 (fun _ => False) := by
  refine mq_of (by decide) (Nat.le_of_ble_eq_true rfl) (fun p e s m args below meth c ls Q hQ X _ hP hl => ?_)
  obtain ⟨hx, hb, hr, hml, hown, hts, hlk, hK, hN⟩ := id X
  have hown : s.vm.findClass RX8 = some m.cls := hown
  have hl : lv_has ls 3 [(0, .ref (a 0)), (1, .int p1), (2, .int p2)] := hl
  unfold FX8_about at hF
  refine lv_aload_n hx hb dX8_about_0 rfl (lv_at hl 0 rfl) ?_
  refine gf_X8_19 hx hb hts hown hK hP h0 dX8_about_1 ?_
  refine lv_iload_n hx hb dX8_about_4 rfl (lv_at hl 1 rfl) ?_
  refine rd_i (runVN (As := [.int p1]) (rest := []) X cq_X3_lacks lk_X8_88 (c_X3_lacks l D cI cJ cZ a ws0 ro_pupils ro_mood p1 _ rfl h3) rfl rfl ⟨Nat.le_of_ble_eq_true rfl, Nat.le_of_ble_eq_true rfl⟩ hP h3 rfl rfl hl.1 rfl (Nat.le_of_ble_eq_true rfl) dX8_about_5 ⟨Nat.le_of_ble_eq_true rfl, Nat.le_of_ble_eq_true rfl⟩) ?_
  refine zf_eq (tgt := 13) hx hb dX8_about_8 (by decide) (fun c1 => ?_) (fun c1 => ?_)
  · replace hF := (if_neg c1).symm.trans hF
    refine lv_iload_n hx hb dX8_about_13 rfl (lv_at hl 2 rfl) ?_
    refine lv_iconst (v := (0 : Int32)) hx hb dX8_about_14 (by decide) ?_
    refine lv_bipush (v := (7 : Int32)) hx hb dX8_about_15 (by decide) ?_
    refine rd_i (runS (As := [.int p2, .int (0 : Int32), .int (7 : Int32)]) (rest := []) X cq_X8_outside lk_X8_61 (c_X8_outside l D cI cJ cZ a ws0 p2 (0 : Int32) (7 : Int32) _ rfl ) rfl rfl ⟨Nat.le_of_ble_eq_true rfl, Nat.le_of_ble_eq_true rfl⟩ hP rfl hl.1 rfl (Nat.le_of_ble_eq_true rfl) dX8_about_17 ⟨Nat.le_of_ble_eq_true rfl, Nat.le_of_ble_eq_true rfl⟩) ?_
    refine zf_eq (tgt := 28) hx hb dX8_about_20 (by decide) (fun c2 => ?_) (fun c2 => ?_)
    · replace hF := (if_neg c2).symm.trans hF
      refine lv_aload_n hx hb dX8_about_28 rfl (lv_at hl 0 rfl) ?_
      refine gf_X8_19 hx hb hts hown hK hP h0 dX8_about_29 ?_
      refine lv_iload_n hx hb dX8_about_32 rfl (lv_at hl 1 rfl) ?_
      refine lv_iload_n hx hb dX8_about_33 rfl (lv_at hl 2 rfl) ?_
      refine rd_i (runVN (As := [.int p1, .int p2]) (rest := []) X cq_X3_tell lk_X8_92 (c_X3_tell l D cI cJ cZ a ws0 ro_pupils ro_mood ro_rows ro_columns ro_tenths ro_needs ro_toldDares ro_letters le_seed le_questions le_rightOnes le_wrongOnes le_isKept le_dares le_times p1 p2 _ rfl h3 h4 h5 h6 h7 h8 h9 h10 h11 h12) rfl rfl ⟨Nat.le_of_ble_eq_true rfl, Nat.le_of_ble_eq_true rfl⟩ hP h3 rfl rfl hl.1 rfl (Nat.le_of_ble_eq_true rfl) dX8_about_34 ⟨Nat.le_of_ble_eq_true rfl, Nat.le_of_ble_eq_true rfl⟩) ?_
      subst hF
      rw [hQ]
      exact rt_i X dX8_about_37
    · replace hF := (if_pos c2).symm.trans hF
      refine lv_bipush (v := (-2 : Int32)) hx hb dX8_about_23 (by decide) ?_
      refine lv_goto (tgt := 37) hx hb dX8_about_25 (by decide) ?_
      subst hF
      rw [hQ]
      exact rt_i X dX8_about_37
  · replace hF := (if_pos c1).symm.trans hF
    refine lv_iconst (v := (-1 : Int32)) hx hb dX8_about_11 (by decide) ?_
    subst hF
    rw [hQ]
    exact rt_i X dX8_about_12
def FX8_mood (ro_mood : Int32) (p1 : Int32) : Int32 × Int32 :=
  if (FX8_outside p1 (0 : Int32) (9 : Int32)) = true then (((-2 : Int32), ro_mood)) else ((ro_mood, p1))
def rm_X8_mood : Room := { frames := 1, cells := 0, slots := 0, locals := 22 }
set_option maxHeartbeats 4000000 in
set_option maxRecDepth 100000 in
theorem c_X8_mood (l : Launch) (D : va_G) (cI cJ cZ : ClassId) (a : Nat → Nat) (ws0 : va_W) (A : Nat → Prop)  (ro_pupils : Int32) (ro_mood : Int32) (p1 : Int32) (u : Int32 × Int32) (hF : FX8_mood ro_mood p1 = u) (z0 : ws0[0]? = some (a 0, .inr (8, [.ref (a 1), .ref (a 3), .ref (a 13), .ref (a 16), .ref (a 22), .ref (a 25), .ref (a 28), .ref (a 33)]))) (z3 : ws0[3]? = some (a 3, .inr (3, [.ref (a 4), .ref (a 5), .ref (a 6), .ref (a 7), .ref (a 8), .ref (a 9), .ref (a 10), .int ro_pupils, .int ro_mood]))) (hD : va_D A ws0) : Met l yX8_mood (wq yX8_mood cX8_mood 3 (some .int)) rm_X8_mood (Pq [.ref (a 0), .int p1] D cI cJ cZ ws0) (Qw D A ws0 [3] (some (.int u.1)) (fun w => w[3]? = some (a 3, .inr (3, [.ref (a 4), .ref (a 5), .ref (a 6), .ref (a 7), .ref (a 8), .ref (a 9), .ref (a 10), .int ro_pupils, .int u.2])))) 0 0 A := by
  refine mq_of (by decide) (Nat.le_of_ble_eq_true rfl) (fun p e s m args below meth c ls Q hQ X _ hP hl => ?_)
  obtain ⟨hx, hb, hr, hml, hown, hts, hlk, hK, hN⟩ := id X
  have hown : s.vm.findClass RX8 = some m.cls := hown
  have hl : lv_has ls 3 [(0, .ref (a 0)), (1, .int p1)] := hl
  have hS : va_S A s.heap s.heap [] := va_S.rf
  have hs : ∀ j : Nat, j ∉ [3] → ws0[j]? = ws0[j]? := fun _ _ => rfl
  have h0 := z0
  have h3 := z3
  unfold FX8_mood at hF
  refine lv_iload_n hx hb dX8_mood_0 rfl (lv_at hl 1 rfl) ?_
  refine lv_iconst (v := (0 : Int32)) hx hb dX8_mood_1 (by decide) ?_
  refine lv_bipush (v := (9 : Int32)) hx hb dX8_mood_2 (by decide) ?_
  refine rd_i (runS (As := [.int p1, .int (0 : Int32), .int (9 : Int32)]) (rest := []) X cq_X8_outside lk_X8_61 (c_X8_outside l D cI cJ cZ a ws0 p1 (0 : Int32) (9 : Int32) _ rfl ) rfl rfl ⟨Nat.le_of_ble_eq_true rfl, Nat.le_of_ble_eq_true rfl⟩ hP rfl hl.1 rfl (Nat.le_of_ble_eq_true rfl) dX8_mood_4 ⟨Nat.le_of_ble_eq_true rfl, Nat.le_of_ble_eq_true rfl⟩) ?_
  refine zf_eq (tgt := 13) hx hb dX8_mood_7 (by decide) (fun c1 => ?_) (fun c1 => ?_)
  · replace hF := (if_neg c1).symm.trans hF
    refine lv_aload_n hx hb dX8_mood_13 rfl (lv_at hl 0 rfl) ?_
    refine gf_X8_19 hx hb hts hown hK hP h0 dX8_mood_14 ?_
    refine gf_X8_96 hx hb hts hown hK hN hP h3 dX8_mood_17 ?_
    refine lv_istore_n (lv' := [(2, .int ro_mood), (0, .ref (a 0)), (1, .int p1)]) hx hb dX8_mood_20 rfl hl (by decide) rfl (fun ls hl => ?_)
    refine lv_aload_n hx hb dX8_mood_21 rfl (lv_at hl 1 rfl) ?_
    refine gf_X8_19 hx hb hts hown hK hP h0 dX8_mood_22 ?_
    refine lv_iload_n hx hb dX8_mood_25 rfl (lv_at hl 2 rfl) ?_
    refine pf_X8_96 hx hb hts hown hK hN hP hD hS h3 rfl rfl dX8_mood_26 (fun w2 H locs hP hD hk hc hS => ?_)
    have h3 : w2[3]? = some (a 3, .inr (3, [.ref (a 4), .ref (a 5), .ref (a 6), .ref (a 7), .ref (a 8), .ref (a 9), .ref (a 10), .int ro_pupils, .int p1])) := hc
    have h0 := (hk 0 (by omega)).trans h0
    replace hs := sm_k hk (by simp) hs
    refine lv_iload_n hx hb dX8_mood_29 rfl (lv_at hl 0 rfl) ?_
    subst hF
    rw [hQ]
    exact rw_i X hS hP hD hs h3 dX8_mood_30
  · replace hF := (if_pos c1).symm.trans hF
    refine lv_bipush (v := (-2 : Int32)) hx hb dX8_mood_10 (by decide) ?_
    subst hF
    rw [hQ]
    exact rw_i X hS hP hD hs h3 dX8_mood_12
def FX8_noSeconds (p1 : Int32) : Bool :=
  FX8_outside p1 (0 : Int32) (9 : Int32)
def rm_X8_noSeconds : Room := { frames := 1, cells := 0, slots := 0, locals := 22 }
set_option maxHeartbeats 4000000 in
set_option maxRecDepth 100000 in
theorem c_X8_noSeconds (l : Launch) (D : va_G) (cI cJ cZ : ClassId) (a : Nat → Nat) (ws0 : va_W)   (p1 : Int32) (u : Bool) (hF : FX8_noSeconds p1 = u) : Met l yX8_noSeconds (wq yX8_noSeconds cX8_noSeconds 1 (some .boolean)) rm_X8_noSeconds (Pq [.int p1] D cI cJ cZ ws0) (Qq (some (.int (bi u)))) 0 0 (fun _ => False) := by
  refine mq_of (by decide) (Nat.le_of_ble_eq_true rfl) (fun p e s m args below meth c ls Q hQ X _ hP hl => ?_)
  obtain ⟨hx, hb, hr, hml, hown, hts, hlk, hK, hN⟩ := id X
  have hown : s.vm.findClass RX8 = some m.cls := hown
  have hl : lv_has ls 1 [(0, .int p1)] := hl
  unfold FX8_noSeconds at hF
  refine lv_iload_n hx hb dX8_noSeconds_0 rfl (lv_at hl 0 rfl) ?_
  refine lv_iconst (v := (0 : Int32)) hx hb dX8_noSeconds_1 (by decide) ?_
  refine lv_bipush (v := (9 : Int32)) hx hb dX8_noSeconds_2 (by decide) ?_
  refine rd_i (runS (As := [.int p1, .int (0 : Int32), .int (9 : Int32)]) (rest := []) X cq_X8_outside lk_X8_61 (c_X8_outside l D cI cJ cZ a ws0 p1 (0 : Int32) (9 : Int32) _ rfl ) rfl rfl ⟨Nat.le_of_ble_eq_true rfl, Nat.le_of_ble_eq_true rfl⟩ hP rfl hl.1 rfl (Nat.le_of_ble_eq_true rfl) dX8_noSeconds_4 ⟨Nat.le_of_ble_eq_true rfl, Nat.le_of_ble_eq_true rfl⟩) ?_
  subst hF
  rw [hQ]
  exact rt_z (b := FX8_outside p1 (0 : Int32) (9 : Int32)) X dX8_noSeconds_7
def FX3_isRight (ro_needs : Nat → Int32) (p1 : Int32) (p2 : Int32) (p3 : Int32) : Bool :=
  if p2 = 0 then false else (if p3 < (gat ro_needs 12 p1) then false else true)
def rm_X3_isRight : Room := { frames := 1, cells := 0, slots := 0, locals := 21 }
set_option maxHeartbeats 4000000 in
set_option maxRecDepth 100000 in
theorem c_X3_isRight (l : Launch) (D : va_G) (cI cJ cZ : ClassId) (a : Nat → Nat) (ws0 : va_W)  (ro_pupils : Int32) (ro_mood : Int32) (ro_needs : Nat → Int32) (p1 : Int32) (p2 : Int32) (p3 : Int32) (u : Bool) (hF : FX3_isRight ro_needs p1 p2 p3 = u) (h3 : ws0[3]? = some (a 3, .inr (3, [.ref (a 4), .ref (a 5), .ref (a 6), .ref (a 7), .ref (a 8), .ref (a 9), .ref (a 10), .int ro_pupils, .int ro_mood]))) (h8 : ws0[8]? = some (a 8, .inl (cI, 12, .inl ro_needs))) : Met l yX3_isRight (wq yX3_isRight cX3_isRight 4 (some .boolean)) rm_X3_isRight (Pq [.ref (a 3), .int p1, .int p2, .int p3] D cI cJ cZ ws0) (Qq (some (.int (bi u)))) 0 0 (fun _ => False) := by
  refine mq_of (by decide) (Nat.le_of_ble_eq_true rfl) (fun p e s m args below meth c ls Q hQ X _ hP hl => ?_)
  obtain ⟨hx, hb, hr, hml, hown, hts, hlk, hK, hN⟩ := id X
  have hown : s.vm.findClass RX3 = some m.cls := hown
  have hl : lv_has ls 4 [(0, .ref (a 3)), (1, .int p1), (2, .int p2), (3, .int p3)] := hl
  unfold FX3_isRight at hF
  refine lv_iload_n hx hb dX3_isRight_0 rfl (lv_at hl 2 rfl) ?_
  refine lv_if_eq (tgt := 20) hx hb dX3_isRight_1 (by decide) (fun c1 => ?_) (fun c1 => ?_)
  · replace hF := (if_pos c1).symm.trans hF
    refine lv_iconst (v := (0 : Int32)) hx hb dX3_isRight_20 (by decide) ?_
    subst hF
    rw [hQ]
    exact rt_z (b := false) X dX3_isRight_21
  · replace hF := (if_neg c1).symm.trans hF
    refine lv_aload_n hx hb dX3_isRight_4 rfl (lv_at hl 0 rfl) ?_
    refine gf_X3_24 hx hb hts hown hK hP h3 dX3_isRight_5 ?_
    refine lv_iload_n hx hb dX3_isRight_8 rfl (lv_at hl 1 rfl) ?_
    refine rd_i (runSN (As := [.ref (a 8), .int p1]) (rest := []) X cq_X8_at lk_X3_74 (t_X8_at l D cI cJ cZ a ws0 8 ro_needs 12 p1 _ rfl h8 (by decide)) rfl rfl ⟨Nat.le_of_ble_eq_true rfl, Nat.le_of_ble_eq_true rfl⟩ hP rfl hl.1 rfl (Nat.le_of_ble_eq_true rfl) dX3_isRight_9 ⟨Nat.le_of_ble_eq_true rfl, Nat.le_of_ble_eq_true rfl⟩) ?_
    refine lv_iload_n hx hb dX3_isRight_12 rfl (lv_at hl 3 rfl) ?_
    refine lv_icmp_gt (tgt := 20) hx hb dX3_isRight_13 (by decide) (fun c2 => ?_) (fun c2 => ?_)
    · replace hF := (if_pos c2).symm.trans hF
      refine lv_iconst (v := (0 : Int32)) hx hb dX3_isRight_20 (by decide) ?_
      subst hF
      rw [hQ]
      exact rt_z (b := false) X dX3_isRight_21
    · replace hF := (if_neg c2).symm.trans hF
      refine lv_iconst (v := (1 : Int32)) hx hb dX3_isRight_16 (by decide) ?_
      refine lv_goto (tgt := 21) hx hb dX3_isRight_17 (by decide) ?_
      subst hF
      rw [hQ]
      exact rt_z (b := true) X dX3_isRight_21
def FX3_isUp (ro_mood : Int32) (le_dares : Nat → Int32) (ro_letters : Nat → Int32) (ro_needs : Nat → Int32) (p1 : Int32) (p2 : Int32) (p3 : Int32) : Bool :=
  if (gat le_dares 12 p1) < ro_mood then false else (if (FX3_isF ro_letters p1) = true then true else (if (FX3_isRight ro_needs p1 p2 p3) = true then true else false))
def rm_X3_isUp : Room := { frames := 2, cells := 0, slots := 0, locals := 44 }
set_option maxHeartbeats 4000000 in
set_option maxRecDepth 100000 in
theorem c_X3_isUp (l : Launch) (D : va_G) (cI cJ cZ : ClassId) (a : Nat → Nat) (ws0 : va_W)  (ro_pupils : Int32) (ro_mood : Int32) (le_seed : Int64) (le_questions : Int32) (le_rightOnes : Int32) (le_wrongOnes : Int32) (le_isKept : Int32) (le_dares : Nat → Int32) (ro_letters : Nat → Int32) (ro_needs : Nat → Int32) (p1 : Int32) (p2 : Int32) (p3 : Int32) (u : Bool) (hF : FX3_isUp ro_mood le_dares ro_letters ro_needs p1 p2 p3 = u) (h3 : ws0[3]? = some (a 3, .inr (3, [.ref (a 4), .ref (a 5), .ref (a 6), .ref (a 7), .ref (a 8), .ref (a 9), .ref (a 10), .int ro_pupils, .int ro_mood]))) (h4 : ws0[4]? = some (a 4, .inl (cI, 12, .inl ro_letters))) (h8 : ws0[8]? = some (a 8, .inl (cI, 12, .inl ro_needs))) (h10 : ws0[10]? = some (a 10, .inr (2, [.ref (a 11), .ref (a 12), .long le_seed, .int le_questions, .int le_rightOnes, .int le_wrongOnes, .int le_isKept]))) (h11 : ws0[11]? = some (a 11, .inl (cI, 12, .inl le_dares))) : Met l yX3_isUp (wq yX3_isUp cX3_isUp 4 (some .boolean)) rm_X3_isUp (Pq [.ref (a 3), .int p1, .int p2, .int p3] D cI cJ cZ ws0) (Qq (some (.int (bi u)))) 0 0 (fun _ => False) := by
  refine mq_of (by decide) (Nat.le_of_ble_eq_true rfl) (fun p e s m args below meth c ls Q hQ X _ hP hl => ?_)
  obtain ⟨hx, hb, hr, hml, hown, hts, hlk, hK, hN⟩ := id X
  have hown : s.vm.findClass RX3 = some m.cls := hown
  have hl : lv_has ls 4 [(0, .ref (a 3)), (1, .int p1), (2, .int p2), (3, .int p3)] := hl
  unfold FX3_isUp at hF
  refine lv_aload_n hx hb dX3_isUp_0 rfl (lv_at hl 0 rfl) ?_
  refine gf_X3_33 hx hb hts hown hK hP h3 dX3_isUp_1 ?_
  refine gf_X3_63 hx hb hts hown hK hN hP h10 dX3_isUp_4 ?_
  refine lv_iload_n hx hb dX3_isUp_7 rfl (lv_at hl 1 rfl) ?_
  refine rd_i (runSN (As := [.ref (a 11), .int p1]) (rest := []) X cq_X8_at lk_X3_74 (t_X8_at l D cI cJ cZ a ws0 11 le_dares 12 p1 _ rfl h11 (by decide)) rfl rfl ⟨Nat.le_of_ble_eq_true rfl, Nat.le_of_ble_eq_true rfl⟩ hP rfl hl.1 rfl (Nat.le_of_ble_eq_true rfl) dX3_isUp_8 ⟨Nat.le_of_ble_eq_true rfl, Nat.le_of_ble_eq_true rfl⟩) ?_
  refine lv_aload_n hx hb dX3_isUp_11 rfl (lv_at hl 0 rfl) ?_
  refine gf_X3_37 hx hb hts hown hK hP h3 dX3_isUp_12 ?_
  refine lv_icmp_lt (tgt := 40) hx hb dX3_isUp_15 (by decide) (fun c1 => ?_) (fun c1 => ?_)
  · replace hF := (if_pos c1).symm.trans hF
    refine lv_iconst (v := (0 : Int32)) hx hb dX3_isUp_40 (by decide) ?_
    subst hF
    rw [hQ]
    exact rt_z (b := false) X dX3_isUp_41
  · replace hF := (if_neg c1).symm.trans hF
    refine lv_aload_n hx hb dX3_isUp_18 rfl (lv_at hl 0 rfl) ?_
    refine lv_iload_n hx hb dX3_isUp_19 rfl (lv_at hl 1 rfl) ?_
    refine rd_i (runV (As := [.int p1]) (rest := []) X cq_X3_isF lk_X3_78 (c_X3_isF l D cI cJ cZ a ws0 ro_pupils ro_mood ro_letters p1 _ rfl h3 h4) rfl rfl ⟨Nat.le_of_ble_eq_true rfl, Nat.le_of_ble_eq_true rfl⟩ hP h3 rfl rfl hl.1 rfl (Nat.le_of_ble_eq_true rfl) dX3_isUp_20 ⟨Nat.le_of_ble_eq_true rfl, Nat.le_of_ble_eq_true rfl⟩) ?_
    refine zf_ne (tgt := 36) hx hb dX3_isUp_23 (by decide) (fun c2 => ?_) (fun c2 => ?_)
    · replace hF := (if_pos c2).symm.trans hF
      refine lv_iconst (v := (1 : Int32)) hx hb dX3_isUp_36 (by decide) ?_
      refine lv_goto (tgt := 41) hx hb dX3_isUp_37 (by decide) ?_
      subst hF
      rw [hQ]
      exact rt_z (b := true) X dX3_isUp_41
    · replace hF := (if_neg c2).symm.trans hF
      refine lv_aload_n hx hb dX3_isUp_26 rfl (lv_at hl 0 rfl) ?_
      refine lv_iload_n hx hb dX3_isUp_27 rfl (lv_at hl 1 rfl) ?_
      refine lv_iload_n hx hb dX3_isUp_28 rfl (lv_at hl 2 rfl) ?_
      refine lv_iload_n hx hb dX3_isUp_29 rfl (lv_at hl 3 rfl) ?_
      refine rd_i (runV (As := [.int p1, .int p2, .int p3]) (rest := []) X cq_X3_isRight lk_X3_85 (c_X3_isRight l D cI cJ cZ a ws0 ro_pupils ro_mood ro_needs p1 p2 p3 _ rfl h3 h8) rfl rfl ⟨Nat.le_of_ble_eq_true rfl, Nat.le_of_ble_eq_true rfl⟩ hP h3 rfl rfl hl.1 rfl (Nat.le_of_ble_eq_true rfl) dX3_isUp_30 ⟨Nat.le_of_ble_eq_true rfl, Nat.le_of_ble_eq_true rfl⟩) ?_
      refine zf_eq (tgt := 40) hx hb dX3_isUp_33 (by decide) (fun c3 => ?_) (fun c3 => ?_)
      · replace hF := (if_neg c3).symm.trans hF
        refine lv_iconst (v := (0 : Int32)) hx hb dX3_isUp_40 (by decide) ?_
        subst hF
        rw [hQ]
        exact rt_z (b := false) X dX3_isUp_41
      · replace hF := (if_pos c3).symm.trans hF
        refine lv_iconst (v := (1 : Int32)) hx hb dX3_isUp_36 (by decide) ?_
        refine lv_goto (tgt := 41) hx hb dX3_isUp_37 (by decide) ?_
        subst hF
        rw [hQ]
        exact rt_z (b := true) X dX3_isUp_41
def FX3_upTenths_J48 (x4 : Int32) (x5 : Int32) : Int32 :=
  x4 + x5
def FX3_upTenths_J22 (ro_mood : Int32) (ro_letters : Nat → Int32) (ro_needs : Nat → Int32) (le_dares : Nat → Int32) (ro_tenths : Nat → Int32) (p1 : Int32) (p2 : Int32) (x2 : Int32) : Int32 :=
  if (FX3_isUp ro_mood le_dares ro_letters ro_needs p1 (0 : Int32) p2) = true then (FX3_upTenths_J48 x2 ((10 : Int32) - (gat ro_tenths 12 p1))) else (FX3_upTenths_J48 x2 (0 : Int32))
def FX3_upTenths (ro_mood : Int32) (ro_letters : Nat → Int32) (ro_needs : Nat → Int32) (le_dares : Nat → Int32) (ro_tenths : Nat → Int32) (p1 : Int32) (p2 : Int32) : Int32 :=
  if (FX3_isUp ro_mood le_dares ro_letters ro_needs p1 (1 : Int32) p2) = true then (FX3_upTenths_J22 ro_mood ro_letters ro_needs le_dares ro_tenths p1 p2 (gat ro_tenths 12 p1)) else (FX3_upTenths_J22 ro_mood ro_letters ro_needs le_dares ro_tenths p1 p2 (0 : Int32))
def rm_X3_upTenths : Room := { frames := 3, cells := 0, slots := 0, locals := 67 }
set_option maxHeartbeats 4000000 in
set_option maxRecDepth 100000 in
theorem c_X3_upTenths (l : Launch) (D : va_G) (cI cJ cZ : ClassId) (a : Nat → Nat) (ws0 : va_W)  (ro_pupils : Int32) (ro_mood : Int32) (ro_letters : Nat → Int32) (ro_needs : Nat → Int32) (le_seed : Int64) (le_questions : Int32) (le_rightOnes : Int32) (le_wrongOnes : Int32) (le_isKept : Int32) (le_dares : Nat → Int32) (ro_tenths : Nat → Int32) (p1 : Int32) (p2 : Int32) (u : Int32) (hF : FX3_upTenths ro_mood ro_letters ro_needs le_dares ro_tenths p1 p2 = u) (h3 : ws0[3]? = some (a 3, .inr (3, [.ref (a 4), .ref (a 5), .ref (a 6), .ref (a 7), .ref (a 8), .ref (a 9), .ref (a 10), .int ro_pupils, .int ro_mood]))) (h4 : ws0[4]? = some (a 4, .inl (cI, 12, .inl ro_letters))) (h7 : ws0[7]? = some (a 7, .inl (cI, 12, .inl ro_tenths))) (h8 : ws0[8]? = some (a 8, .inl (cI, 12, .inl ro_needs))) (h10 : ws0[10]? = some (a 10, .inr (2, [.ref (a 11), .ref (a 12), .long le_seed, .int le_questions, .int le_rightOnes, .int le_wrongOnes, .int le_isKept]))) (h11 : ws0[11]? = some (a 11, .inl (cI, 12, .inl le_dares))) : Met l yX3_upTenths (wq yX3_upTenths cX3_upTenths 5 (some .int)) rm_X3_upTenths (Pq [.ref (a 3), .int p1, .int p2] D cI cJ cZ ws0) (Qq (some (.int u))) 0 0 (fun _ => False) := by
  refine mq_of (by decide) (Nat.le_of_ble_eq_true rfl) (fun p e s m args below meth c ls Q hQ X _ hP hl => ?_)
  obtain ⟨hx, hb, hr, hml, hown, hts, hlk, hK, hN⟩ := id X
  have hown : s.vm.findClass RX3 = some m.cls := hown
  have hl : lv_has ls 5 [(0, .ref (a 3)), (1, .int p1), (2, .int p2)] := hl
  have hJ48 : ∀ (x4 : Int32) (x5 : Int32), ∀ ls, lv_has ls 5 [(3, .int x4)] → FX3_upTenths_J48 x4 x5 = u → W p l e rm_X3_upTenths s m args below meth c s.heap [] 0 0 Q (F0 m 48 ls [.int x5]) := by
    intro x4 x5 ls hl hF
    unfold FX3_upTenths_J48 at hF
    refine lv_istore (lv' := [(4, .int x5), (3, .int x4)]) hx hb dX3_upTenths_48 hl (by decide) rfl (fun ls hl => ?_)
    refine lv_iload_n hx hb dX3_upTenths_50 rfl (lv_at hl 1 rfl) ?_
    refine lv_iload hx hb dX3_upTenths_51 (lv_at hl 0 rfl) ?_
    refine lv_iadd hx hb dX3_upTenths_53 ?_
    subst hF
    rw [hQ]
    exact rt_i X dX3_upTenths_54
  have hJ22 : ∀ (x2 : Int32), ∀ ls, lv_has ls 5 [(0, .ref (a 3)), (1, .int p1), (2, .int p2)] → FX3_upTenths_J22 ro_mood ro_letters ro_needs le_dares ro_tenths p1 p2 x2 = u → W p l e rm_X3_upTenths s m args below meth c s.heap [] 0 0 Q (F0 m 22 ls [.int x2]) := by
    intro x2 ls hl hF
    unfold FX3_upTenths_J22 at hF
    refine lv_istore_n (lv' := [(3, .int x2), (0, .ref (a 3)), (1, .int p1), (2, .int p2)]) hx hb dX3_upTenths_22 rfl hl (by decide) rfl (fun ls hl => ?_)
    refine lv_aload_n hx hb dX3_upTenths_23 rfl (lv_at hl 1 rfl) ?_
    refine lv_iload_n hx hb dX3_upTenths_24 rfl (lv_at hl 2 rfl) ?_
    refine lv_iconst (v := (0 : Int32)) hx hb dX3_upTenths_25 (by decide) ?_
    refine lv_iload_n hx hb dX3_upTenths_26 rfl (lv_at hl 3 rfl) ?_
    refine rd_i (runV (As := [.int p1, .int (0 : Int32), .int p2]) (rest := []) X cq_X3_isUp lk_X3_89 (c_X3_isUp l D cI cJ cZ a ws0 ro_pupils ro_mood le_seed le_questions le_rightOnes le_wrongOnes le_isKept le_dares ro_letters ro_needs p1 (0 : Int32) p2 _ rfl h3 h4 h8 h10 h11) rfl rfl ⟨Nat.le_of_ble_eq_true rfl, Nat.le_of_ble_eq_true rfl⟩ hP h3 rfl rfl hl.1 rfl (Nat.le_of_ble_eq_true rfl) dX3_upTenths_27 ⟨Nat.le_of_ble_eq_true rfl, Nat.le_of_ble_eq_true rfl⟩) ?_
    refine zf_eq (tgt := 47) hx hb dX3_upTenths_30 (by decide) (fun c3 => ?_) (fun c3 => ?_)
    · replace hF := (if_neg c3).symm.trans hF
      refine lv_iconst (v := (0 : Int32)) hx hb dX3_upTenths_47 (by decide) ?_
      exact hJ48 x2 (0 : Int32) ls (lv_sub hl [0] rfl) hF
    · replace hF := (if_pos c3).symm.trans hF
      refine lv_bipush (v := (10 : Int32)) hx hb dX3_upTenths_33 (by decide) ?_
      refine lv_aload_n hx hb dX3_upTenths_35 rfl (lv_at hl 1 rfl) ?_
      refine gf_X3_21 hx hb hts hown hK hP h3 dX3_upTenths_36 ?_
      refine lv_iload_n hx hb dX3_upTenths_39 rfl (lv_at hl 2 rfl) ?_
      refine rd_i (runSN (As := [.ref (a 7), .int p1]) (rest := [.int (10 : Int32)]) X cq_X8_at lk_X3_74 (t_X8_at l D cI cJ cZ a ws0 7 ro_tenths 12 p1 _ rfl h7 (by decide)) rfl rfl ⟨Nat.le_of_ble_eq_true rfl, Nat.le_of_ble_eq_true rfl⟩ hP rfl hl.1 rfl (Nat.le_of_ble_eq_true rfl) dX3_upTenths_40 ⟨Nat.le_of_ble_eq_true rfl, Nat.le_of_ble_eq_true rfl⟩) ?_
      refine lv_isub hx hb dX3_upTenths_43 ?_
      refine lv_goto (tgt := 48) hx hb dX3_upTenths_44 (by decide) ?_
      exact hJ48 x2 ((10 : Int32) - (gat ro_tenths 12 p1)) ls (lv_sub hl [0] rfl) hF
  unfold FX3_upTenths at hF
  refine lv_aload_n hx hb dX3_upTenths_0 rfl (lv_at hl 0 rfl) ?_
  refine lv_iload_n hx hb dX3_upTenths_1 rfl (lv_at hl 1 rfl) ?_
  refine lv_iconst (v := (1 : Int32)) hx hb dX3_upTenths_2 (by decide) ?_
  refine lv_iload_n hx hb dX3_upTenths_3 rfl (lv_at hl 2 rfl) ?_
  refine rd_i (runV (As := [.int p1, .int (1 : Int32), .int p2]) (rest := []) X cq_X3_isUp lk_X3_89 (c_X3_isUp l D cI cJ cZ a ws0 ro_pupils ro_mood le_seed le_questions le_rightOnes le_wrongOnes le_isKept le_dares ro_letters ro_needs p1 (1 : Int32) p2 _ rfl h3 h4 h8 h10 h11) rfl rfl ⟨Nat.le_of_ble_eq_true rfl, Nat.le_of_ble_eq_true rfl⟩ hP h3 rfl rfl hl.1 rfl (Nat.le_of_ble_eq_true rfl) dX3_upTenths_4 ⟨Nat.le_of_ble_eq_true rfl, Nat.le_of_ble_eq_true rfl⟩) ?_
  refine zf_eq (tgt := 21) hx hb dX3_upTenths_7 (by decide) (fun c1 => ?_) (fun c1 => ?_)
  · replace hF := (if_neg c1).symm.trans hF
    refine lv_iconst (v := (0 : Int32)) hx hb dX3_upTenths_21 (by decide) ?_
    exact hJ22 (0 : Int32) ls (lv_sub hl [0, 1, 2] rfl) hF
  · replace hF := (if_pos c1).symm.trans hF
    refine lv_aload_n hx hb dX3_upTenths_10 rfl (lv_at hl 0 rfl) ?_
    refine gf_X3_21 hx hb hts hown hK hP h3 dX3_upTenths_11 ?_
    refine lv_iload_n hx hb dX3_upTenths_14 rfl (lv_at hl 1 rfl) ?_
    refine rd_i (runSN (As := [.ref (a 7), .int p1]) (rest := []) X cq_X8_at lk_X3_74 (t_X8_at l D cI cJ cZ a ws0 7 ro_tenths 12 p1 _ rfl h7 (by decide)) rfl rfl ⟨Nat.le_of_ble_eq_true rfl, Nat.le_of_ble_eq_true rfl⟩ hP rfl hl.1 rfl (Nat.le_of_ble_eq_true rfl) dX3_upTenths_15 ⟨Nat.le_of_ble_eq_true rfl, Nat.le_of_ble_eq_true rfl⟩) ?_
    refine lv_goto (tgt := 22) hx hb dX3_upTenths_18 (by decide) ?_
    exact hJ22 (gat ro_tenths 12 p1) ls (lv_sub hl [0, 1, 2] rfl) hF
def FX8_up (ro_pupils : Int32) (ro_mood : Int32) (ro_letters : Nat → Int32) (ro_tenths : Nat → Int32) (ro_needs : Nat → Int32) (le_dares : Nat → Int32) (p1 : Int32) (p2 : Int32) : Int32 :=
  if (FX3_lacks ro_pupils p1) = true then ((-1 : Int32)) else (if (FX8_noSeconds p2) = true then ((-2 : Int32)) else (FX3_upTenths ro_mood ro_letters ro_needs le_dares ro_tenths p1 p2))
def rm_X8_up : Room := { frames := 4, cells := 0, slots := 0, locals := 91 }
set_option maxHeartbeats 4000000 in
set_option maxRecDepth 100000 in
theorem c_X8_up (l : Launch) (D : va_G) (cI cJ cZ : ClassId) (a : Nat → Nat) (ws0 : va_W)  (ro_pupils : Int32) (ro_mood : Int32) (ro_letters : Nat → Int32) (ro_tenths : Nat → Int32) (ro_needs : Nat → Int32) (le_seed : Int64) (le_questions : Int32) (le_rightOnes : Int32) (le_wrongOnes : Int32) (le_isKept : Int32) (le_dares : Nat → Int32) (p1 : Int32) (p2 : Int32) (u : Int32) (hF : FX8_up ro_pupils ro_mood ro_letters ro_tenths ro_needs le_dares p1 p2 = u) (h0 : ws0[0]? = some (a 0, .inr (8, [.ref (a 1), .ref (a 3), .ref (a 13), .ref (a 16), .ref (a 22), .ref (a 25), .ref (a 28), .ref (a 33)]))) (h3 : ws0[3]? = some (a 3, .inr (3, [.ref (a 4), .ref (a 5), .ref (a 6), .ref (a 7), .ref (a 8), .ref (a 9), .ref (a 10), .int ro_pupils, .int ro_mood]))) (h4 : ws0[4]? = some (a 4, .inl (cI, 12, .inl ro_letters))) (h7 : ws0[7]? = some (a 7, .inl (cI, 12, .inl ro_tenths))) (h8 : ws0[8]? = some (a 8, .inl (cI, 12, .inl ro_needs))) (h10 : ws0[10]? = some (a 10, .inr (2, [.ref (a 11), .ref (a 12), .long le_seed, .int le_questions, .int le_rightOnes, .int le_wrongOnes, .int le_isKept]))) (h11 : ws0[11]? = some (a 11, .inl (cI, 12, .inl le_dares))) : Met l yX8_up (wq yX8_up cX8_up 3 (some .int)) rm_X8_up (Pq [.ref (a 0), .int p1, .int p2] D cI cJ cZ ws0) (Qq (some (.int u))) 0 0 (fun _ => False) := by
  refine mq_of (by decide) (Nat.le_of_ble_eq_true rfl) (fun p e s m args below meth c ls Q hQ X _ hP hl => ?_)
  obtain ⟨hx, hb, hr, hml, hown, hts, hlk, hK, hN⟩ := id X
  have hown : s.vm.findClass RX8 = some m.cls := hown
  have hl : lv_has ls 3 [(0, .ref (a 0)), (1, .int p1), (2, .int p2)] := hl
  unfold FX8_up at hF
  refine lv_aload_n hx hb dX8_up_0 rfl (lv_at hl 0 rfl) ?_
  refine gf_X8_19 hx hb hts hown hK hP h0 dX8_up_1 ?_
  refine lv_iload_n hx hb dX8_up_4 rfl (lv_at hl 1 rfl) ?_
  refine rd_i (runVN (As := [.int p1]) (rest := []) X cq_X3_lacks lk_X8_88 (c_X3_lacks l D cI cJ cZ a ws0 ro_pupils ro_mood p1 _ rfl h3) rfl rfl ⟨Nat.le_of_ble_eq_true rfl, Nat.le_of_ble_eq_true rfl⟩ hP h3 rfl rfl hl.1 rfl (Nat.le_of_ble_eq_true rfl) dX8_up_5 ⟨Nat.le_of_ble_eq_true rfl, Nat.le_of_ble_eq_true rfl⟩) ?_
  refine zf_eq (tgt := 13) hx hb dX8_up_8 (by decide) (fun c1 => ?_) (fun c1 => ?_)
  · replace hF := (if_neg c1).symm.trans hF
    refine lv_iload_n hx hb dX8_up_13 rfl (lv_at hl 2 rfl) ?_
    refine rd_i (runS (As := [.int p2]) (rest := []) X cq_X8_noSeconds lk_X8_99 (c_X8_noSeconds l D cI cJ cZ a ws0 p2 _ rfl ) rfl rfl ⟨Nat.le_of_ble_eq_true rfl, Nat.le_of_ble_eq_true rfl⟩ hP rfl hl.1 rfl (Nat.le_of_ble_eq_true rfl) dX8_up_14 ⟨Nat.le_of_ble_eq_true rfl, Nat.le_of_ble_eq_true rfl⟩) ?_
    refine zf_eq (tgt := 25) hx hb dX8_up_17 (by decide) (fun c2 => ?_) (fun c2 => ?_)
    · replace hF := (if_neg c2).symm.trans hF
      refine lv_aload_n hx hb dX8_up_25 rfl (lv_at hl 0 rfl) ?_
      refine gf_X8_19 hx hb hts hown hK hP h0 dX8_up_26 ?_
      refine lv_iload_n hx hb dX8_up_29 rfl (lv_at hl 1 rfl) ?_
      refine lv_iload_n hx hb dX8_up_30 rfl (lv_at hl 2 rfl) ?_
      refine rd_i (runVN (As := [.int p1, .int p2]) (rest := []) X cq_X3_upTenths lk_X8_102 (c_X3_upTenths l D cI cJ cZ a ws0 ro_pupils ro_mood ro_letters ro_needs le_seed le_questions le_rightOnes le_wrongOnes le_isKept le_dares ro_tenths p1 p2 _ rfl h3 h4 h7 h8 h10 h11) rfl rfl ⟨Nat.le_of_ble_eq_true rfl, Nat.le_of_ble_eq_true rfl⟩ hP h3 rfl rfl hl.1 rfl (Nat.le_of_ble_eq_true rfl) dX8_up_31 ⟨Nat.le_of_ble_eq_true rfl, Nat.le_of_ble_eq_true rfl⟩) ?_
      subst hF
      rw [hQ]
      exact rt_i X dX8_up_34
    · replace hF := (if_pos c2).symm.trans hF
      refine lv_bipush (v := (-2 : Int32)) hx hb dX8_up_20 (by decide) ?_
      refine lv_goto (tgt := 34) hx hb dX8_up_22 (by decide) ?_
      subst hF
      rw [hQ]
      exact rt_i X dX8_up_34
  · replace hF := (if_pos c1).symm.trans hF
    refine lv_iconst (v := (-1 : Int32)) hx hb dX8_up_11 (by decide) ?_
    subst hF
    rw [hQ]
    exact rt_i X dX8_up_12
def FX3_allUpTenths_S4 (ro_pupils : Int32) (ro_mood : Int32) (ro_letters : Nat → Int32) (ro_tenths : Nat → Int32) (ro_needs : Nat → Int32) (le_dares : Nat → Int32) (p1 : Int32) (x1 : Int32) (x2 : Int32) : Option ((Int32 × Int32) ⊕ (Int32)) :=
  if ro_pupils ≤ x2 then (some (.inr x1)) else (nmb (x1 + (FX3_upTenths ro_mood ro_letters ro_needs le_dares ro_tenths x2 p1)) fun y4 => some (.inl (y4, x2 + (1 : Int32))))
def FX3_allUpTenths (ro_pupils : Int32) (ro_mood : Int32) (ro_letters : Nat → Int32) (ro_tenths : Nat → Int32) (ro_needs : Nat → Int32) (le_dares : Nat → Int32) (p1 : Int32) : Option (Int32) :=
  (itr (fun v => FX3_allUpTenths_S4 ro_pupils ro_mood ro_letters ro_tenths ro_needs le_dares p1 v.1 v.2) fu ((0 : Int32), (0 : Int32))).bind fun o5 => some o5
def rm_X3_allUpTenths : Room := { frames := 4, cells := 0, slots := 0, locals := 91 }
set_option maxHeartbeats 4000000 in
set_option maxRecDepth 100000 in
theorem c_X3_allUpTenths (l : Launch) (D : va_G) (cI cJ cZ : ClassId) (a : Nat → Nat) (ws0 : va_W)  (ro_pupils : Int32) (ro_mood : Int32) (ro_letters : Nat → Int32) (ro_tenths : Nat → Int32) (ro_needs : Nat → Int32) (le_seed : Int64) (le_questions : Int32) (le_rightOnes : Int32) (le_wrongOnes : Int32) (le_isKept : Int32) (le_dares : Nat → Int32) (p1 : Int32) (u : Int32) (hF : FX3_allUpTenths ro_pupils ro_mood ro_letters ro_tenths ro_needs le_dares p1 = some u) (h3 : ws0[3]? = some (a 3, .inr (3, [.ref (a 4), .ref (a 5), .ref (a 6), .ref (a 7), .ref (a 8), .ref (a 9), .ref (a 10), .int ro_pupils, .int ro_mood]))) (h4 : ws0[4]? = some (a 4, .inl (cI, 12, .inl ro_letters))) (h7 : ws0[7]? = some (a 7, .inl (cI, 12, .inl ro_tenths))) (h8 : ws0[8]? = some (a 8, .inl (cI, 12, .inl ro_needs))) (h10 : ws0[10]? = some (a 10, .inr (2, [.ref (a 11), .ref (a 12), .long le_seed, .int le_questions, .int le_rightOnes, .int le_wrongOnes, .int le_isKept]))) (h11 : ws0[11]? = some (a 11, .inl (cI, 12, .inl le_dares))) : Met l yX3_allUpTenths (wq yX3_allUpTenths cX3_allUpTenths 4 (some .int)) rm_X3_allUpTenths (Pq [.ref (a 3), .int p1] D cI cJ cZ ws0) (Qq (some (.int u))) 0 0 (fun _ => False) := by
  refine mq_of (by decide) (Nat.le_of_ble_eq_true rfl) (fun p e s m args below meth c ls Q hQ X _ hP hl => ?_)
  obtain ⟨hx, hb, hr, hml, hown, hts, hlk, hK, hN⟩ := id X
  have hown : s.vm.findClass RX3 = some m.cls := hown
  have hl : lv_has ls 4 [(0, .ref (a 3)), (1, .int p1)] := hl
  unfold FX3_allUpTenths at hF
  refine lv_iconst (v := (0 : Int32)) hx hb dX3_allUpTenths_0 (by decide) ?_
  refine lv_istore_n (lv' := [(2, .int (0 : Int32)), (0, .ref (a 3)), (1, .int p1)]) hx hb dX3_allUpTenths_1 rfl hl (by decide) rfl (fun ls hl => ?_)
  refine lv_iconst (v := (0 : Int32)) hx hb dX3_allUpTenths_2 (by decide) ?_
  refine lv_istore_n (lv' := [(3, .int (0 : Int32)), (2, .int (0 : Int32)), (0, .ref (a 3)), (1, .int p1)]) hx hb dX3_allUpTenths_3 rfl hl (by decide) rfl (fun ls hl => ?_)
  have hL4 : ∀ (nf : Nat) (x1 : Int32) (x2 : Int32) (r : Int32), itr (fun v => FX3_allUpTenths_S4 ro_pupils ro_mood ro_letters ro_tenths ro_needs le_dares p1 v.1 v.2) nf (x1, x2) = some r → ∀ ls, lv_has ls 4 [(3, .int x2), (2, .int x1), (0, .ref (a 3)), (1, .int p1)] → (∀ o : Int32, r = o → ∀ ls, lv_has ls 4 [(2, .int o)] → W p l e rm_X3_allUpTenths s m args below meth c s.heap [] 0 0 Q (F0 m 27 ls [])) → W p l e rm_X3_allUpTenths s m args below meth c s.heap [] 0 0 Q (F0 m 4 ls []) := by
    intro nf
    induction nf with
    | zero => intro _ _ r hF; exact (itr_0 hF).elim
    | succ nf ih =>
      intro x1 x2 r hF ls hl hE
      obtain ⟨wo, hF, hw⟩ := itr_s hF
      replace hF : FX3_allUpTenths_S4 ro_pupils ro_mood ro_letters ro_tenths ro_needs le_dares p1 x1 x2 = some wo := hF
      unfold FX3_allUpTenths_S4 at hF
      refine lv_iload_n hx hb dX3_allUpTenths_4 rfl (lv_at hl 0 rfl) ?_
      refine lv_aload_n hx hb dX3_allUpTenths_5 rfl (lv_at hl 2 rfl) ?_
      refine gf_X3_46 hx hb hts hown hK hP h3 dX3_allUpTenths_6 ?_
      refine lv_icmp_ge (tgt := 27) hx hb dX3_allUpTenths_9 (by decide) (fun c3 => ?_) (fun c3 => ?_)
      · replace hF := (if_pos c3).symm.trans hF
        obtain rfl := Option.some.inj hF
        obtain rfl := hw
        exact hE _ rfl ls (lv_sub hl [1] rfl)
      · replace hF := (if_neg c3).symm.trans hF
        refine lv_iload_n hx hb dX3_allUpTenths_12 rfl (lv_at hl 1 rfl) ?_
        refine lv_aload_n hx hb dX3_allUpTenths_13 rfl (lv_at hl 2 rfl) ?_
        refine lv_iload_n hx hb dX3_allUpTenths_14 rfl (lv_at hl 0 rfl) ?_
        refine lv_iload_n hx hb dX3_allUpTenths_15 rfl (lv_at hl 3 rfl) ?_
        refine rd_i (runV (As := [.int x2, .int p1]) (rest := [.int x1]) X cq_X3_upTenths lk_X3_92 (c_X3_upTenths l D cI cJ cZ a ws0 ro_pupils ro_mood ro_letters ro_needs le_seed le_questions le_rightOnes le_wrongOnes le_isKept le_dares ro_tenths x2 p1 _ rfl h3 h4 h7 h8 h10 h11) rfl rfl ⟨Nat.le_of_ble_eq_true rfl, Nat.le_of_ble_eq_true rfl⟩ hP h3 rfl rfl hl.1 rfl (Nat.le_of_ble_eq_true rfl) dX3_allUpTenths_16 ⟨Nat.le_of_ble_eq_true rfl, Nat.le_of_ble_eq_true rfl⟩) ?_
        refine lv_iadd hx hb dX3_allUpTenths_19 ?_
        refine lv_topi (fun y4 e_y4 => ?_)
        replace hF := nm_at hF e_y4
        refine lv_istore_n (lv' := [(2, .int y4), (3, .int x2), (0, .ref (a 3)), (1, .int p1)]) hx hb dX3_allUpTenths_20 rfl hl (by decide) rfl (fun ls hl => ?_)
        refine lv_iinc (v := x2 + (1 : Int32)) (lv' := [(3, .int (x2 + (1 : Int32))), (2, .int y4), (0, .ref (a 3)), (1, .int p1)]) hx hb dX3_allUpTenths_21 hl (k := 1) rfl rfl (by decide) rfl (fun ls hl => ?_)
        refine lv_goto (tgt := 4) hx hb dX3_allUpTenths_24 (by decide) ?_
        obtain rfl := Option.some.inj hF
        exact ih _ _ _ hw ls (lv_sub hl [0, 1, 2, 3] rfl) hE
  obtain ⟨o5, ho5, hF⟩ := bd_some hF
  refine hL4 fu (0 : Int32) (0 : Int32) o5 ho5 ls (lv_sub hl [0, 1, 2, 3] rfl) ?_
  intro _ q_o5 ls hl
  subst q_o5
  refine lv_iload_n hx hb dX3_allUpTenths_27 rfl (lv_at hl 0 rfl) ?_
  obtain rfl := Option.some.inj hF
  rw [hQ]
  exact rt_i X dX3_allUpTenths_28
def FX8_mean (ro_pupils : Int32) (ro_mood : Int32) (ro_letters : Nat → Int32) (ro_tenths : Nat → Int32) (ro_needs : Nat → Int32) (le_dares : Nat → Int32) (p1 : Int32) : Option (Int32) :=
  if (FX8_noSeconds p1) = true then (some (-2 : Int32)) else ((FX3_allUpTenths ro_pupils ro_mood ro_letters ro_tenths ro_needs le_dares p1).bind fun x2 => some x2)
def rm_X8_mean : Room := { frames := 5, cells := 0, slots := 0, locals := 114 }
set_option maxHeartbeats 4000000 in
set_option maxRecDepth 100000 in
theorem c_X8_mean (l : Launch) (D : va_G) (cI cJ cZ : ClassId) (a : Nat → Nat) (ws0 : va_W)  (ro_pupils : Int32) (ro_mood : Int32) (ro_letters : Nat → Int32) (ro_tenths : Nat → Int32) (ro_needs : Nat → Int32) (le_seed : Int64) (le_questions : Int32) (le_rightOnes : Int32) (le_wrongOnes : Int32) (le_isKept : Int32) (le_dares : Nat → Int32) (p1 : Int32) (u : Int32) (hF : FX8_mean ro_pupils ro_mood ro_letters ro_tenths ro_needs le_dares p1 = some u) (h0 : ws0[0]? = some (a 0, .inr (8, [.ref (a 1), .ref (a 3), .ref (a 13), .ref (a 16), .ref (a 22), .ref (a 25), .ref (a 28), .ref (a 33)]))) (h3 : ws0[3]? = some (a 3, .inr (3, [.ref (a 4), .ref (a 5), .ref (a 6), .ref (a 7), .ref (a 8), .ref (a 9), .ref (a 10), .int ro_pupils, .int ro_mood]))) (h4 : ws0[4]? = some (a 4, .inl (cI, 12, .inl ro_letters))) (h7 : ws0[7]? = some (a 7, .inl (cI, 12, .inl ro_tenths))) (h8 : ws0[8]? = some (a 8, .inl (cI, 12, .inl ro_needs))) (h10 : ws0[10]? = some (a 10, .inr (2, [.ref (a 11), .ref (a 12), .long le_seed, .int le_questions, .int le_rightOnes, .int le_wrongOnes, .int le_isKept]))) (h11 : ws0[11]? = some (a 11, .inl (cI, 12, .inl le_dares))) : Met l yX8_mean (wq yX8_mean cX8_mean 2 (some .int)) rm_X8_mean (Pq [.ref (a 0), .int p1] D cI cJ cZ ws0) (Qq (some (.int u))) 0 0 (fun _ => False) := by
  refine mq_of (by decide) (Nat.le_of_ble_eq_true rfl) (fun p e s m args below meth c ls Q hQ X _ hP hl => ?_)
  obtain ⟨hx, hb, hr, hml, hown, hts, hlk, hK, hN⟩ := id X
  have hown : s.vm.findClass RX8 = some m.cls := hown
  have hl : lv_has ls 2 [(0, .ref (a 0)), (1, .int p1)] := hl
  unfold FX8_mean at hF
  refine lv_iload_n hx hb dX8_mean_0 rfl (lv_at hl 1 rfl) ?_
  refine rd_i (runS (As := [.int p1]) (rest := []) X cq_X8_noSeconds lk_X8_99 (c_X8_noSeconds l D cI cJ cZ a ws0 p1 _ rfl ) rfl rfl ⟨Nat.le_of_ble_eq_true rfl, Nat.le_of_ble_eq_true rfl⟩ hP rfl hl.1 rfl (Nat.le_of_ble_eq_true rfl) dX8_mean_1 ⟨Nat.le_of_ble_eq_true rfl, Nat.le_of_ble_eq_true rfl⟩) ?_
  refine zf_eq (tgt := 12) hx hb dX8_mean_4 (by decide) (fun c1 => ?_) (fun c1 => ?_)
  · replace hF := (if_neg c1).symm.trans hF
    refine lv_aload_n hx hb dX8_mean_12 rfl (lv_at hl 0 rfl) ?_
    refine gf_X8_19 hx hb hts hown hK hP h0 dX8_mean_13 ?_
    refine lv_iload_n hx hb dX8_mean_16 rfl (lv_at hl 1 rfl) ?_
    obtain ⟨x2, hx2, hF⟩ := bd_some hF
    refine rd_i (runVN (As := [.int p1]) (rest := []) X cq_X3_allUpTenths lk_X8_105 (c_X3_allUpTenths l D cI cJ cZ a ws0 ro_pupils ro_mood ro_letters ro_tenths ro_needs le_seed le_questions le_rightOnes le_wrongOnes le_isKept le_dares p1 x2 hx2 h3 h4 h7 h8 h10 h11) rfl rfl ⟨Nat.le_of_ble_eq_true rfl, Nat.le_of_ble_eq_true rfl⟩ hP h3 rfl rfl hl.1 rfl (Nat.le_of_ble_eq_true rfl) dX8_mean_17 ⟨Nat.le_of_ble_eq_true rfl, Nat.le_of_ble_eq_true rfl⟩) ?_
    obtain rfl := Option.some.inj hF
    rw [hQ]
    exact rt_i X dX8_mean_20
  · replace hF := (if_pos c1).symm.trans hF
    refine lv_bipush (v := (-2 : Int32)) hx hb dX8_mean_7 (by decide) ?_
    refine lv_goto (tgt := 20) hx hb dX8_mean_9 (by decide) ?_
    obtain rfl := Option.some.inj hF
    rw [hQ]
    exact rt_i X dX8_mean_20
def FX3_allSilentTenths_J35L4 (x5 : Int32) (x6 : Int32) (x7 : Int32) : Option ((Int32 × Int32) ⊕ (Int32)) :=
  some (.inl (x6 + x7, x5 + (1 : Int32)))
def FX3_allSilentTenths_S4 (ro_pupils : Int32) (ro_mood : Int32) (ro_letters : Nat → Int32) (ro_needs : Nat → Int32) (le_dares : Nat → Int32) (ro_tenths : Nat → Int32) (p1 : Int32) (x1 : Int32) (x2 : Int32) : Option ((Int32 × Int32) ⊕ (Int32)) :=
  if ro_pupils ≤ x2 then (some (.inr x1)) else (if (FX3_isUp ro_mood le_dares ro_letters ro_needs x2 (1 : Int32) p1) = true then (FX3_allSilentTenths_J35L4 x2 x1 (0 : Int32)) else (FX3_allSilentTenths_J35L4 x2 x1 (gat ro_tenths 12 x2)))
def FX3_allSilentTenths (ro_pupils : Int32) (ro_mood : Int32) (ro_letters : Nat → Int32) (ro_needs : Nat → Int32) (le_dares : Nat → Int32) (ro_tenths : Nat → Int32) (p1 : Int32) : Option (Int32) :=
  (itr (fun v => FX3_allSilentTenths_S4 ro_pupils ro_mood ro_letters ro_needs le_dares ro_tenths p1 v.1 v.2) fu ((0 : Int32), (0 : Int32))).bind fun o8 => some o8
def rm_X3_allSilentTenths : Room := { frames := 3, cells := 0, slots := 0, locals := 67 }
set_option maxHeartbeats 4000000 in
set_option maxRecDepth 100000 in
theorem c_X3_allSilentTenths (l : Launch) (D : va_G) (cI cJ cZ : ClassId) (a : Nat → Nat) (ws0 : va_W)  (ro_pupils : Int32) (ro_mood : Int32) (ro_letters : Nat → Int32) (ro_needs : Nat → Int32) (le_seed : Int64) (le_questions : Int32) (le_rightOnes : Int32) (le_wrongOnes : Int32) (le_isKept : Int32) (le_dares : Nat → Int32) (ro_tenths : Nat → Int32) (p1 : Int32) (u : Int32) (hF : FX3_allSilentTenths ro_pupils ro_mood ro_letters ro_needs le_dares ro_tenths p1 = some u) (h3 : ws0[3]? = some (a 3, .inr (3, [.ref (a 4), .ref (a 5), .ref (a 6), .ref (a 7), .ref (a 8), .ref (a 9), .ref (a 10), .int ro_pupils, .int ro_mood]))) (h4 : ws0[4]? = some (a 4, .inl (cI, 12, .inl ro_letters))) (h7 : ws0[7]? = some (a 7, .inl (cI, 12, .inl ro_tenths))) (h8 : ws0[8]? = some (a 8, .inl (cI, 12, .inl ro_needs))) (h10 : ws0[10]? = some (a 10, .inr (2, [.ref (a 11), .ref (a 12), .long le_seed, .int le_questions, .int le_rightOnes, .int le_wrongOnes, .int le_isKept]))) (h11 : ws0[11]? = some (a 11, .inl (cI, 12, .inl le_dares))) : Met l yX3_allSilentTenths (wq yX3_allSilentTenths cX3_allSilentTenths 4 (some .int)) rm_X3_allSilentTenths (Pq [.ref (a 3), .int p1] D cI cJ cZ ws0) (Qq (some (.int u))) 0 0 (fun _ => False) := by
  refine mq_of (by decide) (Nat.le_of_ble_eq_true rfl) (fun p e s m args below meth c ls Q hQ X _ hP hl => ?_)
  obtain ⟨hx, hb, hr, hml, hown, hts, hlk, hK, hN⟩ := id X
  have hown : s.vm.findClass RX3 = some m.cls := hown
  have hl : lv_has ls 4 [(0, .ref (a 3)), (1, .int p1)] := hl
  unfold FX3_allSilentTenths at hF
  refine lv_iconst (v := (0 : Int32)) hx hb dX3_allSilentTenths_0 (by decide) ?_
  refine lv_istore_n (lv' := [(2, .int (0 : Int32)), (0, .ref (a 3)), (1, .int p1)]) hx hb dX3_allSilentTenths_1 rfl hl (by decide) rfl (fun ls hl => ?_)
  refine lv_iconst (v := (0 : Int32)) hx hb dX3_allSilentTenths_2 (by decide) ?_
  refine lv_istore_n (lv' := [(3, .int (0 : Int32)), (2, .int (0 : Int32)), (0, .ref (a 3)), (1, .int p1)]) hx hb dX3_allSilentTenths_3 rfl hl (by decide) rfl (fun ls hl => ?_)
  have hL4 : ∀ (nf : Nat) (x1 : Int32) (x2 : Int32) (r : Int32), itr (fun v => FX3_allSilentTenths_S4 ro_pupils ro_mood ro_letters ro_needs le_dares ro_tenths p1 v.1 v.2) nf (x1, x2) = some r → ∀ ls, lv_has ls 4 [(3, .int x2), (2, .int x1), (0, .ref (a 3)), (1, .int p1)] → (∀ o : Int32, r = o → ∀ ls, lv_has ls 4 [(2, .int o)] → W p l e rm_X3_allSilentTenths s m args below meth c s.heap [] 0 0 Q (F0 m 43 ls [])) → W p l e rm_X3_allSilentTenths s m args below meth c s.heap [] 0 0 Q (F0 m 4 ls []) := by
    intro nf
    induction nf with
    | zero => intro _ _ r hF; exact (itr_0 hF).elim
    | succ nf ih =>
      intro x1 x2 r hF ls hl hE
      obtain ⟨wo, hF, hw⟩ := itr_s hF
      replace hF : FX3_allSilentTenths_S4 ro_pupils ro_mood ro_letters ro_needs le_dares ro_tenths p1 x1 x2 = some wo := hF
      have hJ35 : ∀ (x5 : Int32) (x6 : Int32) (x7 : Int32), ∀ ls, lv_has ls 4 [(3, .int x5), (0, .ref (a 3)), (1, .int p1)] → FX3_allSilentTenths_J35L4 x5 x6 x7 = some wo → W p l e rm_X3_allSilentTenths s m args below meth c s.heap [] 0 0 Q (F0 m 35 ls [.int x7, .int x6]) := by
        intro x5 x6 x7 ls hl hF
        unfold FX3_allSilentTenths_J35L4 at hF
        refine lv_iadd hx hb dX3_allSilentTenths_35 ?_
        refine lv_istore_n (lv' := [(2, .int (x6 + x7)), (3, .int x5), (0, .ref (a 3)), (1, .int p1)]) hx hb dX3_allSilentTenths_36 rfl hl (by decide) rfl (fun ls hl => ?_)
        refine lv_iinc (v := x5 + (1 : Int32)) (lv' := [(3, .int (x5 + (1 : Int32))), (2, .int (x6 + x7)), (0, .ref (a 3)), (1, .int p1)]) hx hb dX3_allSilentTenths_37 hl (k := 1) rfl rfl (by decide) rfl (fun ls hl => ?_)
        refine lv_goto (tgt := 4) hx hb dX3_allSilentTenths_40 (by decide) ?_
        obtain rfl := Option.some.inj hF
        exact ih _ _ _ hw ls (lv_sub hl [0, 1, 2, 3] rfl) hE
      unfold FX3_allSilentTenths_S4 at hF
      refine lv_iload_n hx hb dX3_allSilentTenths_4 rfl (lv_at hl 0 rfl) ?_
      refine lv_aload_n hx hb dX3_allSilentTenths_5 rfl (lv_at hl 2 rfl) ?_
      refine gf_X3_46 hx hb hts hown hK hP h3 dX3_allSilentTenths_6 ?_
      refine lv_icmp_ge (tgt := 43) hx hb dX3_allSilentTenths_9 (by decide) (fun c3 => ?_) (fun c3 => ?_)
      · replace hF := (if_pos c3).symm.trans hF
        obtain rfl := Option.some.inj hF
        obtain rfl := hw
        exact hE _ rfl ls (lv_sub hl [1] rfl)
      · replace hF := (if_neg c3).symm.trans hF
        refine lv_iload_n hx hb dX3_allSilentTenths_12 rfl (lv_at hl 1 rfl) ?_
        refine lv_aload_n hx hb dX3_allSilentTenths_13 rfl (lv_at hl 2 rfl) ?_
        refine lv_iload_n hx hb dX3_allSilentTenths_14 rfl (lv_at hl 0 rfl) ?_
        refine lv_iconst (v := (1 : Int32)) hx hb dX3_allSilentTenths_15 (by decide) ?_
        refine lv_iload_n hx hb dX3_allSilentTenths_16 rfl (lv_at hl 3 rfl) ?_
        refine rd_i (runV (As := [.int x2, .int (1 : Int32), .int p1]) (rest := [.int x1]) X cq_X3_isUp lk_X3_89 (c_X3_isUp l D cI cJ cZ a ws0 ro_pupils ro_mood le_seed le_questions le_rightOnes le_wrongOnes le_isKept le_dares ro_letters ro_needs x2 (1 : Int32) p1 _ rfl h3 h4 h8 h10 h11) rfl rfl ⟨Nat.le_of_ble_eq_true rfl, Nat.le_of_ble_eq_true rfl⟩ hP h3 rfl rfl hl.1 rfl (Nat.le_of_ble_eq_true rfl) dX3_allSilentTenths_17 ⟨Nat.le_of_ble_eq_true rfl, Nat.le_of_ble_eq_true rfl⟩) ?_
        refine zf_eq (tgt := 27) hx hb dX3_allSilentTenths_20 (by decide) (fun c4 => ?_) (fun c4 => ?_)
        · replace hF := (if_neg c4).symm.trans hF
          refine lv_aload_n hx hb dX3_allSilentTenths_27 rfl (lv_at hl 2 rfl) ?_
          refine gf_X3_21 hx hb hts hown hK hP h3 dX3_allSilentTenths_28 ?_
          refine lv_iload_n hx hb dX3_allSilentTenths_31 rfl (lv_at hl 0 rfl) ?_
          refine rd_i (runSN (As := [.ref (a 7), .int x2]) (rest := [.int x1]) X cq_X8_at lk_X3_74 (t_X8_at l D cI cJ cZ a ws0 7 ro_tenths 12 x2 _ rfl h7 (by decide)) rfl rfl ⟨Nat.le_of_ble_eq_true rfl, Nat.le_of_ble_eq_true rfl⟩ hP rfl hl.1 rfl (Nat.le_of_ble_eq_true rfl) dX3_allSilentTenths_32 ⟨Nat.le_of_ble_eq_true rfl, Nat.le_of_ble_eq_true rfl⟩) ?_
          exact hJ35 x2 x1 (gat ro_tenths 12 x2) ls (lv_sub hl [0, 2, 3] rfl) hF
        · replace hF := (if_pos c4).symm.trans hF
          refine lv_iconst (v := (0 : Int32)) hx hb dX3_allSilentTenths_23 (by decide) ?_
          refine lv_goto (tgt := 35) hx hb dX3_allSilentTenths_24 (by decide) ?_
          exact hJ35 x2 x1 (0 : Int32) ls (lv_sub hl [0, 2, 3] rfl) hF
  obtain ⟨o8, ho8, hF⟩ := bd_some hF
  refine hL4 fu (0 : Int32) (0 : Int32) o8 ho8 ls (lv_sub hl [0, 1, 2, 3] rfl) ?_
  intro _ q_o8 ls hl
  subst q_o8
  refine lv_iload_n hx hb dX3_allSilentTenths_43 rfl (lv_at hl 0 rfl) ?_
  obtain rfl := Option.some.inj hF
  rw [hQ]
  exact rt_i X dX3_allSilentTenths_44
def FX8_quiet (ro_pupils : Int32) (ro_mood : Int32) (ro_letters : Nat → Int32) (ro_tenths : Nat → Int32) (ro_needs : Nat → Int32) (le_dares : Nat → Int32) (p1 : Int32) : Option (Int32) :=
  if (FX8_noSeconds p1) = true then (some (-2 : Int32)) else ((FX3_allSilentTenths ro_pupils ro_mood ro_letters ro_needs le_dares ro_tenths p1).bind fun x2 => some x2)
def rm_X8_quiet : Room := { frames := 4, cells := 0, slots := 0, locals := 90 }
set_option maxHeartbeats 4000000 in
set_option maxRecDepth 100000 in
theorem c_X8_quiet (l : Launch) (D : va_G) (cI cJ cZ : ClassId) (a : Nat → Nat) (ws0 : va_W)  (ro_pupils : Int32) (ro_mood : Int32) (ro_letters : Nat → Int32) (ro_tenths : Nat → Int32) (ro_needs : Nat → Int32) (le_seed : Int64) (le_questions : Int32) (le_rightOnes : Int32) (le_wrongOnes : Int32) (le_isKept : Int32) (le_dares : Nat → Int32) (p1 : Int32) (u : Int32) (hF : FX8_quiet ro_pupils ro_mood ro_letters ro_tenths ro_needs le_dares p1 = some u) (h0 : ws0[0]? = some (a 0, .inr (8, [.ref (a 1), .ref (a 3), .ref (a 13), .ref (a 16), .ref (a 22), .ref (a 25), .ref (a 28), .ref (a 33)]))) (h3 : ws0[3]? = some (a 3, .inr (3, [.ref (a 4), .ref (a 5), .ref (a 6), .ref (a 7), .ref (a 8), .ref (a 9), .ref (a 10), .int ro_pupils, .int ro_mood]))) (h4 : ws0[4]? = some (a 4, .inl (cI, 12, .inl ro_letters))) (h7 : ws0[7]? = some (a 7, .inl (cI, 12, .inl ro_tenths))) (h8 : ws0[8]? = some (a 8, .inl (cI, 12, .inl ro_needs))) (h10 : ws0[10]? = some (a 10, .inr (2, [.ref (a 11), .ref (a 12), .long le_seed, .int le_questions, .int le_rightOnes, .int le_wrongOnes, .int le_isKept]))) (h11 : ws0[11]? = some (a 11, .inl (cI, 12, .inl le_dares))) : Met l yX8_quiet (wq yX8_quiet cX8_quiet 2 (some .int)) rm_X8_quiet (Pq [.ref (a 0), .int p1] D cI cJ cZ ws0) (Qq (some (.int u))) 0 0 (fun _ => False) := by
  refine mq_of (by decide) (Nat.le_of_ble_eq_true rfl) (fun p e s m args below meth c ls Q hQ X _ hP hl => ?_)
  obtain ⟨hx, hb, hr, hml, hown, hts, hlk, hK, hN⟩ := id X
  have hown : s.vm.findClass RX8 = some m.cls := hown
  have hl : lv_has ls 2 [(0, .ref (a 0)), (1, .int p1)] := hl
  unfold FX8_quiet at hF
  refine lv_iload_n hx hb dX8_quiet_0 rfl (lv_at hl 1 rfl) ?_
  refine rd_i (runS (As := [.int p1]) (rest := []) X cq_X8_noSeconds lk_X8_99 (c_X8_noSeconds l D cI cJ cZ a ws0 p1 _ rfl ) rfl rfl ⟨Nat.le_of_ble_eq_true rfl, Nat.le_of_ble_eq_true rfl⟩ hP rfl hl.1 rfl (Nat.le_of_ble_eq_true rfl) dX8_quiet_1 ⟨Nat.le_of_ble_eq_true rfl, Nat.le_of_ble_eq_true rfl⟩) ?_
  refine zf_eq (tgt := 12) hx hb dX8_quiet_4 (by decide) (fun c1 => ?_) (fun c1 => ?_)
  · replace hF := (if_neg c1).symm.trans hF
    refine lv_aload_n hx hb dX8_quiet_12 rfl (lv_at hl 0 rfl) ?_
    refine gf_X8_19 hx hb hts hown hK hP h0 dX8_quiet_13 ?_
    refine lv_iload_n hx hb dX8_quiet_16 rfl (lv_at hl 1 rfl) ?_
    obtain ⟨x2, hx2, hF⟩ := bd_some hF
    refine rd_i (runVN (As := [.int p1]) (rest := []) X cq_X3_allSilentTenths lk_X8_109 (c_X3_allSilentTenths l D cI cJ cZ a ws0 ro_pupils ro_mood ro_letters ro_needs le_seed le_questions le_rightOnes le_wrongOnes le_isKept le_dares ro_tenths p1 x2 hx2 h3 h4 h7 h8 h10 h11) rfl rfl ⟨Nat.le_of_ble_eq_true rfl, Nat.le_of_ble_eq_true rfl⟩ hP h3 rfl rfl hl.1 rfl (Nat.le_of_ble_eq_true rfl) dX8_quiet_17 ⟨Nat.le_of_ble_eq_true rfl, Nat.le_of_ble_eq_true rfl⟩) ?_
    obtain rfl := Option.some.inj hF
    rw [hQ]
    exact rt_i X dX8_quiet_20
  · replace hF := (if_pos c1).symm.trans hF
    refine lv_bipush (v := (-2 : Int32)) hx hb dX8_quiet_7 (by decide) ?_
    refine lv_goto (tgt := 20) hx hb dX8_quiet_9 (by decide) ?_
    obtain rfl := Option.some.inj hF
    rw [hQ]
    exact rt_i X dX8_quiet_20
def FJ7_fill_d0a16_S6 (n : Nat) (p2 : Int64) (x1 : Int32) (x2 : Nat → Int64) : Option ((Int32 × (Nat → Int64)) ⊕ ((Nat → Int64))) :=
  if (nI n) ≤ x1 then (some (.inr x2)) else (if x1 < 0 ∨ n ≤ x1.toNatClampNeg then none else some (.inl (x1 + (1 : Int32), vp_updL x2 x1.toNatClampNeg p2)))
def FJ7_fill_d0a16 (p_f : Nat → Int64) (n : Nat) (p2 : Int64) : Option ((Nat → Int64)) :=
  (itr (fun v => FJ7_fill_d0a16_S6 n p2 v.1 v.2) fu ((0 : Int32), p_f)).bind fun o6 => some o6
def gfillL (f : Nat → Int64) (n : Nat) (v : Int64) : Nat → Int64 := fun j => if j < n then v else f j
theorem FJ7_fill_d0a16_eq (f : Nat → Int64) (n : Nat) (v : Int64) (hn : n < 3000) : FJ7_fill_d0a16 f n v = some (gfillL f n v) := by
  have h1 : ∀ k, k < n → FJ7_fill_d0a16_S6 n v (nI k) (gfillL f k v) = some (.inl (nI (k + 1), gfillL f (k + 1) v)) := fun k hk => by
    unfold FJ7_fill_d0a16_S6
    rw [if_neg (nI_ge hk (by omega)), if_neg (vp_in_nI hk (by omega)), nI_clamp (by omega), show (1 : Int32) = nI 1 from rfl, nI_add]
    have e : vp_updL (gfillL f k v) k v = gfillL f (k + 1) v := by
      funext j
      simp only [vp_updL, gfillL]
      by_cases h1 : j = k
      · rw [if_pos h1, if_pos (by omega)]
      · rw [if_neg h1]
        by_cases h2 : j < k
        · rw [if_pos h2, if_pos (by omega)]
        · rw [if_neg h2, if_neg (by omega)]
    rw [e]
  have h2 : FJ7_fill_d0a16_S6 n v (nI n) (gfillL f n v) = some (.inr (gfillL f n v)) := by
    unfold FJ7_fill_d0a16_S6
    rw [if_pos (nI_le (Nat.le_refl n) (by omega))]
  have h0 : ((0 : Int32), f) = (nI 0, gfillL f 0 v) := by
    have e : gfillL f 0 v = f := by funext j; simp [gfillL]
    rw [e, nI_0]
  have h : itr (fun w => FJ7_fill_d0a16_S6 n v w.1 w.2) fu ((0 : Int32), f) = some (gfillL f n v) := itr_cnt (g := fun k => (nI k, gfillL f k v)) (e := n) (fu_le hn) h0 h1 h2
  unfold FJ7_fill_d0a16
  rw [h]
  rfl
def rm_J7_fill_d0a16 : Room := { frames := 0, cells := 0, slots := 0, locals := 0 }
set_option maxHeartbeats 4000000 in
set_option maxRecDepth 100000 in
theorem c_J7_fill_d0a16 (l : Launch) (D : va_G) (cI cJ cZ : ClassId) (a : Nat → Nat) (ws0 : va_W) (A : Nat → Prop) (k : Nat) (p_f : Nat → Int64) (n : Nat) (p2 : Int64) (u : (Nat → Int64)) (hF : FJ7_fill_d0a16 p_f n p2 = some u) (z_k0 : ws0[k]? = some (a k, .inl (cJ, n, .inr (.inl p_f)))) (hD : va_D A ws0) : Met l yJ7_fill_d0a16 (wq yJ7_fill_d0a16 cJ7_fill_d0a16 5 none) rm_J7_fill_d0a16 (Pq [.ref (a k), .long p2] D cI cJ cZ ws0) (Qw D A ws0 [k] none (fun w => w[k]? = some (a k, .inl (cJ, n, .inr (.inl u))))) 0 0 A := by
  refine mq_of (by decide) (Nat.le_of_ble_eq_true rfl) (fun p e s m args below meth c ls Q hQ X _ hP hl => ?_)
  obtain ⟨hx, hb, hr, hml, hown, hts, hlk, hK, hN⟩ := id X
  have hown : s.vm.findClass RJ7 = some m.cls := hown
  have hl : lv_has ls 5 [(0, .ref (a k)), (1, .long p2)] := hl
  have hS : va_S A s.heap s.heap [] := va_S.rf
  have hs : ∀ j : Nat, j ∉ [k] → ws0[j]? = ws0[j]? := fun _ _ => rfl
  have h_k0 := z_k0
  unfold FJ7_fill_d0a16 at hF
  refine lv_iconst (v := (0 : Int32)) hx hb dJ7_fill_d0a16_0 (by decide) ?_
  refine lv_istore_n (lv' := [(3, .int (0 : Int32)), (0, .ref (a k)), (1, .long p2)]) hx hb dJ7_fill_d0a16_1 rfl hl (by decide) rfl (fun ls hl => ?_)
  refine lv_aload_n hx hb dJ7_fill_d0a16_2 rfl (lv_at hl 1 rfl) ?_
  refine va_alen (v := nI n) hx hb hK hP k 1 h_k0 rfl rfl dJ7_fill_d0a16_3 ?_
  refine lv_istore (lv' := [(4, .int (nI n)), (3, .int (0 : Int32)), (0, .ref (a k)), (1, .long p2)]) hx hb dJ7_fill_d0a16_4 hl (by decide) rfl (fun ls hl => ?_)
  have hL6 : ∀ (nf : Nat) (x1 : Int32) (x2 : Nat → Int64) (r : (Nat → Int64)), itr (fun v => FJ7_fill_d0a16_S6 n p2 v.1 v.2) nf (x1, x2) = some r → ∀ (wJ : va_W) (HJ : Heap) (lJ : List Loc), va_P D vwCl wJ HJ → va_D A wJ → va_S A s.heap HJ lJ → (∀ j : Nat, j ∉ [k] → wJ[j]? = ws0[j]?) → wJ[k]? = some (a k, .inl (cJ, n, .inr (.inl x2))) → ∀ ls, lv_has ls 5 [(4, .int (nI n)), (3, .int x1), (0, .ref (a k)), (1, .long p2)] → (∀ o : (Nat → Int64), r = o → ∀ (wK : va_W) (HK : Heap) (lK : List Loc), va_P D vwCl wK HK → va_D A wK → va_S A s.heap HK lK → (∀ j : Nat, j ∉ [k] → wK[j]? = ws0[j]?) → wK[k]? = some (a k, .inl (cJ, n, .inr (.inl o))) → ∀ ls, lv_has ls 5 [] → W p l e rm_J7_fill_d0a16 s m args below meth c HK lK 0 0 Q (F0 m 22 ls [])) → W p l e rm_J7_fill_d0a16 s m args below meth c HJ lJ 0 0 Q (F0 m 6 ls []) := by
    intro nf
    induction nf with
    | zero => intro _ _ r hF; exact (itr_0 hF).elim
    | succ nf ih =>
      intro x1 x2 r hF w H locs hP hD hS hs h_k0 ls hl hE
      obtain ⟨wo, hF, hw⟩ := itr_s hF
      replace hF : FJ7_fill_d0a16_S6 n p2 x1 x2 = some wo := hF
      unfold FJ7_fill_d0a16_S6 at hF
      refine lv_iload_n hx hb dJ7_fill_d0a16_6 rfl (lv_at hl 1 rfl) ?_
      refine lv_iload hx hb dJ7_fill_d0a16_7 (lv_at hl 0 rfl) ?_
      refine lv_icmp_ge (tgt := 22) hx hb dJ7_fill_d0a16_9 (by decide) (fun c3 => ?_) (fun c3 => ?_)
      · replace hF := (if_pos c3).symm.trans hF
        obtain rfl := Option.some.inj hF
        obtain rfl := hw
        exact hE _ rfl _ _ _ hP hD hS hs h_k0 ls (lv_sub hl [] rfl)
      · replace hF := (if_neg c3).symm.trans hF
        refine lv_aload_n hx hb dJ7_fill_d0a16_12 rfl (lv_at hl 2 rfl) ?_
        refine lv_iload_n hx hb dJ7_fill_d0a16_13 rfl (lv_at hl 1 rfl) ?_
        refine lv_lload_n hx hb dJ7_fill_d0a16_14 rfl (lv_at hl 3 rfl) ?_
        obtain ⟨hg4, hF⟩ := gd_some hF
        refine ast_l hx hb hK hP hD hS h_k0 hg4 dJ7_fill_d0a16_15 (fun w5 H locs hP hD hk hc hS => ?_)
        have h_k0 : w5[k]? = some (a k, .inl (cJ, n, .inr (.inl (vp_updL x2 x1.toNatClampNeg p2)))) := hc
        replace hs := sm_k hk (by simp) hs
        refine lv_iinc (v := x1 + (1 : Int32)) (lv' := [(3, .int (x1 + (1 : Int32))), (4, .int (nI n)), (0, .ref (a k)), (1, .long p2)]) hx hb dJ7_fill_d0a16_16 hl (k := 1) rfl rfl (by decide) rfl (fun ls hl => ?_)
        refine lv_goto (tgt := 6) hx hb dJ7_fill_d0a16_19 (by decide) ?_
        obtain rfl := Option.some.inj hF
        exact ih _ _ _ hw _ _ _ hP hD hS hs h_k0 ls (lv_sub hl [1, 0, 2, 3] rfl) hE
  obtain ⟨o6, ho6, hF⟩ := bd_some hF
  refine hL6 fu (0 : Int32) p_f o6 ho6 _ _ _ hP hD hS hs h_k0 ls (lv_sub hl [0, 1, 2, 3] rfl) ?_
  intro _ q_o6 w H locs hP hD hS hs h_k0 ls hl
  subst q_o6
  obtain rfl := Option.some.inj hF
  rw [hQ]
  exact rw_v X hS hP hD hs h_k0 dJ7_fill_d0a16_22
theorem t_J7_fill_d0a16 (l : Launch) (D : va_G) (cI cJ cZ : ClassId) (a : Nat → Nat) (ws0 : va_W) (A : Nat → Prop) (k : Nat) (p_f : Nat → Int64) (n : Nat) (p2 : Int64) (u : (Nat → Int64)) (hF : gfillL p_f n p2 = u) (z_k0 : ws0[k]? = some (a k, .inl (cJ, n, .inr (.inl p_f)))) (hD : va_D A ws0) (hq0 : n < 3000) : Met l yJ7_fill_d0a16 (wq yJ7_fill_d0a16 cJ7_fill_d0a16 5 none) rm_J7_fill_d0a16 (Pq [.ref (a k), .long p2] D cI cJ cZ ws0) (Qw D A ws0 [k] none (fun w => w[k]? = some (a k, .inl (cJ, n, .inr (.inl u))))) 0 0 A :=
  c_J7_fill_d0a16 l D cI cJ cZ a ws0 A k p_f n p2 u ((FJ7_fill_d0a16_eq p_f n p2 hq0).trans (congrArg some hF)) z_k0 hD
