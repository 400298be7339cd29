def FX7_together_S4 (tr_size : Int32) (tr_hands : Nat → Int32) (p1 : Int32) (x1 : Int32) (x2 : Int32) : Option ((Int32 × Int32) ⊕ (Int32)) :=
  if tr_size ≤ x2 then (some (.inr x1)) else (if (FX8_isIn p1 x2) = true then (some (.inl (x1 + (gat tr_hands 10 x2), x2 + (1 : Int32)))) else (some (.inl (x1, x2 + (1 : Int32)))))
def FX7_together (tr_size : Int32) (tr_hands : Nat → Int32) (p1 : Int32) : Option (Int32) :=
  (itr (fun v => FX7_together_S4 tr_size tr_hands p1 v.1 v.2) fu ((0 : Int32), (0 : Int32))).bind fun o5 => some o5
def rm_X7_together : Room := { frames := 1, cells := 0, slots := 0, locals := 21 }
set_option maxHeartbeats 4000000 in
set_option maxRecDepth 100000 in
theorem c_X7_together (l : Launch) (D : va_G) (cI cJ cZ : ClassId) (a : Nat → Nat) (ws0 : va_W)  (tr_waited : Int32) (tr_size : Int32) (tr_hands : Nat → Int32) (p1 : Int32) (u : Int32) (hF : FX7_together tr_size tr_hands p1 = some u) (h33 : ws0[33]? = some (a 33, .inr (7, [.ref (a 34), .int tr_waited, .int tr_size]))) (h34 : ws0[34]? = some (a 34, .inl (cI, 10, .inl tr_hands))) : Met l yX7_together (wq yX7_together cX7_together 4 (some .int)) rm_X7_together (Pq [.ref (a 33), .int p1] D cI cJ cZ ws0) (Qq (some (.int u))) 0 0 (fun _ => False) := by
  refine mq_of (by decide) (Nat.le_of_ble_eq_true rfl) (fun p e s m args below meth c ls Q hQ X _ hP hl => ?_)
  obtain ⟨hx, hb, hr, hml, hown, hts, hlk, hK, hN⟩ := id X
  have hown : s.vm.findClass RX7 = some m.cls := hown
  have hl : lv_has ls 4 [(0, .ref (a 33)), (1, .int p1)] := hl
  unfold FX7_together at hF
  refine lv_iconst (v := (0 : Int32)) hx hb dX7_together_0 (by decide) ?_
  refine lv_istore_n (lv' := [(2, .int (0 : Int32)), (0, .ref (a 33)), (1, .int p1)]) hx hb dX7_together_1 rfl hl (by decide) rfl (fun ls hl => ?_)
  refine lv_iconst (v := (0 : Int32)) hx hb dX7_together_2 (by decide) ?_
  refine lv_istore_n (lv' := [(3, .int (0 : Int32)), (2, .int (0 : Int32)), (0, .ref (a 33)), (1, .int p1)]) hx hb dX7_together_3 rfl hl (by decide) rfl (fun ls hl => ?_)
  have hL4 : ∀ (nf : Nat) (x1 : Int32) (x2 : Int32) (r : Int32), itr (fun v => FX7_together_S4 tr_size tr_hands p1 v.1 v.2) nf (x1, x2) = some r → ∀ ls, lv_has ls 4 [(3, .int x2), (2, .int x1), (0, .ref (a 33)), (1, .int p1)] → (∀ o : Int32, r = o → ∀ ls, lv_has ls 4 [(2, .int o)] → W p l e rm_X7_together s m args below meth c s.heap [] 0 0 Q (F0 m 37 ls [])) → W p l e rm_X7_together s m args below meth c s.heap [] 0 0 Q (F0 m 4 ls []) := by
    intro nf
    induction nf with
    | zero => intro _ _ r hF; exact (itr_0 hF).elim
    | succ nf ih =>
      intro x1 x2 r hF ls hl hE
      obtain ⟨wo, hF, hw⟩ := itr_s hF
      replace hF : FX7_together_S4 tr_size tr_hands p1 x1 x2 = some wo := hF
      unfold FX7_together_S4 at hF
      refine lv_iload_n hx hb dX7_together_4 rfl (lv_at hl 0 rfl) ?_
      refine lv_aload_n hx hb dX7_together_5 rfl (lv_at hl 2 rfl) ?_
      refine gf_X7_15 hx hb hts hown hK hP h33 dX7_together_6 ?_
      refine lv_icmp_ge (tgt := 37) hx hb dX7_together_9 (by decide) (fun c3 => ?_) (fun c3 => ?_)
      · replace hF := (if_pos c3).symm.trans hF
        obtain rfl := Option.some.inj hF
        obtain rfl := hw
        exact hE _ rfl ls (lv_sub hl [1] rfl)
      · replace hF := (if_neg c3).symm.trans hF
        refine lv_iload_n hx hb dX7_together_12 rfl (lv_at hl 3 rfl) ?_
        refine lv_iload_n hx hb dX7_together_13 rfl (lv_at hl 0 rfl) ?_
        refine rd_i (runSN (As := [.int p1, .int x2]) (rest := []) X cq_X8_isIn lk_X7_26 (c_X8_isIn l D cI cJ cZ a ws0 p1 x2 _ rfl ) rfl rfl ⟨Nat.le_of_ble_eq_true rfl, Nat.le_of_ble_eq_true rfl⟩ hP rfl hl.1 rfl (Nat.le_of_ble_eq_true rfl) dX7_together_14 ⟨Nat.le_of_ble_eq_true rfl, Nat.le_of_ble_eq_true rfl⟩) ?_
        refine zf_eq (tgt := 31) hx hb dX7_together_17 (by decide) (fun c4 => ?_) (fun c4 => ?_)
        · replace hF := (if_neg c4).symm.trans hF
          refine lv_iinc (v := x2 + (1 : Int32)) (lv' := [(3, .int (x2 + (1 : Int32))), (2, .int x1), (0, .ref (a 33)), (1, .int p1)]) hx hb dX7_together_31 hl (k := 0) rfl rfl (by decide) rfl (fun ls hl => ?_)
          refine lv_goto (tgt := 4) hx hb dX7_together_34 (by decide) ?_
          obtain rfl := Option.some.inj hF
          exact ih _ _ _ hw ls (lv_sub hl [0, 1, 2, 3] rfl) hE
        · replace hF := (if_pos c4).symm.trans hF
          refine lv_iload_n hx hb dX7_together_20 rfl (lv_at hl 1 rfl) ?_
          refine lv_aload_n hx hb dX7_together_21 rfl (lv_at hl 2 rfl) ?_
          refine gf_X7_9 hx hb hts hown hK hP h33 dX7_together_22 ?_
          refine lv_iload_n hx hb dX7_together_25 rfl (lv_at hl 0 rfl) ?_
          refine rd_i (runSN (As := [.ref (a 34), .int x2]) (rest := [.int x1]) X cq_X8_at lk_X7_30 (t_X8_at l D cI cJ cZ a ws0 34 tr_hands 10 x2 _ rfl h34 (by decide)) rfl rfl ⟨Nat.le_of_ble_eq_true rfl, Nat.le_of_ble_eq_true rfl⟩ hP rfl hl.1 rfl (Nat.le_of_ble_eq_true rfl) dX7_together_26 ⟨Nat.le_of_ble_eq_true rfl, Nat.le_of_ble_eq_true rfl⟩) ?_
          refine lv_iadd hx hb dX7_together_29 ?_
          refine lv_istore_n (lv' := [(2, .int (x1 + (gat tr_hands 10 x2))), (3, .int x2), (0, .ref (a 33)), (1, .int p1)]) hx hb dX7_together_30 rfl hl (by decide) rfl (fun ls hl => ?_)
          refine lv_iinc (v := x2 + (1 : Int32)) (lv' := [(3, .int (x2 + (1 : Int32))), (2, .int (x1 + (gat tr_hands 10 x2))), (0, .ref (a 33)), (1, .int p1)]) hx hb dX7_together_31 hl (k := 1) rfl rfl (by decide) rfl (fun ls hl => ?_)
          refine lv_goto (tgt := 4) hx hb dX7_together_34 (by decide) ?_
          obtain rfl := Option.some.inj hF
          exact ih _ _ _ hw ls (lv_sub hl [0, 1, 2, 3] rfl) hE
  obtain ⟨o5, ho5, hF⟩ := bd_some hF
  refine hL4 fu (0 : Int32) (0 : Int32) o5 ho5 ls (lv_sub hl [0, 1, 2, 3] rfl) ?_
  intro _ q_o5 ls hl
  subst q_o5
  refine lv_iload_n hx hb dX7_together_37 rfl (lv_at hl 0 rfl) ?_
  obtain rfl := Option.some.inj hF
  rw [hQ]
  exact rt_i X dX7_together_38
def FX7_deals_J66L14 (x11 : Int32) (x12 : Int64) : Option ((Int64 × Int32) ⊕ (Int64)) :=
  some (.inl (x12 + (1 : Int64), x11 + (1 : Int32)))
def FX7_deals_J45L14 (tr_size : Int32) (tr_hands : Nat → Int32) (p1 : Int32) (x1 : Int32) (x6 : Int32) (x7 : Int64) (x8 : Int32) : Option ((Int64 × Int32) ⊕ (Int64)) :=
  if x8 = 0 then (some (.inl (x7, x6 + (1 : Int32)))) else (if p1 = 0 then (FX7_deals_J66L14 x6 x7) else ((FX7_together tr_size tr_hands x6).bind fun x13 => if x13 < x1 then (some (.inl (x7, x6 + (1 : Int32)))) else (FX7_deals_J66L14 x6 x7)))
def FX7_deals_S14 (tr_waited : Int32) (tr_size : Int32) (tr_hands : Nat → Int32) (p1 : Int32) (x1 : Int32) (x2 : Int64) (x3 : Int32) : Option ((Int64 × Int32) ⊕ (Int64)) :=
  if ((1 : Int32) <<< (tr_size &&& 31)) ≤ x3 then (some (.inr x2)) else (if (FJ6_bitCount_0f7a4 x3) = (FJ6_bitCount_0f7a4 tr_waited) then (FX7_deals_J45L14 tr_size tr_hands p1 x1 x3 x2 (1 : Int32)) else (FX7_deals_J45L14 tr_size tr_hands p1 x1 x3 x2 (0 : Int32)))
def FX7_deals (tr_waited : Int32) (tr_size : Int32) (tr_hands : Nat → Int32) (p1 : Int32) : Option (Int64) :=
  (FX7_together tr_size tr_hands tr_waited).bind fun x1 => (itr (fun v => FX7_deals_S14 tr_waited tr_size tr_hands p1 x1 v.1 v.2) fu ((0 : Int64), (0 : Int32))).bind fun o15 => some o15
def rm_X7_deals : Room := { frames := 2, cells := 0, slots := 0, locals := 44 }
set_option maxHeartbeats 4000000 in
set_option maxRecDepth 100000 in
theorem c_X7_deals (l : Launch) (D : va_G) (cI cJ cZ : ClassId) (a : Nat → Nat) (ws0 : va_W)  (tr_waited : Int32) (tr_size : Int32) (tr_hands : Nat → Int32) (p1 : Int32) (u : Int64) (hF : FX7_deals tr_waited tr_size tr_hands p1 = some u) (h33 : ws0[33]? = some (a 33, .inr (7, [.ref (a 34), .int tr_waited, .int tr_size]))) (h34 : ws0[34]? = some (a 34, .inl (cI, 10, .inl tr_hands))) : Met l yX7_deals (wq yX7_deals cX7_deals 7 (some .long)) rm_X7_deals (Pq [.ref (a 33), .int p1] D cI cJ cZ ws0) (Qq (some (.long u))) 0 0 (fun _ => False) := by
  refine mq_of (by decide) (Nat.le_of_ble_eq_true rfl) (fun p e s m args below meth c ls Q hQ X _ hP hl => ?_)
  obtain ⟨hx, hb, hr, hml, hown, hts, hlk, hK, hN⟩ := id X
  have hown : s.vm.findClass RX7 = some m.cls := hown
  have hl : lv_has ls 7 [(0, .ref (a 33)), (1, .int p1)] := hl
  unfold FX7_deals at hF
  refine lv_aload_n hx hb dX7_deals_0 rfl (lv_at hl 0 rfl) ?_
  refine lv_aload_n hx hb dX7_deals_1 rfl (lv_at hl 0 rfl) ?_
  refine gf_X7_23 hx hb hts hown hK hP h33 dX7_deals_2 ?_
  obtain ⟨x1, hx1, hF⟩ := bd_some hF
  refine rd_i (runV (As := [.int tr_waited]) (rest := []) X cq_X7_together lk_X7_34 (c_X7_together l D cI cJ cZ a ws0 tr_waited tr_size tr_hands tr_waited x1 hx1 h33 h34) rfl rfl ⟨Nat.le_of_ble_eq_true rfl, Nat.le_of_ble_eq_true rfl⟩ hP h33 rfl rfl hl.1 rfl (Nat.le_of_ble_eq_true rfl) dX7_deals_5 ⟨Nat.le_of_ble_eq_true rfl, Nat.le_of_ble_eq_true rfl⟩) ?_
  refine lv_istore_n (lv' := [(2, .int x1), (0, .ref (a 33)), (1, .int p1)]) hx hb dX7_deals_8 rfl hl (by decide) rfl (fun ls hl => ?_)
  refine lv_lconst (v := (0 : Int64)) hx hb dX7_deals_9 (by decide) ?_
  refine lv_lstore_n (lv' := [(3, .long (0 : Int64)), (2, .int x1), (0, .ref (a 33)), (1, .int p1)]) hx hb dX7_deals_10 rfl hl (by decide) rfl (fun ls hl => ?_)
  refine lv_iconst (v := (0 : Int32)) hx hb dX7_deals_11 (by decide) ?_
  refine lv_istore (lv' := [(5, .int (0 : Int32)), (3, .long (0 : Int64)), (2, .int x1), (0, .ref (a 33)), (1, .int p1)]) hx hb dX7_deals_12 hl (by decide) rfl (fun ls hl => ?_)
  have hL14 : ∀ (nf : Nat) (x2 : Int64) (x3 : Int32) (r : Int64), itr (fun v => FX7_deals_S14 tr_waited tr_size tr_hands p1 x1 v.1 v.2) nf (x2, x3) = some r → ∀ ls, lv_has ls 7 [(5, .int x3), (3, .long x2), (2, .int x1), (0, .ref (a 33)), (1, .int p1)] → (∀ o : Int64, r = o → ∀ ls, lv_has ls 7 [(3, .long o)] → W p l e rm_X7_deals s m args below meth c s.heap [] 0 0 Q (F0 m 76 ls [])) → W p l e rm_X7_deals s m args below meth c s.heap [] 0 0 Q (F0 m 14 ls []) := by
    intro nf
    induction nf with
    | zero => intro _ _ r hF; exact (itr_0 hF).elim
    | succ nf ih =>
      intro x2 x3 r hF ls hl hE
      obtain ⟨wo, hF, hw⟩ := itr_s hF
      replace hF : FX7_deals_S14 tr_waited tr_size tr_hands p1 x1 x2 x3 = some wo := hF
      have hJ66 : ∀ (x11 : Int32) (x12 : Int64), ∀ ls, lv_has ls 7 [(5, .int x11), (3, .long x12), (2, .int x1), (0, .ref (a 33)), (1, .int p1)] → FX7_deals_J66L14 x11 x12 = some wo → W p l e rm_X7_deals s m args below meth c s.heap [] 0 0 Q (F0 m 66 ls []) := by
        intro x11 x12 ls hl hF
        unfold FX7_deals_J66L14 at hF
        refine lv_lload_n hx hb dX7_deals_66 rfl (lv_at hl 1 rfl) ?_
        refine lv_lconst (v := (1 : Int64)) hx hb dX7_deals_67 (by decide) ?_
        refine lv_ladd hx hb dX7_deals_68 ?_
        refine lv_lstore_n (lv' := [(3, .long (x12 + (1 : Int64))), (5, .int x11), (2, .int x1), (0, .ref (a 33)), (1, .int p1)]) hx hb dX7_deals_69 rfl hl (by decide) rfl (fun ls hl => ?_)
        refine lv_iinc (v := x11 + (1 : Int32)) (lv' := [(5, .int (x11 + (1 : Int32))), (3, .long (x12 + (1 : Int64))), (2, .int x1), (0, .ref (a 33)), (1, .int p1)]) hx hb dX7_deals_70 hl (k := 1) rfl rfl (by decide) rfl (fun ls hl => ?_)
        refine lv_goto (tgt := 14) hx hb dX7_deals_73 (by decide) ?_
        obtain rfl := Option.some.inj hF
        exact ih _ _ _ hw ls (lv_sub hl [0, 1, 2, 3, 4] rfl) hE
      have hJ45 : ∀ (x6 : Int32) (x7 : Int64) (x8 : Int32), ∀ ls, lv_has ls 7 [(5, .int x6), (3, .long x7), (2, .int x1), (0, .ref (a 33)), (1, .int p1)] → FX7_deals_J45L14 tr_size tr_hands p1 x1 x6 x7 x8 = some wo → W p l e rm_X7_deals s m args below meth c s.heap [] 0 0 Q (F0 m 45 ls [.int x8]) := by
        intro x6 x7 x8 ls hl hF
        unfold FX7_deals_J45L14 at hF
        refine lv_istore (lv' := [(6, .int x8), (5, .int x6), (3, .long x7), (2, .int x1), (0, .ref (a 33)), (1, .int p1)]) hx hb dX7_deals_45 hl (by decide) rfl (fun ls hl => ?_)
        refine lv_iload hx hb dX7_deals_47 (lv_at hl 0 rfl) ?_
        refine lv_if_eq (tgt := 70) hx hb dX7_deals_49 (by decide) (fun c9 => ?_) (fun c9 => ?_)
        · replace hF := (if_pos c9).symm.trans hF
          refine lv_iinc (v := x6 + (1 : Int32)) (lv' := [(5, .int (x6 + (1 : Int32))), (6, .int x8), (3, .long x7), (2, .int x1), (0, .ref (a 33)), (1, .int p1)]) hx hb dX7_deals_70 hl (k := 1) rfl rfl (by decide) rfl (fun ls hl => ?_)
          refine lv_goto (tgt := 14) hx hb dX7_deals_73 (by decide) ?_
          obtain rfl := Option.some.inj hF
          exact ih _ _ _ hw ls (lv_sub hl [0, 2, 3, 4, 5] rfl) hE
        · replace hF := (if_neg c9).symm.trans hF
          refine lv_iload_n hx hb dX7_deals_52 rfl (lv_at hl 5 rfl) ?_
          refine lv_if_eq (tgt := 66) hx hb dX7_deals_53 (by decide) (fun c10 => ?_) (fun c10 => ?_)
          · replace hF := (if_pos c10).symm.trans hF
            exact hJ66 x6 x7 ls (lv_sub hl [1, 2, 3, 4, 5] rfl) hF
          · replace hF := (if_neg c10).symm.trans hF
            refine lv_aload_n hx hb dX7_deals_56 rfl (lv_at hl 4 rfl) ?_
            refine lv_iload hx hb dX7_deals_57 (lv_at hl 1 rfl) ?_
            obtain ⟨x13, hx13, hF⟩ := bd_some hF
            refine rd_i (runV (As := [.int x6]) (rest := []) X cq_X7_together lk_X7_34 (c_X7_together l D cI cJ cZ a ws0 tr_waited tr_size tr_hands x6 x13 hx13 h33 h34) rfl rfl ⟨Nat.le_of_ble_eq_true rfl, Nat.le_of_ble_eq_true rfl⟩ hP h33 rfl rfl hl.1 rfl (Nat.le_of_ble_eq_true rfl) dX7_deals_59 ⟨Nat.le_of_ble_eq_true rfl, Nat.le_of_ble_eq_true rfl⟩) ?_
            refine lv_iload_n hx hb dX7_deals_62 rfl (lv_at hl 3 rfl) ?_
            refine lv_icmp_lt (tgt := 70) hx hb dX7_deals_63 (by decide) (fun c14 => ?_) (fun c14 => ?_)
            · replace hF := (if_pos c14).symm.trans hF
              refine lv_iinc (v := x6 + (1 : Int32)) (lv' := [(5, .int (x6 + (1 : Int32))), (6, .int x8), (3, .long x7), (2, .int x1), (0, .ref (a 33)), (1, .int p1)]) hx hb dX7_deals_70 hl (k := 1) rfl rfl (by decide) rfl (fun ls hl => ?_)
              refine lv_goto (tgt := 14) hx hb dX7_deals_73 (by decide) ?_
              obtain rfl := Option.some.inj hF
              exact ih _ _ _ hw ls (lv_sub hl [0, 2, 3, 4, 5] rfl) hE
            · replace hF := (if_neg c14).symm.trans hF
              exact hJ66 x6 x7 ls (lv_sub hl [1, 2, 3, 4, 5] rfl) hF
      unfold FX7_deals_S14 at hF
      refine lv_iload hx hb dX7_deals_14 (lv_at hl 0 rfl) ?_
      refine lv_iconst (v := (1 : Int32)) hx hb dX7_deals_16 (by decide) ?_
      refine lv_aload_n hx hb dX7_deals_17 rfl (lv_at hl 3 rfl) ?_
      refine gf_X7_15 hx hb hts hown hK hP h33 dX7_deals_18 ?_
      refine lv_ishl hx hb dX7_deals_21 ?_
      refine lv_icmp_ge (tgt := 76) hx hb dX7_deals_22 (by decide) (fun c4 => ?_) (fun c4 => ?_)
      · replace hF := (if_pos c4).symm.trans hF
        obtain rfl := Option.some.inj hF
        obtain rfl := hw
        exact hE _ rfl ls (lv_sub hl [1] rfl)
      · replace hF := (if_neg c4).symm.trans hF
        refine lv_iload hx hb dX7_deals_25 (lv_at hl 0 rfl) ?_
        refine rd_i (runS (As := [.int x3]) (rest := []) X cq_J6_bitCount_0f7a4 lk_X7_38 (c_J6_bitCount_0f7a4 l D cI cJ cZ a ws0 x3 _ rfl ) rfl rfl ⟨Nat.le_of_ble_eq_true rfl, Nat.le_of_ble_eq_true rfl⟩ hP rfl hl.1 rfl (Nat.le_of_ble_eq_true rfl) dX7_deals_27 ⟨Nat.le_of_ble_eq_true rfl, Nat.le_of_ble_eq_true rfl⟩) ?_
        refine lv_aload_n hx hb dX7_deals_30 rfl (lv_at hl 3 rfl) ?_
        refine gf_X7_23 hx hb hts hown hK hP h33 dX7_deals_31 ?_
        refine rd_i (runS (As := [.int tr_waited]) (rest := [.int (FJ6_bitCount_0f7a4 x3)]) X cq_J6_bitCount_0f7a4 lk_X7_38 (c_J6_bitCount_0f7a4 l D cI cJ cZ a ws0 tr_waited _ rfl ) rfl rfl ⟨Nat.le_of_ble_eq_true rfl, Nat.le_of_ble_eq_true rfl⟩ hP rfl hl.1 rfl (Nat.le_of_ble_eq_true rfl) dX7_deals_34 ⟨Nat.le_of_ble_eq_true rfl, Nat.le_of_ble_eq_true rfl⟩) ?_
        refine lv_icmp_ne (tgt := 44) hx hb dX7_deals_37 (by decide) (fun c5 => ?_) (fun c5 => ?_)
        · replace hF := (if_neg c5).symm.trans hF
          refine lv_iconst (v := (0 : Int32)) hx hb dX7_deals_44 (by decide) ?_
          exact hJ45 x3 x2 (0 : Int32) ls (lv_sub hl [0, 1, 2, 3, 4] rfl) hF
        · replace hF := (if_pos c5).symm.trans hF
          refine lv_iconst (v := (1 : Int32)) hx hb dX7_deals_40 (by decide) ?_
          refine lv_goto (tgt := 45) hx hb dX7_deals_41 (by decide) ?_
          exact hJ45 x3 x2 (1 : Int32) ls (lv_sub hl [0, 1, 2, 3, 4] rfl) hF
  obtain ⟨o15, ho15, hF⟩ := bd_some hF
  refine hL14 fu (0 : Int64) (0 : Int32) o15 ho15 ls (lv_sub hl [0, 1, 2, 3, 4] rfl) ?_
  intro _ q_o15 ls hl
  subst q_o15
  refine lv_lload_n hx hb dX7_deals_76 rfl (lv_at hl 0 rfl) ?_
  obtain rfl := Option.some.inj hF
  rw [hQ]
  exact rt_l X dX7_deals_77
def FX8_chance (tr_waited : Int32) (tr_size : Int32) (tr_hands : Nat → Int32) (p1 : Int32) : Option (Int64) :=
  (FX7_deals tr_waited tr_size tr_hands (1 : Int32)).bind fun x1 => (FX7_deals tr_waited tr_size tr_hands (0 : Int32)).bind fun x2 => (FX8_fraction x1 x2 p1).bind fun x3 => some x3
def rm_X8_chance : Room := { frames := 3, cells := 0, slots := 0, locals := 70 }
set_option maxHeartbeats 4000000 in
set_option maxRecDepth 100000 in
theorem c_X8_chance (l : Launch) (D : va_G) (cI cJ cZ : ClassId) (a : Nat → Nat) (ws0 : va_W)  (tr_waited : Int32) (tr_size : Int32) (tr_hands : Nat → Int32) (p1 : Int32) (u : Int64) (hF : FX8_chance tr_waited tr_size tr_hands p1 = some u) (h0 : ws0[0]? = some (a 0, .inr (8, [.ref (a 1), .ref (a 3), .ref (a 13), .ref (a 16), .ref (a 22), .ref (a 25), .ref (a 28), .ref (a 33)]))) (h33 : ws0[33]? = some (a 33, .inr (7, [.ref (a 34), .int tr_waited, .int tr_size]))) (h34 : ws0[34]? = some (a 34, .inl (cI, 10, .inl tr_hands))) : Met l yX8_chance (wq yX8_chance cX8_chance 2 (some .long)) rm_X8_chance (Pq [.ref (a 0), .int p1] D cI cJ cZ ws0) (Qq (some (.long u))) 0 0 (fun _ => False) := by
  refine mq_of (by decide) (Nat.le_of_ble_eq_true rfl) (fun p e s m args below meth c ls Q hQ X _ hP hl => ?_)
  obtain ⟨hx, hb, hr, hml, hown, hts, hlk, hK, hN⟩ := id X
  have hown : s.vm.findClass RX8 = some m.cls := hown
  have hl : lv_has ls 2 [(0, .ref (a 0)), (1, .int p1)] := hl
  unfold FX8_chance at hF
  refine lv_aload_n hx hb dX8_chance_0 rfl (lv_at hl 0 rfl) ?_
  refine gf_X8_57 hx hb hts hown hK hP h0 dX8_chance_1 ?_
  refine lv_iconst (v := (1 : Int32)) hx hb dX8_chance_4 (by decide) ?_
  obtain ⟨x1, hx1, hF⟩ := bd_some hF
  refine rd_l (runVN (As := [.int (1 : Int32)]) (rest := []) X cq_X7_deals lk_X8_243 (c_X7_deals l D cI cJ cZ a ws0 tr_waited tr_size tr_hands (1 : Int32) x1 hx1 h33 h34) rfl rfl ⟨Nat.le_of_ble_eq_true rfl, Nat.le_of_ble_eq_true rfl⟩ hP h33 rfl rfl hl.1 rfl (Nat.le_of_ble_eq_true rfl) dX8_chance_5 ⟨Nat.le_of_ble_eq_true rfl, Nat.le_of_ble_eq_true rfl⟩) ?_
  refine lv_aload_n hx hb dX8_chance_8 rfl (lv_at hl 0 rfl) ?_
  refine gf_X8_57 hx hb hts hown hK hP h0 dX8_chance_9 ?_
  refine lv_iconst (v := (0 : Int32)) hx hb dX8_chance_12 (by decide) ?_
  obtain ⟨x2, hx2, hF⟩ := bd_some hF
  refine rd_l (runVN (As := [.int (0 : Int32)]) (rest := [.long x1]) X cq_X7_deals lk_X8_243 (c_X7_deals l D cI cJ cZ a ws0 tr_waited tr_size tr_hands (0 : Int32) x2 hx2 h33 h34) rfl rfl ⟨Nat.le_of_ble_eq_true rfl, Nat.le_of_ble_eq_true rfl⟩ hP h33 rfl rfl hl.1 rfl (Nat.le_of_ble_eq_true rfl) dX8_chance_13 ⟨Nat.le_of_ble_eq_true rfl, Nat.le_of_ble_eq_true rfl⟩) ?_
  refine lv_iload_n hx hb dX8_chance_16 rfl (lv_at hl 1 rfl) ?_
  obtain ⟨x3, hx3, hF⟩ := bd_some hF
  refine rd_l (runS (As := [.long x1, .long x2, .int p1]) (rest := []) X cq_X8_fraction lk_X8_131 (c_X8_fraction l D cI cJ cZ a ws0 x1 x2 p1 x3 hx3 ) rfl rfl ⟨Nat.le_of_ble_eq_true rfl, Nat.le_of_ble_eq_true rfl⟩ hP rfl hl.1 rfl (Nat.le_of_ble_eq_true rfl) dX8_chance_17 ⟨Nat.le_of_ble_eq_true rfl, Nat.le_of_ble_eq_true rfl⟩) ?_
  obtain rfl := Option.some.inj hF
  rw [hQ]
  exact rt_l X dX8_chance_20
def FX8_until_S19 (p1 : Int32) (x2 : Int64) (x3 : Int32) : Option ((Int64 × Int32) ⊕ (Int64)) :=
  if p1 < x3 then (some (.inr x2)) else (some (.inl (x2 + (p1.toInt64 * (gshare x3)), x3 + (1 : Int32))))
def FX8_until (p1 : Int32) (p2 : Int32) : Option (Int64) :=
  if (FX8_outside p1 (1 : Int32) (12 : Int32)) = true then (some (-2 : Int64)) else ((itr (fun v => FX8_until_S19 p1 v.1 v.2) fu ((0 : Int64), (1 : Int32))).bind fun o5 => (FX8_fraction o5 (27720 : Int64) p2).bind fun x6 => some x6)
def rm_X8_until : Room := { frames := 2, cells := 0, slots := 0, locals := 56 }
set_option maxHeartbeats 4000000 in
set_option maxRecDepth 100000 in
theorem c_X8_until (l : Launch) (D : va_G) (cI cJ cZ : ClassId) (a : Nat → Nat) (ws0 : va_W)   (p1 : Int32) (p2 : Int32) (u : Int64) (hF : FX8_until p1 p2 = some u) : Met l yX8_until (wq yX8_until cX8_until 6 (some .long)) rm_X8_until (Pq [.ref (a 0), .int p1, .int p2] D cI cJ cZ ws0) (Qq (some (.long u))) 0 0 (fun _ => False) := by
  refine mq_of (by decide) (Nat.le_of_ble_eq_true rfl) (fun p e s m args below meth c ls Q hQ X _ hP hl => ?_)
  obtain ⟨hx, hb, hr, hml, hown, hts, hlk, hK, hN⟩ := id X
  have hown : s.vm.findClass RX8 = some m.cls := hown
  have hl : lv_has ls 6 [(0, .ref (a 0)), (1, .int p1), (2, .int p2)] := hl
  unfold FX8_until at hF
  refine lv_iload_n hx hb dX8_until_0 rfl (lv_at hl 1 rfl) ?_
  refine lv_iconst (v := (1 : Int32)) hx hb dX8_until_1 (by decide) ?_
  refine lv_bipush (v := (12 : Int32)) hx hb dX8_until_2 (by decide) ?_
  refine rd_i (runS (As := [.int p1, .int (1 : Int32), .int (12 : Int32)]) (rest := []) X cq_X8_outside lk_X8_61 (c_X8_outside l D cI cJ cZ a ws0 p1 (1 : Int32) (12 : Int32) _ rfl ) rfl rfl ⟨Nat.le_of_ble_eq_true rfl, Nat.le_of_ble_eq_true rfl⟩ hP rfl hl.1 rfl (Nat.le_of_ble_eq_true rfl) dX8_until_4 ⟨Nat.le_of_ble_eq_true rfl, Nat.le_of_ble_eq_true rfl⟩) ?_
  refine zf_eq (tgt := 14) hx hb dX8_until_7 (by decide) (fun c1 => ?_) (fun c1 => ?_)
  · replace hF := (if_neg c1).symm.trans hF
    refine lv_lconst (v := (0 : Int64)) hx hb dX8_until_14 (by decide) ?_
    refine lv_lstore_n (lv' := [(3, .long (0 : Int64)), (0, .ref (a 0)), (1, .int p1), (2, .int p2)]) hx hb dX8_until_15 rfl hl (by decide) rfl (fun ls hl => ?_)
    refine lv_iconst (v := (1 : Int32)) hx hb dX8_until_16 (by decide) ?_
    refine lv_istore (lv' := [(5, .int (1 : Int32)), (3, .long (0 : Int64)), (0, .ref (a 0)), (1, .int p1), (2, .int p2)]) hx hb dX8_until_17 hl (by decide) rfl (fun ls hl => ?_)
    have hL19 : ∀ (nf : Nat) (x2 : Int64) (x3 : Int32) (r : Int64), itr (fun v => FX8_until_S19 p1 v.1 v.2) nf (x2, x3) = some r → ∀ ls, lv_has ls 6 [(5, .int x3), (3, .long x2), (1, .int p1), (2, .int p2)] → (∀ o : Int64, r = o → ∀ ls, lv_has ls 6 [(3, .long o), (2, .int p2)] → W p l e rm_X8_until s m args below meth c s.heap [] 0 0 Q (F0 m 42 ls [])) → W p l e rm_X8_until s m args below meth c s.heap [] 0 0 Q (F0 m 19 ls []) := by
      intro nf
      induction nf with
      | zero => intro _ _ r hF; exact (itr_0 hF).elim
      | succ nf ih =>
        intro x2 x3 r hF ls hl hE
        obtain ⟨wo, hF, hw⟩ := itr_s hF
        replace hF : FX8_until_S19 p1 x2 x3 = some wo := hF
        unfold FX8_until_S19 at hF
        refine lv_iload hx hb dX8_until_19 (lv_at hl 0 rfl) ?_
        refine lv_iload_n hx hb dX8_until_21 rfl (lv_at hl 2 rfl) ?_
        refine lv_icmp_gt (tgt := 42) hx hb dX8_until_22 (by decide) (fun c4 => ?_) (fun c4 => ?_)
        · replace hF := (if_pos c4).symm.trans hF
          obtain rfl := Option.some.inj hF
          obtain rfl := hw
          exact hE _ rfl ls (lv_sub hl [1, 3] rfl)
        · replace hF := (if_neg c4).symm.trans hF
          refine lv_lload_n hx hb dX8_until_25 rfl (lv_at hl 1 rfl) ?_
          refine lv_iload_n hx hb dX8_until_26 rfl (lv_at hl 2 rfl) ?_
          refine lv_i2l hx hb dX8_until_27 rfl ?_
          refine lv_iload hx hb dX8_until_28 (lv_at hl 0 rfl) ?_
          refine rd_l (runS (As := [.int x3]) (rest := [.long p1.toInt64, .long x2]) X cq_X8_share lk_X8_247 (t_X8_share l D cI cJ cZ a ws0 x3 _ rfl ) rfl rfl ⟨Nat.le_of_ble_eq_true rfl, Nat.le_of_ble_eq_true rfl⟩ hP rfl hl.1 rfl (Nat.le_of_ble_eq_true rfl) dX8_until_30 ⟨Nat.le_of_ble_eq_true rfl, Nat.le_of_ble_eq_true rfl⟩) ?_
          refine lv_lmul hx hb dX8_until_33 ?_
          refine lv_ladd hx hb dX8_until_34 ?_
          refine lv_lstore_n (lv' := [(3, .long (x2 + (p1.toInt64 * (gshare x3)))), (5, .int x3), (1, .int p1), (2, .int p2)]) hx hb dX8_until_35 rfl hl (by decide) rfl (fun ls hl => ?_)
          refine lv_iinc (v := x3 + (1 : Int32)) (lv' := [(5, .int (x3 + (1 : Int32))), (3, .long (x2 + (p1.toInt64 * (gshare x3)))), (1, .int p1), (2, .int p2)]) hx hb dX8_until_36 hl (k := 1) rfl rfl (by decide) rfl (fun ls hl => ?_)
          refine lv_goto (tgt := 19) hx hb dX8_until_39 (by decide) ?_
          obtain rfl := Option.some.inj hF
          exact ih _ _ _ hw ls (lv_sub hl [0, 1, 2, 3] rfl) hE
    obtain ⟨o5, ho5, hF⟩ := bd_some hF
    refine hL19 fu (0 : Int64) (1 : Int32) o5 ho5 ls (lv_sub hl [0, 1, 3, 4] rfl) ?_
    intro _ q_o5 ls hl
    subst q_o5
    refine lv_lload_n hx hb dX8_until_42 rfl (lv_at hl 0 rfl) ?_
    refine lv_ldc2 (v := (27720 : Int64)) hx hb hown (hts _ kl_X8_222) dX8_until_43 ?_
    refine lv_iload_n hx hb dX8_until_46 rfl (lv_at hl 1 rfl) ?_
    obtain ⟨x6, hx6, hF⟩ := bd_some hF
    refine rd_l (runS (As := [.long o5, .long (27720 : Int64), .int p2]) (rest := []) X cq_X8_fraction lk_X8_131 (c_X8_fraction l D cI cJ cZ a ws0 o5 (27720 : Int64) p2 x6 hx6 ) rfl rfl ⟨Nat.le_of_ble_eq_true rfl, Nat.le_of_ble_eq_true rfl⟩ hP rfl hl.1 rfl (Nat.le_of_ble_eq_true rfl) dX8_until_47 ⟨Nat.le_of_ble_eq_true rfl, Nat.le_of_ble_eq_true rfl⟩) ?_
    obtain rfl := Option.some.inj hF
    rw [hQ]
    exact rt_l X dX8_until_50
  · replace hF := (if_pos c1).symm.trans hF
    refine lv_ldc2 (v := (-2 : Int64)) hx hb hown (hts _ kl_X8_112) dX8_until_10 ?_
    obtain rfl := Option.some.inj hF
    rw [hQ]
    exact rt_l X dX8_until_13
def rm_X8_slotOf : Room := { frames := 0, cells := 0, slots := 0, locals := 0 }
set_option maxHeartbeats 4000000 in
set_option maxRecDepth 100000 in
theorem c_X8_slotOf_0 (l : Launch) (D : va_G) (cI cJ cZ : ClassId) (a : Nat → Nat) (ws0 : va_W)   (p1 : Int32) (hz :  p1 = 0) (h0 : ws0[0]? = some (a 0, .inr (8, [.ref (a 1), .ref (a 3), .ref (a 13), .ref (a 16), .ref (a 22), .ref (a 25), .ref (a 28), .ref (a 33)]))) : Met l yX8_slotOf (wq yX8_slotOf cX8_slotOf 2 (some (.object "AHandGoesUp$Lessons"))) rm_X8_slotOf (Pq [.ref (a 0), .int p1] D cI cJ cZ ws0) (Qq (some (.ref (a 22)))) 0 0 (fun _ => False) := by
  refine mq_of (by decide) (Nat.le_of_ble_eq_true rfl) (fun p e s m args below meth c ls Q hQ X _ hP hl => ?_)
  obtain ⟨hx, hb, hr, hml, hown, hts, hlk, hK, hN⟩ := id X
  have hown : s.vm.findClass RX8 = some m.cls := hown
  have hl : lv_has ls 2 [(0, .ref (a 0)), (1, .int p1)] := hl
  refine lv_iload_n hx hb dX8_slotOf_0 rfl (lv_at hl 1 rfl) ?_
  refine lv_if_ne (tgt := 11) hx hb dX8_slotOf_1 (by decide) (fun c1 => absurd hz c1) (fun c1 => ?_)
  refine lv_aload_n hx hb dX8_slotOf_4 rfl (lv_at hl 0 rfl) ?_
  refine gf_X8_40 hx hb hts hown hK hP h0 dX8_slotOf_5 ?_
  refine lv_goto (tgt := 15) hx hb dX8_slotOf_8 (by decide) ?_
  rw [hQ]
  exact rt_a X dX8_slotOf_15
set_option maxHeartbeats 4000000 in
set_option maxRecDepth 100000 in
theorem c_X8_slotOf_1 (l : Launch) (D : va_G) (cI cJ cZ : ClassId) (a : Nat → Nat) (ws0 : va_W)   (p1 : Int32) (hz : ¬ p1 = 0) (h0 : ws0[0]? = some (a 0, .inr (8, [.ref (a 1), .ref (a 3), .ref (a 13), .ref (a 16), .ref (a 22), .ref (a 25), .ref (a 28), .ref (a 33)]))) : Met l yX8_slotOf (wq yX8_slotOf cX8_slotOf 2 (some (.object "AHandGoesUp$Lessons"))) rm_X8_slotOf (Pq [.ref (a 0), .int p1] D cI cJ cZ ws0) (Qq (some (.ref (a 25)))) 0 0 (fun _ => False) := by
  refine mq_of (by decide) (Nat.le_of_ble_eq_true rfl) (fun p e s m args below meth c ls Q hQ X _ hP hl => ?_)
  obtain ⟨hx, hb, hr, hml, hown, hts, hlk, hK, hN⟩ := id X
  have hown : s.vm.findClass RX8 = some m.cls := hown
  have hl : lv_has ls 2 [(0, .ref (a 0)), (1, .int p1)] := hl
  refine lv_iload_n hx hb dX8_slotOf_0 rfl (lv_at hl 1 rfl) ?_
  refine lv_if_ne (tgt := 11) hx hb dX8_slotOf_1 (by decide) (fun c1 => ?_) (fun c1 => absurd c1 hz)
  refine lv_aload_n hx hb dX8_slotOf_11 rfl (lv_at hl 0 rfl) ?_
  refine gf_X8_44 hx hb hts hown hK hP h0 dX8_slotOf_12 ?_
  rw [hQ]
  exact rt_a X dX8_slotOf_15
def FX2_become_S2 (o_dares : Nat → Int32) (o_times : Nat → Int32) (x1 : Int32) (x2 : Nat → Int32) (x3 : Nat → Int32) : Option ((Int32 × (Nat → Int32) × (Nat → Int32)) ⊕ ((Nat → Int32) × (Nat → Int32))) :=
  if (12 : Int32) ≤ x1 then (some (.inr (x2, x3))) else (nmb (gput x2 12 x1 (gat o_dares 12 x1)) fun u5 => nmb (gput x3 12 x1 (gat o_times 12 x1)) fun u7 => some (.inl (x1 + (1 : Int32), u5, u7)))
def FX2_become (o_seed : Int64) (o_questions : Int32) (o_rightOnes : Int32) (o_wrongOnes : Int32) (o_dares : Nat → Int32) (p_dares : Nat → Int32) (o_times : Nat → Int32) (p_times : Nat → Int32) : Option ((Nat → Int32) × (Nat → Int32) × Int64 × Int32 × Int32 × Int32) :=
  (itr (fun v => FX2_become_S2 o_dares o_times v.1 v.2.1 v.2.2) fu ((0 : Int32), p_dares, p_times)).bind fun o9 => some (o9.1, o9.2, o_seed, o_questions, o_rightOnes, o_wrongOnes)
def rm_X2_become : Room := { frames := 1, cells := 0, slots := 0, locals := 22 }
set_option maxHeartbeats 4000000 in
set_option maxRecDepth 100000 in
theorem c_X2_become (l : Launch) (D : va_G) (cI cJ cZ : ClassId) (a : Nat → Nat) (ws0 : va_W) (A : Nat → Prop) (j : Nat) (k : Nat) (p_seed : Int64) (p_questions : Int32) (p_rightOnes : Int32) (p_wrongOnes : Int32) (p_isKept : Int32) (o_seed : Int64) (o_questions : Int32) (o_rightOnes : Int32) (o_wrongOnes : Int32) (o_isKept : Int32) (o_dares : Nat → Int32) (p_dares : Nat → Int32) (o_times : Nat → Int32) (p_times : Nat → Int32)  (u : (Nat → Int32) × (Nat → Int32) × Int64 × Int32 × Int32 × Int32) (hF : FX2_become o_seed o_questions o_rightOnes o_wrongOnes o_dares p_dares o_times p_times = some u) (z_j0 : ws0[j]? = some (a j, .inr (2, [.ref (a (j + 1)), .ref (a (j + 2)), .long o_seed, .int o_questions, .int o_rightOnes, .int o_wrongOnes, .int o_isKept]))) (z_j1 : ws0[(j + 1)]? = some (a (j + 1), .inl (cI, 12, .inl o_dares))) (z_j2 : ws0[(j + 2)]? = some (a (j + 2), .inl (cI, 12, .inl o_times))) (z_k0 : ws0[k]? = some (a k, .inr (2, [.ref (a (k + 1)), .ref (a (k + 2)), .long p_seed, .int p_questions, .int p_rightOnes, .int p_wrongOnes, .int p_isKept]))) (z_k1 : ws0[(k + 1)]? = some (a (k + 1), .inl (cI, 12, .inl p_dares))) (z_k2 : ws0[(k + 2)]? = some (a (k + 2), .inl (cI, 12, .inl p_times))) (hD : va_D A ws0) (hap : k + 3 ≤ j ∨ j + 3 ≤ k) : Met l yX2_become (wq yX2_become cX2_become 3 none) rm_X2_become (Pq [.ref (a k), .ref (a j)] D cI cJ cZ ws0) (Qw D A ws0 [(k + 1), (k + 2), k] none (fun w => w[(k + 1)]? = some (a (k + 1), .inl (cI, 12, .inl u.1)) ∧ w[(k + 2)]? = some (a (k + 2), .inl (cI, 12, .inl u.2.1)) ∧ w[k]? = some (a k, .inr (2, [.ref (a (k + 1)), .ref (a (k + 2)), .long u.2.2.1, .int u.2.2.2.1, .int u.2.2.2.2.1, .int u.2.2.2.2.2, .int p_isKept])))) 0 0 A := by
  refine mq_of (by decide) (Nat.le_of_ble_eq_true rfl) (fun p e s m args below meth c ls Q hQ X _ hP hl => ?_)
  obtain ⟨hx, hb, hr, hml, hown, hts, hlk, hK, hN⟩ := id X
  have hown : s.vm.findClass RX2 = some m.cls := hown
  have hl : lv_has ls 3 [(0, .ref (a k)), (1, .ref (a j))] := hl
  have hS : va_S A s.heap s.heap [] := va_S.rf
  have hs : ∀ j : Nat, j ∉ [(k + 1), (k + 2), k] → ws0[j]? = ws0[j]? := fun _ _ => rfl
  have h_j0 := z_j0
  have h_j1 := z_j1
  have h_j2 := z_j2
  have h_k0 := z_k0
  have h_k1 := z_k1
  have h_k2 := z_k2
  unfold FX2_become at hF
  refine lv_iconst (v := (0 : Int32)) hx hb dX2_become_0 (by decide) ?_
  refine lv_istore_n (lv' := [(2, .int (0 : Int32)), (0, .ref (a k)), (1, .ref (a j))]) hx hb dX2_become_1 rfl hl (by decide) rfl (fun ls hl => ?_)
  have hL2 : ∀ (nf : Nat) (x1 : Int32) (x2 : Nat → Int32) (x3 : Nat → Int32) (r : (Nat → Int32) × (Nat → Int32)), itr (fun v => FX2_become_S2 o_dares o_times v.1 v.2.1 v.2.2) nf (x1, x2, x3) = some r → ∀ (wJ : va_W) (HJ : Heap) (lJ : List Loc), va_P D vwCl wJ HJ → va_D A wJ → va_S A s.heap HJ lJ → (∀ j : Nat, j ∉ [(k + 1), (k + 2), k] → wJ[j]? = ws0[j]?) → wJ[(k + 1)]? = some (a (k + 1), .inl (cI, 12, .inl x2)) → wJ[(k + 2)]? = some (a (k + 2), .inl (cI, 12, .inl x3)) → wJ[k]? = some (a k, .inr (2, [.ref (a (k + 1)), .ref (a (k + 2)), .long p_seed, .int p_questions, .int p_rightOnes, .int p_wrongOnes, .int p_isKept])) → ∀ ls, lv_has ls 3 [(2, .int x1), (0, .ref (a k)), (1, .ref (a j))] → (∀ o : (Nat → Int32) × (Nat → Int32), r = o → ∀ (wK : va_W) (HK : Heap) (lK : List Loc), va_P D vwCl wK HK → va_D A wK → va_S A s.heap HK lK → (∀ j : Nat, j ∉ [(k + 1), (k + 2), k] → wK[j]? = ws0[j]?) → wK[(k + 1)]? = some (a (k + 1), .inl (cI, 12, .inl o.1)) → wK[(k + 2)]? = some (a (k + 2), .inl (cI, 12, .inl o.2)) → wK[k]? = some (a k, .inr (2, [.ref (a (k + 1)), .ref (a (k + 2)), .long p_seed, .int p_questions, .int p_rightOnes, .int p_wrongOnes, .int p_isKept])) → ∀ ls, lv_has ls 3 [(0, .ref (a k)), (1, .ref (a j))] → W p l e rm_X2_become s m args below meth c HK lK 0 0 Q (F0 m 46 ls [])) → W p l e rm_X2_become s m args below meth c HJ lJ 0 0 Q (F0 m 2 ls []) := by
    intro nf
    induction nf with
    | zero => intro _ _ _ r hF; exact (itr_0 hF).elim
    | succ nf ih =>
      intro x1 x2 x3 r hF w H locs hP hD hS hs h_k1 h_k2 h_k0 ls hl hE
      obtain ⟨wo, hF, hw⟩ := itr_s hF
      replace hF : FX2_become_S2 o_dares o_times x1 x2 x3 = some wo := hF
      have h_j0 := (hs j (by simp only [List.mem_cons, List.not_mem_nil, or_false, not_or]; omega)).trans z_j0
      have h_j1 := (hs (j + 1) (by simp only [List.mem_cons, List.not_mem_nil, or_false, not_or]; omega)).trans z_j1
      have h_j2 := (hs (j + 2) (by simp only [List.mem_cons, List.not_mem_nil, or_false, not_or]; omega)).trans z_j2
      unfold FX2_become_S2 at hF
      refine lv_iload_n hx hb dX2_become_2 rfl (lv_at hl 0 rfl) ?_
      refine lv_bipush (v := (12 : Int32)) hx hb dX2_become_3 (by decide) ?_
      refine lv_icmp_ge (tgt := 46) hx hb dX2_become_5 (by decide) (fun c4 => ?_) (fun c4 => ?_)
      · replace hF := (if_pos c4).symm.trans hF
        obtain rfl := Option.some.inj hF
        obtain rfl := hw
        exact hE _ rfl _ _ _ hP hD hS hs h_k1 h_k2 h_k0 ls (lv_sub hl [1, 2] rfl)
      · replace hF := (if_neg c4).symm.trans hF
        refine lv_aload_n hx hb dX2_become_8 rfl (lv_at hl 1 rfl) ?_
        refine gf_X2_9 hx hb hts hown hK hP h_k0 dX2_become_9 ?_
        refine lv_iload_n hx hb dX2_become_12 rfl (lv_at hl 0 rfl) ?_
        refine lv_aload_n hx hb dX2_become_13 rfl (lv_at hl 2 rfl) ?_
        refine gf_X2_9 hx hb hts hown hK hP h_j0 dX2_become_14 ?_
        refine lv_iload_n hx hb dX2_become_17 rfl (lv_at hl 0 rfl) ?_
        refine rd_i (runSN (As := [.ref (a (j + 1)), .int x1]) (rest := [.int x1, .ref (a (k + 1))]) X cq_X8_at lk_X2_38 (t_X8_at l D cI cJ cZ a w (j + 1) o_dares 12 x1 _ rfl h_j1 (by decide)) rfl rfl ⟨Nat.le_of_ble_eq_true rfl, Nat.le_of_ble_eq_true rfl⟩ hP rfl hl.1 rfl (Nat.le_of_ble_eq_true rfl) dX2_become_18 ⟨Nat.le_of_ble_eq_true rfl, Nat.le_of_ble_eq_true rfl⟩) ?_
        obtain ⟨u5, e_u5⟩ : ∃ q, q = gput x2 12 x1 (gat o_dares 12 x1) := ⟨_, rfl⟩
        replace hF := nm_at hF e_u5
        refine wr_v (runSN (As := [.ref (a (k + 1)), .int x1, .int (gat o_dares 12 x1)]) (rest := []) X cq_X8_put lk_X2_42 (t_X8_put l D cI cJ cZ a w A (k + 1) x2 12 x1 (gat o_dares 12 x1) u5 e_u5.symm h_k1 hD (by decide)) rfl rfl ⟨Nat.le_of_ble_eq_true rfl, Nat.le_of_ble_eq_true rfl⟩ hP rfl hl.1 rfl (Nat.le_of_ble_eq_true rfl) dX2_become_21 ⟨Nat.le_of_ble_eq_true rfl, Nat.le_of_ble_eq_true rfl⟩) hS (fun w6 H locs hP hD hk hB hS => ?_)
        have h_k1 : w6[(k + 1)]? = some (a (k + 1), .inl (cI, 12, .inl u5)) := hB
        have h_k0 := (hk k (by simp only [List.mem_cons, List.not_mem_nil, or_false, not_or]; omega)).trans h_k0
        have h_j0 := (hk j (by simp only [List.mem_cons, List.not_mem_nil, or_false, not_or]; omega)).trans h_j0
        have h_j1 := (hk (j + 1) (by simp only [List.mem_cons, List.not_mem_nil, or_false, not_or]; omega)).trans h_j1
        have h_j2 := (hk (j + 2) (by simp only [List.mem_cons, List.not_mem_nil, or_false, not_or]; omega)).trans h_j2
        have h_k2 := (hk (k + 2) (by simp only [List.mem_cons, List.not_mem_nil, or_false, not_or]; omega)).trans h_k2
        replace hs := st_tr hk (fun j hj => by simp only [List.mem_cons, List.not_mem_nil, or_false] at hj ⊢; omega) hs
        refine lv_aload_n hx hb dX2_become_24 rfl (lv_at hl 1 rfl) ?_
        refine gf_X2_15 hx hb hts hown hK hP h_k0 dX2_become_25 ?_
        refine lv_iload_n hx hb dX2_become_28 rfl (lv_at hl 0 rfl) ?_
        refine lv_aload_n hx hb dX2_become_29 rfl (lv_at hl 2 rfl) ?_
        refine gf_X2_15 hx hb hts hown hK hP h_j0 dX2_become_30 ?_
        refine lv_iload_n hx hb dX2_become_33 rfl (lv_at hl 0 rfl) ?_
        refine rd_i (runSN (As := [.ref (a (j + 2)), .int x1]) (rest := [.int x1, .ref (a (k + 2))]) X cq_X8_at lk_X2_38 (t_X8_at l D cI cJ cZ a w6 (j + 2) o_times 12 x1 _ rfl h_j2 (by decide)) rfl rfl ⟨Nat.le_of_ble_eq_true rfl, Nat.le_of_ble_eq_true rfl⟩ hP rfl hl.1 rfl (Nat.le_of_ble_eq_true rfl) dX2_become_34 ⟨Nat.le_of_ble_eq_true rfl, Nat.le_of_ble_eq_true rfl⟩) ?_
        obtain ⟨u7, e_u7⟩ : ∃ q, q = gput x3 12 x1 (gat o_times 12 x1) := ⟨_, rfl⟩
        replace hF := nm_at hF e_u7
        refine wr_v (runSN (As := [.ref (a (k + 2)), .int x1, .int (gat o_times 12 x1)]) (rest := []) X cq_X8_put lk_X2_42 (t_X8_put l D cI cJ cZ a w6 A (k + 2) x3 12 x1 (gat o_times 12 x1) u7 e_u7.symm h_k2 hD (by decide)) rfl rfl ⟨Nat.le_of_ble_eq_true rfl, Nat.le_of_ble_eq_true rfl⟩ hP rfl hl.1 rfl (Nat.le_of_ble_eq_true rfl) dX2_become_37 ⟨Nat.le_of_ble_eq_true rfl, Nat.le_of_ble_eq_true rfl⟩) hS (fun w8 H locs hP hD hk hB hS => ?_)
        have h_k2 : w8[(k + 2)]? = some (a (k + 2), .inl (cI, 12, .inl u7)) := hB
        have h_k0 := (hk k (by simp only [List.mem_cons, List.not_mem_nil, or_false, not_or]; omega)).trans h_k0
        have h_j0 := (hk j (by simp only [List.mem_cons, List.not_mem_nil, or_false, not_or]; omega)).trans h_j0
        have h_j1 := (hk (j + 1) (by simp only [List.mem_cons, List.not_mem_nil, or_false, not_or]; omega)).trans h_j1
        have h_k1 := (hk (k + 1) (by simp only [List.mem_cons, List.not_mem_nil, or_false, not_or]; omega)).trans h_k1
        have h_j2 := (hk (j + 2) (by simp only [List.mem_cons, List.not_mem_nil, or_false, not_or]; omega)).trans h_j2
        replace hs := st_tr hk (fun j hj => by simp only [List.mem_cons, List.not_mem_nil, or_false] at hj ⊢; omega) hs
        refine lv_iinc (v := x1 + (1 : Int32)) (lv' := [(2, .int (x1 + (1 : Int32))), (0, .ref (a k)), (1, .ref (a j))]) hx hb dX2_become_40 hl (k := 0) rfl rfl (by decide) rfl (fun ls hl => ?_)
        refine lv_goto (tgt := 2) hx hb dX2_become_43 (by decide) ?_
        obtain rfl := Option.some.inj hF
        exact ih _ _ _ _ hw _ _ _ hP hD hS hs h_k1 h_k2 h_k0 ls (lv_sub hl [0, 1, 2] rfl) hE
  obtain ⟨o9, ho9, hF⟩ := bd_some hF
  refine hL2 fu (0 : Int32) p_dares p_times o9 ho9 _ _ _ hP hD hS hs h_k1 h_k2 h_k0 ls (lv_sub hl [0, 1, 2] rfl) ?_
  intro _ q_o9 w H locs hP hD hS hs h_k1 h_k2 h_k0 ls hl
  subst q_o9
  have h_j0 := (hs j (by simp only [List.mem_cons, List.not_mem_nil, or_false, not_or]; omega)).trans z_j0
  have h_j1 := (hs (j + 1) (by simp only [List.mem_cons, List.not_mem_nil, or_false, not_or]; omega)).trans z_j1
  have h_j2 := (hs (j + 2) (by simp only [List.mem_cons, List.not_mem_nil, or_false, not_or]; omega)).trans z_j2
  refine lv_aload_n hx hb dX2_become_46 rfl (lv_at hl 0 rfl) ?_
  refine lv_aload_n hx hb dX2_become_47 rfl (lv_at hl 1 rfl) ?_
  refine gf_X2_24 hx hb hts hown hK hP h_j0 dX2_become_48 ?_
  refine pf_X2_24 hx hb hts hown hK hP hD hS h_k0 rfl rfl dX2_become_51 (fun w10 H locs hP hD hk hc hS => ?_)
  have h_k0 : w10[k]? = some (a k, .inr (2, [.ref (a (k + 1)), .ref (a (k + 2)), .long o_seed, .int p_questions, .int p_rightOnes, .int p_wrongOnes, .int p_isKept])) := hc
  have h_j0 := (hk j (by omega)).trans h_j0
  have h_j1 := (hk (j + 1) (by omega)).trans h_j1
  have h_k1 := (hk (k + 1) (by omega)).trans h_k1
  have h_j2 := (hk (j + 2) (by omega)).trans h_j2
  have h_k2 := (hk (k + 2) (by omega)).trans h_k2
  replace hs := sm_k hk (by simp) hs
  refine lv_aload_n hx hb dX2_become_54 rfl (lv_at hl 0 rfl) ?_
  refine lv_aload_n hx hb dX2_become_55 rfl (lv_at hl 1 rfl) ?_
  refine gf_X2_28 hx hb hts hown hK hP h_j0 dX2_become_56 ?_
  refine pf_X2_28 hx hb hts hown hK hP hD hS h_k0 rfl rfl dX2_become_59 (fun w11 H locs hP hD hk hc hS => ?_)
  have h_k0 : w11[k]? = some (a k, .inr (2, [.ref (a (k + 1)), .ref (a (k + 2)), .long o_seed, .int o_questions, .int p_rightOnes, .int p_wrongOnes, .int p_isKept])) := hc
  have h_j0 := (hk j (by omega)).trans h_j0
  have h_j1 := (hk (j + 1) (by omega)).trans h_j1
  have h_k1 := (hk (k + 1) (by omega)).trans h_k1
  have h_j2 := (hk (j + 2) (by omega)).trans h_j2
  have h_k2 := (hk (k + 2) (by omega)).trans h_k2
  replace hs := sm_k hk (by simp) hs
  refine lv_aload_n hx hb dX2_become_62 rfl (lv_at hl 0 rfl) ?_
  refine lv_aload_n hx hb dX2_become_63 rfl (lv_at hl 1 rfl) ?_
  refine gf_X2_32 hx hb hts hown hK hP h_j0 dX2_become_64 ?_
  refine pf_X2_32 hx hb hts hown hK hP hD hS h_k0 rfl rfl dX2_become_67 (fun w12 H locs hP hD hk hc hS => ?_)
  have h_k0 : w12[k]? = some (a k, .inr (2, [.ref (a (k + 1)), .ref (a (k + 2)), .long o_seed, .int o_questions, .int o_rightOnes, .int p_wrongOnes, .int p_isKept])) := hc
  have h_j0 := (hk j (by omega)).trans h_j0
  have h_j1 := (hk (j + 1) (by omega)).trans h_j1
  have h_k1 := (hk (k + 1) (by omega)).trans h_k1
  have h_j2 := (hk (j + 2) (by omega)).trans h_j2
  have h_k2 := (hk (k + 2) (by omega)).trans h_k2
  replace hs := sm_k hk (by simp) hs
  refine lv_aload_n hx hb dX2_become_70 rfl (lv_at hl 0 rfl) ?_
  refine lv_aload_n hx hb dX2_become_71 rfl (lv_at hl 1 rfl) ?_
  refine gf_X2_35 hx hb hts hown hK hP h_j0 dX2_become_72 ?_
  refine pf_X2_35 hx hb hts hown hK hP hD hS h_k0 rfl rfl dX2_become_75 (fun w13 H locs hP hD hk hc hS => ?_)
  have h_k0 : w13[k]? = some (a k, .inr (2, [.ref (a (k + 1)), .ref (a (k + 2)), .long o_seed, .int o_questions, .int o_rightOnes, .int o_wrongOnes, .int p_isKept])) := hc
  have h_j0 := (hk j (by omega)).trans h_j0
  have h_j1 := (hk (j + 1) (by omega)).trans h_j1
  have h_k1 := (hk (k + 1) (by omega)).trans h_k1
  have h_j2 := (hk (j + 2) (by omega)).trans h_j2
  have h_k2 := (hk (k + 2) (by omega)).trans h_k2
  replace hs := sm_k hk (by simp) hs
  obtain rfl := Option.some.inj hF
  rw [hQ]
  exact rw_v X hS hP hD hs ⟨h_k1, h_k2, h_k0⟩ dX2_become_78
def FX8_keep (le_seed : Int64) (le_questions : Int32) (le_rightOnes : Int32) (le_wrongOnes : Int32) (le_dares : Nat → Int32) (le_times : Nat → Int32) (s1_seed : Int64) (s1_questions : Int32) (s1_rightOnes : Int32) (s1_wrongOnes : Int32) (s1_isKept : Int32) (s1_dares : Nat → Int32) (s1_times : Nat → Int32) (s2_seed : Int64) (s2_questions : Int32) (s2_rightOnes : Int32) (s2_wrongOnes : Int32) (s2_isKept : Int32) (s2_dares : Nat → Int32) (s2_times : Nat → Int32) (p1 : Int32) : Option (Int32 × (Nat → Int32) × (Nat → Int32) × Int64 × Int32 × Int32 × Int32 × Int32 × (Nat → Int32) × (Nat → Int32) × Int64 × Int32 × Int32 × Int32 × Int32) :=
  if (FX8_outside p1 (0 : Int32) (1 : Int32)) = true then (some ((-1 : Int32), s1_dares, s1_times, s1_seed, s1_questions, s1_rightOnes, s1_wrongOnes, s1_isKept, s2_dares, s2_times, s2_seed, s2_questions, s2_rightOnes, s2_wrongOnes, s2_isKept)) else (if p1 = 0 then ((FX2_become le_seed le_questions le_rightOnes le_wrongOnes le_dares s1_dares le_times s1_times).bind fun u3 => some (le_questions, u3.1, u3.2.1, u3.2.2.1, u3.2.2.2.1, u3.2.2.2.2.1, u3.2.2.2.2.2, (1 : Int32), s2_dares, s2_times, s2_seed, s2_questions, s2_rightOnes, s2_wrongOnes, s2_isKept)) else ((FX2_become le_seed le_questions le_rightOnes le_wrongOnes le_dares s2_dares le_times s2_times).bind fun u6 => some (le_questions, s1_dares, s1_times, s1_seed, s1_questions, s1_rightOnes, s1_wrongOnes, s1_isKept, u6.1, u6.2.1, u6.2.2.1, u6.2.2.2.1, u6.2.2.2.2.1, u6.2.2.2.2.2, (1 : Int32))))
def rm_X8_keep : Room := { frames := 2, cells := 0, slots := 0, locals := 44 }
set_option maxHeartbeats 4000000 in
set_option maxRecDepth 100000 in
theorem c_X8_keep (l : Launch) (D : va_G) (cI cJ cZ : ClassId) (a : Nat → Nat) (ws0 : va_W) (A : Nat → Prop)  (ro_pupils : Int32) (ro_mood : Int32) (le_seed : Int64) (le_questions : Int32) (le_rightOnes : Int32) (le_wrongOnes : Int32) (le_isKept : Int32) (le_dares : Nat → Int32) (le_times : Nat → Int32) (s1_seed : Int64) (s1_questions : Int32) (s1_rightOnes : Int32) (s1_wrongOnes : Int32) (s1_isKept : Int32) (s1_dares : Nat → Int32) (s1_times : Nat → Int32) (s2_seed : Int64) (s2_questions : Int32) (s2_rightOnes : Int32) (s2_wrongOnes : Int32) (s2_isKept : Int32) (s2_dares : Nat → Int32) (s2_times : Nat → Int32) (p1 : Int32) (u : Int32 × (Nat → Int32) × (Nat → Int32) × Int64 × Int32 × Int32 × Int32 × Int32 × (Nat → Int32) × (Nat → Int32) × Int64 × Int32 × Int32 × Int32 × Int32) (hF : FX8_keep le_seed le_questions le_rightOnes le_wrongOnes le_dares le_times s1_seed s1_questions s1_rightOnes s1_wrongOnes s1_isKept s1_dares s1_times s2_seed s2_questions s2_rightOnes s2_wrongOnes s2_isKept s2_dares s2_times p1 = some u) (z0 : ws0[0]? = some (a 0, .inr (8, [.ref (a 1), .ref (a 3), .ref (a 13), .ref (a 16), .ref (a 22), .ref (a 25), .ref (a 28), .ref (a 33)]))) (z3 : ws0[3]? = some (a 3, .inr (3, [.ref (a 4), .ref (a 5), .ref (a 6), .ref (a 7), .ref (a 8), .ref (a 9), .ref (a 10), .int ro_pupils, .int ro_mood]))) (z10 : ws0[10]? = some (a 10, .inr (2, [.ref (a 11), .ref (a 12), .long le_seed, .int le_questions, .int le_rightOnes, .int le_wrongOnes, .int le_isKept]))) (z11 : ws0[11]? = some (a 11, .inl (cI, 12, .inl le_dares))) (z12 : ws0[12]? = some (a 12, .inl (cI, 12, .inl le_times))) (z22 : ws0[22]? = some (a 22, .inr (2, [.ref (a 23), .ref (a 24), .long s1_seed, .int s1_questions, .int s1_rightOnes, .int s1_wrongOnes, .int s1_isKept]))) (z23 : ws0[23]? = some (a 23, .inl (cI, 12, .inl s1_dares))) (z24 : ws0[24]? = some (a 24, .inl (cI, 12, .inl s1_times))) (z25 : ws0[25]? = some (a 25, .inr (2, [.ref (a 26), .ref (a 27), .long s2_seed, .int s2_questions, .int s2_rightOnes, .int s2_wrongOnes, .int s2_isKept]))) (z26 : ws0[26]? = some (a 26, .inl (cI, 12, .inl s2_dares))) (z27 : ws0[27]? = some (a 27, .inl (cI, 12, .inl s2_times))) (hD : va_D A ws0) : Met l yX8_keep (wq yX8_keep cX8_keep 3 (some .int)) rm_X8_keep (Pq [.ref (a 0), .int p1] D cI cJ cZ ws0) (Qw D A ws0 [23, 24, 22, 26, 27, 25] (some (.int u.1)) (fun w => w[23]? = some (a 23, .inl (cI, 12, .inl u.2.1)) ∧ w[24]? = some (a 24, .inl (cI, 12, .inl u.2.2.1)) ∧ w[22]? = some (a 22, .inr (2, [.ref (a 23), .ref (a 24), .long u.2.2.2.1, .int u.2.2.2.2.1, .int u.2.2.2.2.2.1, .int u.2.2.2.2.2.2.1, .int u.2.2.2.2.2.2.2.1])) ∧ w[26]? = some (a 26, .inl (cI, 12, .inl u.2.2.2.2.2.2.2.2.1)) ∧ w[27]? = some (a 27, .inl (cI, 12, .inl u.2.2.2.2.2.2.2.2.2.1)) ∧ w[25]? = some (a 25, .inr (2, [.ref (a 26), .ref (a 27), .long u.2.2.2.2.2.2.2.2.2.2.1, .int u.2.2.2.2.2.2.2.2.2.2.2.1, .int u.2.2.2.2.2.2.2.2.2.2.2.2.1, .int u.2.2.2.2.2.2.2.2.2.2.2.2.2.1, .int u.2.2.2.2.2.2.2.2.2.2.2.2.2.2])))) 0 0 A := by
  refine mq_of (by decide) (Nat.le_of_ble_eq_true rfl) (fun p e s m args below meth c ls Q hQ X _ hP hl => ?_)
  obtain ⟨hx, hb, hr, hml, hown, hts, hlk, hK, hN⟩ := id X
  have hown : s.vm.findClass RX8 = some m.cls := hown
  have hl : lv_has ls 3 [(0, .ref (a 0)), (1, .int p1)] := hl
  have hS : va_S A s.heap s.heap [] := va_S.rf
  have hs : ∀ j : Nat, j ∉ [23, 24, 22, 26, 27, 25] → ws0[j]? = ws0[j]? := fun _ _ => rfl
  have h0 := z0
  have h3 := z3
  have h10 := z10
  have h11 := z11
  have h12 := z12
  have h22 := z22
  have h23 := z23
  have h24 := z24
  have h25 := z25
  have h26 := z26
  have h27 := z27
  unfold FX8_keep at hF
  refine lv_iload_n hx hb dX8_keep_0 rfl (lv_at hl 1 rfl) ?_
  refine lv_iconst (v := (0 : Int32)) hx hb dX8_keep_1 (by decide) ?_
  refine lv_iconst (v := (1 : Int32)) hx hb dX8_keep_2 (by decide) ?_
  refine rd_i (runS (As := [.int p1, .int (0 : Int32), .int (1 : Int32)]) (rest := []) X cq_X8_outside lk_X8_61 (c_X8_outside l D cI cJ cZ a ws0 p1 (0 : Int32) (1 : Int32) _ rfl ) rfl rfl ⟨Nat.le_of_ble_eq_true rfl, Nat.le_of_ble_eq_true rfl⟩ hP rfl hl.1 rfl (Nat.le_of_ble_eq_true rfl) dX8_keep_3 ⟨Nat.le_of_ble_eq_true rfl, Nat.le_of_ble_eq_true rfl⟩) ?_
  refine zf_eq (tgt := 11) hx hb dX8_keep_6 (by decide) (fun c1 => ?_) (fun c1 => ?_)
  · replace hF := (if_neg c1).symm.trans hF
    refine lv_aload_n hx hb dX8_keep_11 rfl (lv_at hl 0 rfl) ?_
    refine lv_iload_n hx hb dX8_keep_12 rfl (lv_at hl 1 rfl) ?_
    by_cases c2 : p1 = 0
    · replace hF := (if_pos c2).symm.trans hF
      refine rd_a (runV (As := [.int p1]) (rest := []) X cq_X8_slotOf lk_X8_250 (c_X8_slotOf_0 l D cI cJ cZ a ws0 p1 c2 h0) rfl rfl ⟨Nat.le_of_ble_eq_true rfl, Nat.le_of_ble_eq_true rfl⟩ hP h0 rfl rfl hl.1 rfl (Nat.le_of_ble_eq_true rfl) dX8_keep_13 ⟨Nat.le_of_ble_eq_true rfl, Nat.le_of_ble_eq_true rfl⟩) ?_
      refine lv_astore_n (lv' := [(2, .ref (a 22)), (0, .ref (a 0)), (1, .int p1)]) hx hb dX8_keep_16 rfl hl (by decide) rfl (fun ls hl => ?_)
      refine lv_aload_n hx hb dX8_keep_17 rfl (lv_at hl 0 rfl) ?_
      refine lv_aload_n hx hb dX8_keep_18 rfl (lv_at hl 1 rfl) ?_
      refine gf_X8_19 hx hb hts hown hK hP h0 dX8_keep_19 ?_
      refine gf_X8_174 hx hb hts hown hK hN hP h3 dX8_keep_22 ?_
      obtain ⟨u3, hu3, hF⟩ := bd_some hF
      refine wr_v (runVN (As := [.ref (a 10)]) (rest := []) X cq_X2_become lk_X8_254 (c_X2_become l D cI cJ cZ a ws0 A 10 22 s1_seed s1_questions s1_rightOnes s1_wrongOnes s1_isKept le_seed le_questions le_rightOnes le_wrongOnes le_isKept le_dares s1_dares le_times s1_times u3 hu3 h10 h11 h12 h22 h23 h24 hD (by omega)) rfl rfl ⟨Nat.le_of_ble_eq_true rfl, Nat.le_of_ble_eq_true rfl⟩ hP h22 rfl rfl hl.1 rfl (Nat.le_of_ble_eq_true rfl) dX8_keep_25 ⟨Nat.le_of_ble_eq_true rfl, Nat.le_of_ble_eq_true rfl⟩) hS (fun w4 H locs hP hD hk hB hS => ?_)
      obtain ⟨hB0, hB1, hB2⟩ := hB
      have h23 : w4[23]? = some (a 23, .inl (cI, 12, .inl u3.1)) := hB0
      have h24 : w4[24]? = some (a 24, .inl (cI, 12, .inl u3.2.1)) := hB1
      have h22 : w4[22]? = some (a 22, .inr (2, [.ref (a 23), .ref (a 24), .long u3.2.2.1, .int u3.2.2.2.1, .int u3.2.2.2.2.1, .int u3.2.2.2.2.2, .int s1_isKept])) := hB2
      have h0 := (hk 0 (by simp only [List.mem_cons, List.not_mem_nil, or_false, not_or]; omega)).trans h0
      have h3 := (hk 3 (by simp only [List.mem_cons, List.not_mem_nil, or_false, not_or]; omega)).trans h3
      have h10 := (hk 10 (by simp only [List.mem_cons, List.not_mem_nil, or_false, not_or]; omega)).trans h10
      have h11 := (hk 11 (by simp only [List.mem_cons, List.not_mem_nil, or_false, not_or]; omega)).trans h11
      have h12 := (hk 12 (by simp only [List.mem_cons, List.not_mem_nil, or_false, not_or]; omega)).trans h12
      have h25 := (hk 25 (by simp only [List.mem_cons, List.not_mem_nil, or_false, not_or]; omega)).trans h25
      have h26 := (hk 26 (by simp only [List.mem_cons, List.not_mem_nil, or_false, not_or]; omega)).trans h26
      have h27 := (hk 27 (by simp only [List.mem_cons, List.not_mem_nil, or_false, not_or]; omega)).trans h27
      replace hs := st_tr hk (fun j hj => by simp only [List.mem_cons, List.not_mem_nil, or_false] at hj ⊢; omega) hs
      refine lv_aload_n hx hb dX8_keep_28 rfl (lv_at hl 0 rfl) ?_
      refine lv_iconst (v := (1 : Int32)) hx hb dX8_keep_29 (by decide) ?_
      refine pf_X8_80 hx hb hts hown hK hN hP hD hS h22 (by decide) (by decide) dX8_keep_30 (fun w5 H locs hP hD hk hc hS => ?_)
      have h22 : w5[22]? = some (a 22, .inr (2, [.ref (a 23), .ref (a 24), .long u3.2.2.1, .int u3.2.2.2.1, .int u3.2.2.2.2.1, .int u3.2.2.2.2.2, .int (1 : Int32)])) := hc
      have h0 := (hk 0 (by omega)).trans h0
      have h3 := (hk 3 (by omega)).trans h3
      have h10 := (hk 10 (by omega)).trans h10
      have h11 := (hk 11 (by omega)).trans h11
      have h12 := (hk 12 (by omega)).trans h12
      have h23 := (hk 23 (by omega)).trans h23
      have h24 := (hk 24 (by omega)).trans h24
      have h25 := (hk 25 (by omega)).trans h25
      have h26 := (hk 26 (by omega)).trans h26
      have h27 := (hk 27 (by omega)).trans h27
      replace hs := sm_k hk (by simp) hs
      refine lv_aload_n hx hb dX8_keep_33 rfl (lv_at hl 1 rfl) ?_
      refine gf_X8_19 hx hb hts hown hK hP h0 dX8_keep_34 ?_
      refine gf_X8_174 hx hb hts hown hK hN hP h3 dX8_keep_37 ?_
      refine gf_X8_197 hx hb hts hown hK hN hP h10 dX8_keep_40 ?_
      obtain rfl := Option.some.inj hF
      rw [hQ]
      exact rw_i X hS hP hD hs ⟨h23, h24, h22, h26, h27, h25⟩ dX8_keep_43
    · replace hF := (if_neg c2).symm.trans hF
      refine rd_a (runV (As := [.int p1]) (rest := []) X cq_X8_slotOf lk_X8_250 (c_X8_slotOf_1 l D cI cJ cZ a ws0 p1 c2 h0) rfl rfl ⟨Nat.le_of_ble_eq_true rfl, Nat.le_of_ble_eq_true rfl⟩ hP h0 rfl rfl hl.1 rfl (Nat.le_of_ble_eq_true rfl) dX8_keep_13 ⟨Nat.le_of_ble_eq_true rfl, Nat.le_of_ble_eq_true rfl⟩) ?_
      refine lv_astore_n (lv' := [(2, .ref (a 25)), (0, .ref (a 0)), (1, .int p1)]) hx hb dX8_keep_16 rfl hl (by decide) rfl (fun ls hl => ?_)
      refine lv_aload_n hx hb dX8_keep_17 rfl (lv_at hl 0 rfl) ?_
      refine lv_aload_n hx hb dX8_keep_18 rfl (lv_at hl 1 rfl) ?_
      refine gf_X8_19 hx hb hts hown hK hP h0 dX8_keep_19 ?_
      refine gf_X8_174 hx hb hts hown hK hN hP h3 dX8_keep_22 ?_
      obtain ⟨u6, hu6, hF⟩ := bd_some hF
      refine wr_v (runVN (As := [.ref (a 10)]) (rest := []) X cq_X2_become lk_X8_254 (c_X2_become l D cI cJ cZ a ws0 A 10 25 s2_seed s2_questions s2_rightOnes s2_wrongOnes s2_isKept le_seed le_questions le_rightOnes le_wrongOnes le_isKept le_dares s2_dares le_times s2_times u6 hu6 h10 h11 h12 h25 h26 h27 hD (by omega)) rfl rfl ⟨Nat.le_of_ble_eq_true rfl, Nat.le_of_ble_eq_true rfl⟩ hP h25 rfl rfl hl.1 rfl (Nat.le_of_ble_eq_true rfl) dX8_keep_25 ⟨Nat.le_of_ble_eq_true rfl, Nat.le_of_ble_eq_true rfl⟩) hS (fun w7 H locs hP hD hk hB hS => ?_)
      obtain ⟨hB0, hB1, hB2⟩ := hB
      have h26 : w7[26]? = some (a 26, .inl (cI, 12, .inl u6.1)) := hB0
      have h27 : w7[27]? = some (a 27, .inl (cI, 12, .inl u6.2.1)) := hB1
      have h25 : w7[25]? = some (a 25, .inr (2, [.ref (a 26), .ref (a 27), .long u6.2.2.1, .int u6.2.2.2.1, .int u6.2.2.2.2.1, .int u6.2.2.2.2.2, .int s2_isKept])) := hB2
      have h0 := (hk 0 (by simp only [List.mem_cons, List.not_mem_nil, or_false, not_or]; omega)).trans h0
      have h3 := (hk 3 (by simp only [List.mem_cons, List.not_mem_nil, or_false, not_or]; omega)).trans h3
      have h10 := (hk 10 (by simp only [List.mem_cons, List.not_mem_nil, or_false, not_or]; omega)).trans h10
      have h11 := (hk 11 (by simp only [List.mem_cons, List.not_mem_nil, or_false, not_or]; omega)).trans h11
      have h12 := (hk 12 (by simp only [List.mem_cons, List.not_mem_nil, or_false, not_or]; omega)).trans h12
      have h22 := (hk 22 (by simp only [List.mem_cons, List.not_mem_nil, or_false, not_or]; omega)).trans h22
      have h23 := (hk 23 (by simp only [List.mem_cons, List.not_mem_nil, or_false, not_or]; omega)).trans h23
      have h24 := (hk 24 (by simp only [List.mem_cons, List.not_mem_nil, or_false, not_or]; omega)).trans h24
      replace hs := st_tr hk (fun j hj => by simp only [List.mem_cons, List.not_mem_nil, or_false] at hj ⊢; omega) hs
      refine lv_aload_n hx hb dX8_keep_28 rfl (lv_at hl 0 rfl) ?_
      refine lv_iconst (v := (1 : Int32)) hx hb dX8_keep_29 (by decide) ?_
      refine pf_X8_80 hx hb hts hown hK hN hP hD hS h25 (by decide) (by decide) dX8_keep_30 (fun w8 H locs hP hD hk hc hS => ?_)
      have h25 : w8[25]? = some (a 25, .inr (2, [.ref (a 26), .ref (a 27), .long u6.2.2.1, .int u6.2.2.2.1, .int u6.2.2.2.2.1, .int u6.2.2.2.2.2, .int (1 : Int32)])) := hc
      have h0 := (hk 0 (by omega)).trans h0
      have h3 := (hk 3 (by omega)).trans h3
      have h10 := (hk 10 (by omega)).trans h10
      have h11 := (hk 11 (by omega)).trans h11
      have h12 := (hk 12 (by omega)).trans h12
      have h22 := (hk 22 (by omega)).trans h22
      have h23 := (hk 23 (by omega)).trans h23
      have h24 := (hk 24 (by omega)).trans h24
      have h26 := (hk 26 (by omega)).trans h26
      have h27 := (hk 27 (by omega)).trans h27
      replace hs := sm_k hk (by simp) hs
      refine lv_aload_n hx hb dX8_keep_33 rfl (lv_at hl 1 rfl) ?_
      refine gf_X8_19 hx hb hts hown hK hP h0 dX8_keep_34 ?_
      refine gf_X8_174 hx hb hts hown hK hN hP h3 dX8_keep_37 ?_
      refine gf_X8_197 hx hb hts hown hK hN hP h10 dX8_keep_40 ?_
      obtain rfl := Option.some.inj hF
      rw [hQ]
      exact rw_i X hS hP hD hs ⟨h23, h24, h22, h26, h27, h25⟩ dX8_keep_43
  · replace hF := (if_pos c1).symm.trans hF
    refine lv_iconst (v := (-1 : Int32)) hx hb dX8_keep_9 (by decide) ?_
    obtain rfl := Option.some.inj hF
    rw [hQ]
    exact rw_i X hS hP hD hs ⟨h23, h24, h22, h26, h27, h25⟩ dX8_keep_10
def FX8_again (s1_seed : Int64) (s1_questions : Int32) (s1_rightOnes : Int32) (s1_wrongOnes : Int32) (s1_isKept : Int32) (s1_dares : Nat → Int32) (s1_times : Nat → Int32) (le_seed : Int64) (le_questions : Int32) (le_rightOnes : Int32) (le_wrongOnes : Int32) (le_dares : Nat → Int32) (le_times : Nat → Int32) (s2_seed : Int64) (s2_questions : Int32) (s2_rightOnes : Int32) (s2_wrongOnes : Int32) (s2_isKept : Int32) (s2_dares : Nat → Int32) (s2_times : Nat → Int32) (p1 : Int32) : Option (Int32 × (Nat → Int32) × (Nat → Int32) × Int64 × Int32 × Int32 × Int32) :=
  if (FX8_outside p1 (0 : Int32) (1 : Int32)) = true then (some ((-1 : Int32), le_dares, le_times, le_seed, le_questions, le_rightOnes, le_wrongOnes)) else (if p1 = 0 then (if s1_isKept = 0 then (some ((-3 : Int32), le_dares, le_times, le_seed, le_questions, le_rightOnes, le_wrongOnes)) else ((FX2_become s1_seed s1_questions s1_rightOnes s1_wrongOnes s1_dares le_dares s1_times le_times).bind fun u4 => some (u4.2.2.2.1, u4.1, u4.2.1, u4.2.2.1, u4.2.2.2.1, u4.2.2.2.2.1, u4.2.2.2.2.2))) else (if s2_isKept = 0 then (some ((-3 : Int32), le_dares, le_times, le_seed, le_questions, le_rightOnes, le_wrongOnes)) else ((FX2_become s2_seed s2_questions s2_rightOnes s2_wrongOnes s2_dares le_dares s2_times le_times).bind fun u7 => some (u7.2.2.2.1, u7.1, u7.2.1, u7.2.2.1, u7.2.2.2.1, u7.2.2.2.2.1, u7.2.2.2.2.2))))
def rm_X8_again : Room := { frames := 2, cells := 0, slots := 0, locals := 44 }
set_option maxHeartbeats 4000000 in
set_option maxRecDepth 100000 in
theorem c_X8_again (l : Launch) (D : va_G) (cI cJ cZ : ClassId) (a : Nat → Nat) (ws0 : va_W) (A : Nat → Prop)  (s1_seed : Int64) (s1_questions : Int32) (s1_rightOnes : Int32) (s1_wrongOnes : Int32) (s1_isKept : Int32) (ro_pupils : Int32) (ro_mood : Int32) (s1_dares : Nat → Int32) (s1_times : Nat → Int32) (le_seed : Int64) (le_questions : Int32) (le_rightOnes : Int32) (le_wrongOnes : Int32) (le_isKept : Int32) (le_dares : Nat → Int32) (le_times : Nat → Int32) (s2_seed : Int64) (s2_questions : Int32) (s2_rightOnes : Int32) (s2_wrongOnes : Int32) (s2_isKept : Int32) (s2_dares : Nat → Int32) (s2_times : Nat → Int32) (p1 : Int32) (u : Int32 × (Nat → Int32) × (Nat → Int32) × Int64 × Int32 × Int32 × Int32) (hF : FX8_again s1_seed s1_questions s1_rightOnes s1_wrongOnes s1_isKept s1_dares s1_times le_seed le_questions le_rightOnes le_wrongOnes le_dares le_times s2_seed s2_questions s2_rightOnes s2_wrongOnes s2_isKept s2_dares s2_times p1 = some u) (z0 : ws0[0]? = some (a 0, .inr (8, [.ref (a 1), .ref (a 3), .ref (a 13), .ref (a 16), .ref (a 22), .ref (a 25), .ref (a 28), .ref (a 33)]))) (z3 : ws0[3]? = some (a 3, .inr (3, [.ref (a 4), .ref (a 5), .ref (a 6), .ref (a 7), .ref (a 8), .ref (a 9), .ref (a 10), .int ro_pupils, .int ro_mood]))) (z10 : ws0[10]? = some (a 10, .inr (2, [.ref (a 11), .ref (a 12), .long le_seed, .int le_questions, .int le_rightOnes, .int le_wrongOnes, .int le_isKept]))) (z11 : ws0[11]? = some (a 11, .inl (cI, 12, .inl le_dares))) (z12 : ws0[12]? = some (a 12, .inl (cI, 12, .inl le_times))) (z22 : ws0[22]? = some (a 22, .inr (2, [.ref (a 23), .ref (a 24), .long s1_seed, .int s1_questions, .int s1_rightOnes, .int s1_wrongOnes, .int s1_isKept]))) (z23 : ws0[23]? = some (a 23, .inl (cI, 12, .inl s1_dares))) (z24 : ws0[24]? = some (a 24, .inl (cI, 12, .inl s1_times))) (z25 : ws0[25]? = some (a 25, .inr (2, [.ref (a 26), .ref (a 27), .long s2_seed, .int s2_questions, .int s2_rightOnes, .int s2_wrongOnes, .int s2_isKept]))) (z26 : ws0[26]? = some (a 26, .inl (cI, 12, .inl s2_dares))) (z27 : ws0[27]? = some (a 27, .inl (cI, 12, .inl s2_times))) (hD : va_D A ws0) : Met l yX8_again (wq yX8_again cX8_again 3 (some .int)) rm_X8_again (Pq [.ref (a 0), .int p1] D cI cJ cZ ws0) (Qw D A ws0 [11, 12, 10] (some (.int u.1)) (fun w => w[11]? = some (a 11, .inl (cI, 12, .inl u.2.1)) ∧ w[12]? = some (a 12, .inl (cI, 12, .inl u.2.2.1)) ∧ w[10]? = some (a 10, .inr (2, [.ref (a 11), .ref (a 12), .long u.2.2.2.1, .int u.2.2.2.2.1, .int u.2.2.2.2.2.1, .int u.2.2.2.2.2.2, .int le_isKept])))) 0 0 A := by
  refine mq_of (by decide) (Nat.le_of_ble_eq_true rfl) (fun p e s m args below meth c ls Q hQ X _ hP hl => ?_)
  obtain ⟨hx, hb, hr, hml, hown, hts, hlk, hK, hN⟩ := id X
  have hown : s.vm.findClass RX8 = some m.cls := hown
  have hl : lv_has ls 3 [(0, .ref (a 0)), (1, .int p1)] := hl
  have hS : va_S A s.heap s.heap [] := va_S.rf
  have hs : ∀ j : Nat, j ∉ [11, 12, 10] → ws0[j]? = ws0[j]? := fun _ _ => rfl
  have h0 := z0
  have h3 := z3
  have h10 := z10
  have h11 := z11
  have h12 := z12
  have h22 := z22
  have h23 := z23
  have h24 := z24
  have h25 := z25
  have h26 := z26
  have h27 := z27
  unfold FX8_again at hF
  refine lv_iload_n hx hb dX8_again_0 rfl (lv_at hl 1 rfl) ?_
  refine lv_iconst (v := (0 : Int32)) hx hb dX8_again_1 (by decide) ?_
  refine lv_iconst (v := (1 : Int32)) hx hb dX8_again_2 (by decide) ?_
  refine rd_i (runS (As := [.int p1, .int (0 : Int32), .int (1 : Int32)]) (rest := []) X cq_X8_outside lk_X8_61 (c_X8_outside l D cI cJ cZ a ws0 p1 (0 : Int32) (1 : Int32) _ rfl ) rfl rfl ⟨Nat.le_of_ble_eq_true rfl, Nat.le_of_ble_eq_true rfl⟩ hP rfl hl.1 rfl (Nat.le_of_ble_eq_true rfl) dX8_again_3 ⟨Nat.le_of_ble_eq_true rfl, Nat.le_of_ble_eq_true rfl⟩) ?_
  refine zf_eq (tgt := 11) hx hb dX8_again_6 (by decide) (fun c1 => ?_) (fun c1 => ?_)
  · replace hF := (if_neg c1).symm.trans hF
    refine lv_aload_n hx hb dX8_again_11 rfl (lv_at hl 0 rfl) ?_
    refine lv_iload_n hx hb dX8_again_12 rfl (lv_at hl 1 rfl) ?_
    by_cases c2 : p1 = 0
    · replace hF := (if_pos c2).symm.trans hF
      refine rd_a (runV (As := [.int p1]) (rest := []) X cq_X8_slotOf lk_X8_250 (c_X8_slotOf_0 l D cI cJ cZ a ws0 p1 c2 h0) rfl rfl ⟨Nat.le_of_ble_eq_true rfl, Nat.le_of_ble_eq_true rfl⟩ hP h0 rfl rfl hl.1 rfl (Nat.le_of_ble_eq_true rfl) dX8_again_13 ⟨Nat.le_of_ble_eq_true rfl, Nat.le_of_ble_eq_true rfl⟩) ?_
      refine lv_astore_n (lv' := [(2, .ref (a 22)), (0, .ref (a 0)), (1, .int p1)]) hx hb dX8_again_16 rfl hl (by decide) rfl (fun ls hl => ?_)
      refine lv_aload_n hx hb dX8_again_17 rfl (lv_at hl 0 rfl) ?_
      refine gf_X8_80 hx hb hts hown hK hN hP h22 dX8_again_18 ?_
      refine lv_if_ne (tgt := 27) hx hb dX8_again_21 (by decide) (fun c3 => ?_) (fun c3 => ?_)
      · replace hF := (if_neg c3).symm.trans hF
        refine lv_aload_n hx hb dX8_again_27 rfl (lv_at hl 1 rfl) ?_
        refine gf_X8_19 hx hb hts hown hK hP h0 dX8_again_28 ?_
        refine gf_X8_174 hx hb hts hown hK hN hP h3 dX8_again_31 ?_
        refine lv_aload_n hx hb dX8_again_34 rfl (lv_at hl 0 rfl) ?_
        obtain ⟨u4, hu4, hF⟩ := bd_some hF
        refine wr_v (runVN (As := [.ref (a 22)]) (rest := []) X cq_X2_become lk_X8_254 (c_X2_become l D cI cJ cZ a ws0 A 22 10 le_seed le_questions le_rightOnes le_wrongOnes le_isKept s1_seed s1_questions s1_rightOnes s1_wrongOnes s1_isKept s1_dares le_dares s1_times le_times u4 hu4 h22 h23 h24 h10 h11 h12 hD (by omega)) rfl rfl ⟨Nat.le_of_ble_eq_true rfl, Nat.le_of_ble_eq_true rfl⟩ hP h10 rfl rfl hl.1 rfl (Nat.le_of_ble_eq_true rfl) dX8_again_35 ⟨Nat.le_of_ble_eq_true rfl, Nat.le_of_ble_eq_true rfl⟩) hS (fun w5 H locs hP hD hk hB hS => ?_)
        obtain ⟨hB0, hB1, hB2⟩ := hB
        have h11 : w5[11]? = some (a 11, .inl (cI, 12, .inl u4.1)) := hB0
        have h12 : w5[12]? = some (a 12, .inl (cI, 12, .inl u4.2.1)) := hB1
        have h10 : w5[10]? = some (a 10, .inr (2, [.ref (a 11), .ref (a 12), .long u4.2.2.1, .int u4.2.2.2.1, .int u4.2.2.2.2.1, .int u4.2.2.2.2.2, .int le_isKept])) := hB2
        have h0 := (hk 0 (by simp only [List.mem_cons, List.not_mem_nil, or_false, not_or]; omega)).trans h0
        have h22 := (hk 22 (by simp only [List.mem_cons, List.not_mem_nil, or_false, not_or]; omega)).trans h22
        have h3 := (hk 3 (by simp only [List.mem_cons, List.not_mem_nil, or_false, not_or]; omega)).trans h3
        have h23 := (hk 23 (by simp only [List.mem_cons, List.not_mem_nil, or_false, not_or]; omega)).trans h23
        have h24 := (hk 24 (by simp only [List.mem_cons, List.not_mem_nil, or_false, not_or]; omega)).trans h24
        have h25 := (hk 25 (by simp only [List.mem_cons, List.not_mem_nil, or_false, not_or]; omega)).trans h25
        have h26 := (hk 26 (by simp only [List.mem_cons, List.not_mem_nil, or_false, not_or]; omega)).trans h26
        have h27 := (hk 27 (by simp only [List.mem_cons, List.not_mem_nil, or_false, not_or]; omega)).trans h27
        replace hs := st_tr hk (fun j hj => by simp only [List.mem_cons, List.not_mem_nil, or_false] at hj ⊢; omega) hs
        refine lv_aload_n hx hb dX8_again_38 rfl (lv_at hl 1 rfl) ?_
        refine gf_X8_19 hx hb hts hown hK hP h0 dX8_again_39 ?_
        refine gf_X8_174 hx hb hts hown hK hN hP h3 dX8_again_42 ?_
        refine gf_X8_197 hx hb hts hown hK hN hP h10 dX8_again_45 ?_
        obtain rfl := Option.some.inj hF
        rw [hQ]
        exact rw_i X hS hP hD hs ⟨h11, h12, h10⟩ dX8_again_48
      · replace hF := (if_pos c3).symm.trans hF
        refine lv_bipush (v := (-3 : Int32)) hx hb dX8_again_24 (by decide) ?_
        obtain rfl := Option.some.inj hF
        rw [hQ]
        exact rw_i X hS hP hD hs ⟨h11, h12, h10⟩ dX8_again_26
    · replace hF := (if_neg c2).symm.trans hF
      refine rd_a (runV (As := [.int p1]) (rest := []) X cq_X8_slotOf lk_X8_250 (c_X8_slotOf_1 l D cI cJ cZ a ws0 p1 c2 h0) rfl rfl ⟨Nat.le_of_ble_eq_true rfl, Nat.le_of_ble_eq_true rfl⟩ hP h0 rfl rfl hl.1 rfl (Nat.le_of_ble_eq_true rfl) dX8_again_13 ⟨Nat.le_of_ble_eq_true rfl, Nat.le_of_ble_eq_true rfl⟩) ?_
      refine lv_astore_n (lv' := [(2, .ref (a 25)), (0, .ref (a 0)), (1, .int p1)]) hx hb dX8_again_16 rfl hl (by decide) rfl (fun ls hl => ?_)
      refine lv_aload_n hx hb dX8_again_17 rfl (lv_at hl 0 rfl) ?_
      refine gf_X8_80 hx hb hts hown hK hN hP h25 dX8_again_18 ?_
      refine lv_if_ne (tgt := 27) hx hb dX8_again_21 (by decide) (fun c6 => ?_) (fun c6 => ?_)
      · replace hF := (if_neg c6).symm.trans hF
        refine lv_aload_n hx hb dX8_again_27 rfl (lv_at hl 1 rfl) ?_
        refine gf_X8_19 hx hb hts hown hK hP h0 dX8_again_28 ?_
        refine gf_X8_174 hx hb hts hown hK hN hP h3 dX8_again_31 ?_
        refine lv_aload_n hx hb dX8_again_34 rfl (lv_at hl 0 rfl) ?_
        obtain ⟨u7, hu7, hF⟩ := bd_some hF
        refine wr_v (runVN (As := [.ref (a 25)]) (rest := []) X cq_X2_become lk_X8_254 (c_X2_become l D cI cJ cZ a ws0 A 25 10 le_seed le_questions le_rightOnes le_wrongOnes le_isKept s2_seed s2_questions s2_rightOnes s2_wrongOnes s2_isKept s2_dares le_dares s2_times le_times u7 hu7 h25 h26 h27 h10 h11 h12 hD (by omega)) rfl rfl ⟨Nat.le_of_ble_eq_true rfl, Nat.le_of_ble_eq_true rfl⟩ hP h10 rfl rfl hl.1 rfl (Nat.le_of_ble_eq_true rfl) dX8_again_35 ⟨Nat.le_of_ble_eq_true rfl, Nat.le_of_ble_eq_true rfl⟩) hS (fun w8 H locs hP hD hk hB hS => ?_)
        obtain ⟨hB0, hB1, hB2⟩ := hB
        have h11 : w8[11]? = some (a 11, .inl (cI, 12, .inl u7.1)) := hB0
        have h12 : w8[12]? = some (a 12, .inl (cI, 12, .inl u7.2.1)) := hB1
        have h10 : w8[10]? = some (a 10, .inr (2, [.ref (a 11), .ref (a 12), .long u7.2.2.1, .int u7.2.2.2.1, .int u7.2.2.2.2.1, .int u7.2.2.2.2.2, .int le_isKept])) := hB2
        have h0 := (hk 0 (by simp only [List.mem_cons, List.not_mem_nil, or_false, not_or]; omega)).trans h0
        have h22 := (hk 22 (by simp only [List.mem_cons, List.not_mem_nil, or_false, not_or]; omega)).trans h22
        have h3 := (hk 3 (by simp only [List.mem_cons, List.not_mem_nil, or_false, not_or]; omega)).trans h3
        have h23 := (hk 23 (by simp only [List.mem_cons, List.not_mem_nil, or_false, not_or]; omega)).trans h23
        have h24 := (hk 24 (by simp only [List.mem_cons, List.not_mem_nil, or_false, not_or]; omega)).trans h24
        have h25 := (hk 25 (by simp only [List.mem_cons, List.not_mem_nil, or_false, not_or]; omega)).trans h25
        have h26 := (hk 26 (by simp only [List.mem_cons, List.not_mem_nil, or_false, not_or]; omega)).trans h26
        have h27 := (hk 27 (by simp only [List.mem_cons, List.not_mem_nil, or_false, not_or]; omega)).trans h27
        replace hs := st_tr hk (fun j hj => by simp only [List.mem_cons, List.not_mem_nil, or_false] at hj ⊢; omega) hs
        refine lv_aload_n hx hb dX8_again_38 rfl (lv_at hl 1 rfl) ?_
        refine gf_X8_19 hx hb hts hown hK hP h0 dX8_again_39 ?_
        refine gf_X8_174 hx hb hts hown hK hN hP h3 dX8_again_42 ?_
        refine gf_X8_197 hx hb hts hown hK hN hP h10 dX8_again_45 ?_
        obtain rfl := Option.some.inj hF
        rw [hQ]
        exact rw_i X hS hP hD hs ⟨h11, h12, h10⟩ dX8_again_48
      · replace hF := (if_pos c6).symm.trans hF
        refine lv_bipush (v := (-3 : Int32)) hx hb dX8_again_24 (by decide) ?_
        obtain rfl := Option.some.inj hF
        rw [hQ]
        exact rw_i X hS hP hD hs ⟨h11, h12, h10⟩ dX8_again_26
  · replace hF := (if_pos c1).symm.trans hF
    refine lv_iconst (v := (-1 : Int32)) hx hb dX8_again_9 (by decide) ?_
    obtain rfl := Option.some.inj hF
    rw [hQ]
    exact rw_i X hS hP hD hs ⟨h11, h12, h10⟩ dX8_again_10
def FX8_count (tx_length : Int32) (ro_pupils : Int32) (ta_size : Int32) (tr_waited : Int32) (tr_size : Int32) (p1 : Int32) : Int32 :=
  if p1 = (0 : Int32) then tx_length else if p1 = (1 : Int32) then ro_pupils else if p1 = (2 : Int32) then ta_size else if p1 = (3 : Int32) then tr_size else if p1 = (4 : Int32) then (FJ6_bitCount_0f7a4 tr_waited) else (-2 : Int32)
def rm_X8_count : Room := { frames := 1, cells := 0, slots := 0, locals := 20 }
set_option maxHeartbeats 4000000 in
set_option maxRecDepth 100000 in
theorem c_X8_count (l : Launch) (D : va_G) (cI cJ cZ : ClassId) (a : Nat → Nat) (ws0 : va_W)  (tx_length : Int32) (ro_pupils : Int32) (ro_mood : Int32) (ta_size : Int32) (tr_waited : Int32) (tr_size : Int32) (p1 : Int32) (u : Int32) (hF : FX8_count tx_length ro_pupils ta_size tr_waited tr_size p1 = u) (h0 : ws0[0]? = some (a 0, .inr (8, [.ref (a 1), .ref (a 3), .ref (a 13), .ref (a 16), .ref (a 22), .ref (a 25), .ref (a 28), .ref (a 33)]))) (h1 : ws0[1]? = some (a 1, .inr (6, [.ref (a 2), .int tx_length]))) (h3 : ws0[3]? = some (a 3, .inr (3, [.ref (a 4), .ref (a 5), .ref (a 6), .ref (a 7), .ref (a 8), .ref (a 9), .ref (a 10), .int ro_pupils, .int ro_mood]))) (h28 : ws0[28]? = some (a 28, .inr (5, [.ref (a 29), .ref (a 30), .ref (a 31), .int ta_size]))) (h33 : ws0[33]? = some (a 33, .inr (7, [.ref (a 34), .int tr_waited, .int tr_size]))) : Met l yX8_count (wq yX8_count cX8_count 2 (some .int)) rm_X8_count (Pq [.ref (a 0), .int p1] D cI cJ cZ ws0) (Qq (some (.int u))) 0 0 (fun _ => False) := by
  refine mq_of (by decide) (Nat.le_of_ble_eq_true rfl) (fun p e s m args below meth c ls Q hQ X _ hP hl => ?_)
  obtain ⟨hx, hb, hr, hml, hown, hts, hlk, hK, hN⟩ := id X
  have hown : s.vm.findClass RX8 = some m.cls := hown
  have hl : lv_has ls 2 [(0, .ref (a 0)), (1, .int p1)] := hl
  unfold FX8_count at hF
  refine lv_iload_n hx hb dX8_count_0 rfl (lv_at hl 1 rfl) ?_
  by_cases c1 : p1 = (0 : Int32)
  · replace hF := (if_pos c1).symm.trans hF
    refine lv_tableIn (tgt := 36) (off := 35) hx hb dX8_count_1 (by rw [c1]; decide) (by rw [c1]; decide) (by rw [c1]; rfl) (by decide) ?_
    refine lv_aload_n hx hb dX8_count_36 rfl (lv_at hl 0 rfl) ?_
    refine gf_X8_10 hx hb hts hown hK hP h0 dX8_count_37 ?_
    refine gf_X8_258 hx hb hts hown hK hN hP h1 dX8_count_40 ?_
    subst hF
    rw [hQ]
    exact rt_i X dX8_count_43
  replace hF := (if_neg c1).symm.trans hF
  by_cases c2 : p1 = (1 : Int32)
  · replace hF := (if_pos c2).symm.trans hF
    refine lv_tableIn (tgt := 44) (off := 43) hx hb dX8_count_1 (by rw [c2]; decide) (by rw [c2]; decide) (by rw [c2]; rfl) (by decide) ?_
    refine lv_aload_n hx hb dX8_count_44 rfl (lv_at hl 0 rfl) ?_
    refine gf_X8_19 hx hb hts hown hK hP h0 dX8_count_45 ?_
    refine gf_X8_84 hx hb hts hown hK hN hP h3 dX8_count_48 ?_
    subst hF
    rw [hQ]
    exact rt_i X dX8_count_51
  replace hF := (if_neg c2).symm.trans hF
  by_cases c3 : p1 = (2 : Int32)
  · replace hF := (if_pos c3).symm.trans hF
    refine lv_tableIn (tgt := 52) (off := 51) hx hb dX8_count_1 (by rw [c3]; decide) (by rw [c3]; decide) (by rw [c3]; rfl) (by decide) ?_
    refine lv_aload_n hx hb dX8_count_52 rfl (lv_at hl 0 rfl) ?_
    refine gf_X8_50 hx hb hts hown hK hP h0 dX8_count_53 ?_
    refine gf_X8_261 hx hb hts hown hK hN hP h28 dX8_count_56 ?_
    subst hF
    rw [hQ]
    exact rt_i X dX8_count_59
  replace hF := (if_neg c3).symm.trans hF
  by_cases c4 : p1 = (3 : Int32)
  · replace hF := (if_pos c4).symm.trans hF
    refine lv_tableIn (tgt := 60) (off := 59) hx hb dX8_count_1 (by rw [c4]; decide) (by rw [c4]; decide) (by rw [c4]; rfl) (by decide) ?_
    refine lv_aload_n hx hb dX8_count_60 rfl (lv_at hl 0 rfl) ?_
    refine gf_X8_57 hx hb hts hown hK hP h0 dX8_count_61 ?_
    refine gf_X8_264 hx hb hts hown hK hN hP h33 dX8_count_64 ?_
    subst hF
    rw [hQ]
    exact rt_i X dX8_count_67
  replace hF := (if_neg c4).symm.trans hF
  by_cases c5 : p1 = (4 : Int32)
  · replace hF := (if_pos c5).symm.trans hF
    refine lv_tableIn (tgt := 68) (off := 67) hx hb dX8_count_1 (by rw [c5]; decide) (by rw [c5]; decide) (by rw [c5]; rfl) (by decide) ?_
    refine lv_aload_n hx hb dX8_count_68 rfl (lv_at hl 0 rfl) ?_
    refine gf_X8_57 hx hb hts hown hK hP h0 dX8_count_69 ?_
    refine gf_X8_265 hx hb hts hown hK hN hP h33 dX8_count_72 ?_
    refine rd_i (runS (As := [.int tr_waited]) (rest := []) X cq_J6_bitCount_0f7a4 lk_X8_268 (c_J6_bitCount_0f7a4 l D cI cJ cZ a ws0 tr_waited _ rfl ) rfl rfl ⟨Nat.le_of_ble_eq_true rfl, Nat.le_of_ble_eq_true rfl⟩ hP rfl hl.1 rfl (Nat.le_of_ble_eq_true rfl) dX8_count_75 ⟨Nat.le_of_ble_eq_true rfl, Nat.le_of_ble_eq_true rfl⟩) ?_
    subst hF
    rw [hQ]
    exact rt_i X dX8_count_78
  replace hF := (if_neg c5).symm.trans hF
  have zc1 : ¬ p1.toInt = 0 := fun q => c1 (Int32.toInt_inj.mp (q.trans (by decide)))
  have zc2 : ¬ p1.toInt = 1 := fun q => c2 (Int32.toInt_inj.mp (q.trans (by decide)))
  have zc3 : ¬ p1.toInt = 2 := fun q => c3 (Int32.toInt_inj.mp (q.trans (by decide)))
  have zc4 : ¬ p1.toInt = 3 := fun q => c4 (Int32.toInt_inj.mp (q.trans (by decide)))
  have zc5 : ¬ p1.toInt = 4 := fun q => c5 (Int32.toInt_inj.mp (q.trans (by decide)))
  refine lv_tableOut (tgt := 79) hx hb dX8_count_1 (by omega) (by decide) ?_
  refine lv_bipush (v := (-2 : Int32)) hx hb dX8_count_79 (by decide) ?_
  subst hF
  rw [hQ]
  exact rt_i X dX8_count_81
def FX9_in (p1 : Int64) (p2 : Int64) (p3 : Int64) : Bool :=
  if p1 < p2 then false else (if p3 < p1 then false else true)
def rm_X9_in : Room := { frames := 0, cells := 0, slots := 0, locals := 0 }
set_option maxHeartbeats 4000000 in
set_option maxRecDepth 100000 in
theorem c_X9_in (l : Launch) (D : va_G) (cI cJ cZ : ClassId) (a : Nat → Nat) (ws0 : va_W)   (p1 : Int64) (p2 : Int64) (p3 : Int64) (u : Bool) (hF : FX9_in p1 p2 p3 = u) : Met l yX9_in (wq yX9_in cX9_in 6 (some .boolean)) rm_X9_in (Pq [.long p1, .long p2, .long p3] D cI cJ cZ ws0) (Qq (some (.int (bi u)))) 0 0 (fun _ => False) := by
  refine mq_of (by decide) (Nat.le_of_ble_eq_true rfl) (fun p e s m args below meth c ls Q hQ X _ hP hl => ?_)
  obtain ⟨hx, hb, hr, hml, hown, hts, hlk, hK, hN⟩ := id X
  have hown : s.vm.findClass RX9 = some m.cls := hown
  have hl : lv_has ls 6 [(0, .long p1), (2, .long p2), (4, .long p3)] := hl
  unfold FX9_in at hF
  refine lv_lload_n hx hb dX9_in_0 rfl (lv_at hl 0 rfl) ?_
  refine lv_lload_n hx hb dX9_in_1 rfl (lv_at hl 1 rfl) ?_
  refine W.lcmp hx hb dX9_in_2 ?_
  refine lv_if_lt (tgt := 17) hx hb dX9_in_3 (by decide) (fun c1 => ?_) (fun c1 => ?_)
  · replace c1 := (lc_lt p1 p2).mp c1
    replace hF := (if_pos c1).symm.trans hF
    refine lv_iconst (v := (0 : Int32)) hx hb dX9_in_17 (by decide) ?_
    subst hF
    rw [hQ]
    exact rt_z (b := false) X dX9_in_18
  · replace c1 := fun q => c1 ((lc_lt p1 p2).mpr q)
    replace hF := (if_neg c1).symm.trans hF
    refine lv_lload_n hx hb dX9_in_6 rfl (lv_at hl 0 rfl) ?_
    refine lv_lload hx hb dX9_in_7 (lv_at hl 2 rfl) ?_
    refine W.lcmp hx hb dX9_in_9 ?_
    refine lv_if_gt (tgt := 17) hx hb dX9_in_10 (by decide) (fun c2 => ?_) (fun c2 => ?_)
    · replace c2 := (lc_gt p1 p3).mp c2
      replace hF := (if_pos c2).symm.trans hF
      refine lv_iconst (v := (0 : Int32)) hx hb dX9_in_17 (by decide) ?_
      subst hF
      rw [hQ]
      exact rt_z (b := false) X dX9_in_18
    · replace c2 := fun q => c2 ((lc_gt p1 p3).mpr q)
      replace hF := (if_neg c2).symm.trans hF
      refine lv_iconst (v := (1 : Int32)) hx hb dX9_in_13 (by decide) ?_
      refine lv_goto (tgt := 18) hx hb dX9_in_14 (by decide) ?_
      subst hF
      rw [hQ]
      exact rt_z (b := true) X dX9_in_18
def FX9_write_S34 (p2 : Int64) (x3 : Int32) (x4 : Nat → Int32) (x5 : Int32) : Option ((Int32 × (Nat → Int32) × Int32) ⊕ ((Nat → Int32) × Int32)) :=
  if x3 < 0 then (some (.inr (x4, x5))) else (if x5 < 0 ∨ 72 ≤ x5.toNatClampNeg then none else some (.inl (x3 + (-1 : Int32), upd x4 x5.toNatClampNeg (((p2 >>> (((8 : Int32) * x3).toInt64 &&& 63)) &&& (255 : Int64)).toInt32), x5 + (1 : Int32))))
def FX9_write (m_length : Int32) (m_text : Nat → Int32) (p1 : Int32) (p2 : Int64) : Option (Int32 × (Nat → Int32) × Int32) :=
  if (FX9_in p1.toInt64 (1 : Int64) (8 : Int64)) = true then (if (m_length + p1) ≤ (72 : Int32) then ((itr (fun v => FX9_write_S34 p2 v.1 v.2.1 v.2.2) fu (p1 - (1 : Int32), m_text, m_length)).bind fun o10 => some (o10.2, o10.1, o10.2)) else (some ((-4 : Int32), m_text, m_length))) else (some ((-2 : Int32), m_text, m_length))
def rm_X9_write : Room := { frames := 1, cells := 0, slots := 0, locals := 25 }
set_option maxHeartbeats 4000000 in
set_option maxRecDepth 100000 in
theorem c_X9_write (l : Launch) (D : va_G) (cI cJ cZ : ClassId) (a : Nat → Nat) (ws0 : va_W) (A : Nat → Prop)  (m_readMany : Int32) (m_pupils : Int32) (m_mood : Int32) (m_length : Int32) (m_at : Int32) (m_faultAt : Int32) (m_drawn : Int64) (m_questions : Int32) (m_rights : Int32) (m_wrongs : Int32) (m_tapes : Int32) (m_trials : Int32) (m_text : Nat → Int32) (p1 : Int32) (p2 : Int64) (u : Int32 × (Nat → Int32) × Int32) (hF : FX9_write m_length m_text p1 p2 = some u) (z35 : ws0[35]? = some (a 35, .inr (9, [.ref (a 36), .int m_readMany, .ref (a 37), .int m_pupils, .ref (a 38), .ref (a 39), .int m_mood, .ref (a 40), .int m_length, .int m_at, .int m_faultAt, .ref (a 41), .ref (a 42), .long m_drawn, .int m_questions, .int m_rights, .int m_wrongs, .int m_tapes, .ref (a 43), .ref (a 44), .int m_trials, .ref (a 45), .ref (a 46), .ref (a 47), .ref (a 48), .ref (a 49), .ref (a 50), .ref (a 51)]))) (z40 : ws0[40]? = some (a 40, .inl (cI, 72, .inl m_text))) (hD : va_D A ws0) : Met l yX9_write (wq yX9_write cX9_write 5 (some .int)) rm_X9_write (Pq [.ref (a 35), .int p1, .long p2] D cI cJ cZ ws0) (Qw D A ws0 [40, 35] (some (.int u.1)) (fun w => w[40]? = some (a 40, .inl (cI, 72, .inl u.2.1)) ∧ w[35]? = some (a 35, .inr (9, [.ref (a 36), .int m_readMany, .ref (a 37), .int m_pupils, .ref (a 38), .ref (a 39), .int m_mood, .ref (a 40), .int u.2.2, .int m_at, .int m_faultAt, .ref (a 41), .ref (a 42), .long m_drawn, .int m_questions, .int m_rights, .int m_wrongs, .int m_tapes, .ref (a 43), .ref (a 44), .int m_trials, .ref (a 45), .ref (a 46), .ref (a 47), .ref (a 48), .ref (a 49), .ref (a 50), .ref (a 51)])))) 0 0 A := by
  refine mq_of (by decide) (Nat.le_of_ble_eq_true rfl) (fun p e s m args below meth c ls Q hQ X _ hP hl => ?_)
  obtain ⟨hx, hb, hr, hml, hown, hts, hlk, hK, hN⟩ := id X
  have hown : s.vm.findClass RX9 = some m.cls := hown
  have hl : lv_has ls 5 [(0, .ref (a 35)), (1, .int p1), (2, .long p2)] := hl
  have hS : va_S A s.heap s.heap [] := va_S.rf
  have hs : ∀ j : Nat, j ∉ [40, 35] → ws0[j]? = ws0[j]? := fun _ _ => rfl
  have h35 := z35
  have h40 := z40
  unfold FX9_write at hF
  refine lv_iload_n hx hb dX9_write_0 rfl (lv_at hl 1 rfl) ?_
  refine lv_i2l hx hb dX9_write_1 rfl ?_
  refine lv_lconst (v := (1 : Int64)) hx hb dX9_write_2 (by decide) ?_
  refine lv_ldc2 (v := (8 : Int64)) hx hb hown (hts _ kl_X9_64) dX9_write_3 ?_
  refine rd_i (runS (As := [.long p1.toInt64, .long (1 : Int64), .long (8 : Int64)]) (rest := []) X cq_X9_in lk_X9_66 (c_X9_in l D cI cJ cZ a ws0 p1.toInt64 (1 : Int64) (8 : Int64) _ rfl ) rfl rfl ⟨Nat.le_of_ble_eq_true rfl, Nat.le_of_ble_eq_true rfl⟩ hP rfl hl.1 rfl (Nat.le_of_ble_eq_true rfl) dX9_write_6 ⟨Nat.le_of_ble_eq_true rfl, Nat.le_of_ble_eq_true rfl⟩) ?_
  refine zf_ne (tgt := 15) hx hb dX9_write_9 (by decide) (fun c1 => ?_) (fun c1 => ?_)
  · replace hF := (if_pos c1).symm.trans hF
    refine lv_aload_n hx hb dX9_write_15 rfl (lv_at hl 0 rfl) ?_
    refine gf_X9_70 hx hb hts hown hK hP h35 dX9_write_16 ?_
    refine lv_iload_n hx hb dX9_write_19 rfl (lv_at hl 1 rfl) ?_
    refine lv_iadd hx hb dX9_write_20 ?_
    refine lv_bipush (v := (72 : Int32)) hx hb dX9_write_21 (by decide) ?_
    refine lv_icmp_le (tgt := 29) hx hb dX9_write_23 (by decide) (fun c2 => ?_) (fun c2 => ?_)
    · replace hF := (if_pos c2).symm.trans hF
      refine lv_iload_n hx hb dX9_write_29 rfl (lv_at hl 1 rfl) ?_
      refine lv_iconst (v := (1 : Int32)) hx hb dX9_write_30 (by decide) ?_
      refine lv_isub hx hb dX9_write_31 ?_
      refine lv_istore (lv' := [(4, .int (p1 - (1 : Int32))), (0, .ref (a 35)), (1, .int p1), (2, .long p2)]) hx hb dX9_write_32 hl (by decide) rfl (fun ls hl => ?_)
      have hL34 : ∀ (nf : Nat) (x3 : Int32) (x4 : Nat → Int32) (x5 : Int32) (r : (Nat → Int32) × Int32), itr (fun v => FX9_write_S34 p2 v.1 v.2.1 v.2.2) nf (x3, x4, x5) = some r → ∀ (wJ : va_W) (HJ : Heap) (lJ : List Loc), va_P D vwCl wJ HJ → va_D A wJ → va_S A s.heap HJ lJ → (∀ j : Nat, j ∉ [40, 35] → wJ[j]? = ws0[j]?) → wJ[40]? = some (a 40, .inl (cI, 72, .inl x4)) → wJ[35]? = some (a 35, .inr (9, [.ref (a 36), .int m_readMany, .ref (a 37), .int m_pupils, .ref (a 38), .ref (a 39), .int m_mood, .ref (a 40), .int x5, .int m_at, .int m_faultAt, .ref (a 41), .ref (a 42), .long m_drawn, .int m_questions, .int m_rights, .int m_wrongs, .int m_tapes, .ref (a 43), .ref (a 44), .int m_trials, .ref (a 45), .ref (a 46), .ref (a 47), .ref (a 48), .ref (a 49), .ref (a 50), .ref (a 51)])) → ∀ ls, lv_has ls 5 [(4, .int x3), (0, .ref (a 35)), (2, .long p2)] → (∀ o : (Nat → Int32) × Int32, r = o → ∀ (wK : va_W) (HK : Heap) (lK : List Loc), va_P D vwCl wK HK → va_D A wK → va_S A s.heap HK lK → (∀ j : Nat, j ∉ [40, 35] → wK[j]? = ws0[j]?) → wK[40]? = some (a 40, .inl (cI, 72, .inl o.1)) → wK[35]? = some (a 35, .inr (9, [.ref (a 36), .int m_readMany, .ref (a 37), .int m_pupils, .ref (a 38), .ref (a 39), .int m_mood, .ref (a 40), .int o.2, .int m_at, .int m_faultAt, .ref (a 41), .ref (a 42), .long m_drawn, .int m_questions, .int m_rights, .int m_wrongs, .int m_tapes, .ref (a 43), .ref (a 44), .int m_trials, .ref (a 45), .ref (a 46), .ref (a 47), .ref (a 48), .ref (a 49), .ref (a 50), .ref (a 51)])) → ∀ ls, lv_has ls 5 [(0, .ref (a 35))] → W p l e rm_X9_write s m args below meth c HK lK 0 0 Q (F0 m 76 ls [])) → W p l e rm_X9_write s m args below meth c HJ lJ 0 0 Q (F0 m 34 ls []) := by
        intro nf
        induction nf with
        | zero => intro _ _ _ r hF; exact (itr_0 hF).elim
        | succ nf ih =>
          intro x3 x4 x5 r hF w H locs hP hD hS hs h40 h35 ls hl hE
          obtain ⟨wo, hF, hw⟩ := itr_s hF
          replace hF : FX9_write_S34 p2 x3 x4 x5 = some wo := hF
          unfold FX9_write_S34 at hF
          refine lv_iload hx hb dX9_write_34 (lv_at hl 0 rfl) ?_
          refine lv_if_lt (tgt := 76) hx hb dX9_write_36 (by decide) (fun c6 => ?_) (fun c6 => ?_)
          · replace hF := (if_pos c6).symm.trans hF
            obtain rfl := Option.some.inj hF
            obtain rfl := hw
            exact hE _ rfl _ _ _ hP hD hS hs h40 h35 ls (lv_sub hl [1] rfl)
          · replace hF := (if_neg c6).symm.trans hF
            refine lv_aload_n hx hb dX9_write_39 rfl (lv_at hl 1 rfl) ?_
            refine gf_X9_22 hx hb hts hown hK hP h35 dX9_write_40 ?_
            refine lv_aload_n hx hb dX9_write_43 rfl (lv_at hl 1 rfl) ?_
            refine gf_X9_70 hx hb hts hown hK hP h35 dX9_write_44 ?_
            refine lv_lload_n hx hb dX9_write_47 rfl (lv_at hl 2 rfl) ?_
            refine lv_bipush (v := (8 : Int32)) hx hb dX9_write_48 (by decide) ?_
            refine lv_iload hx hb dX9_write_50 (lv_at hl 0 rfl) ?_
            refine lv_imul hx hb dX9_write_52 ?_
            refine lv_lshr hx hb dX9_write_53 rfl ?_
            refine lv_ldc2 (v := (255 : Int64)) hx hb hown (hts _ kl_X9_73) dX9_write_54 ?_
            refine lv_land hx hb dX9_write_57 ?_
            refine lv_l2i hx hb dX9_write_58 rfl ?_
            obtain ⟨hg7, hF⟩ := gd_some hF
            refine ast_i hx hb hK hP hD hS h40 hg7 dX9_write_59 (fun w8 H locs hP hD hk hc hS => ?_)
            have h40 : w8[40]? = some (a 40, .inl (cI, 72, .inl (upd x4 x5.toNatClampNeg (((p2 >>> (((8 : Int32) * x3).toInt64 &&& 63)) &&& (255 : Int64)).toInt32)))) := hc
            have h35 := (hk 35 (by omega)).trans h35
            replace hs := sm_k hk (by simp) hs
            refine lv_aload_n hx hb dX9_write_60 rfl (lv_at hl 1 rfl) ?_
            refine lv_dup hx hb dX9_write_61 rfl ?_
            refine gf_X9_70 hx hb hts hown hK hP h35 dX9_write_62 ?_
            refine lv_iconst (v := (1 : Int32)) hx hb dX9_write_65 (by decide) ?_
            refine lv_iadd hx hb dX9_write_66 ?_
            refine pf_X9_70 hx hb hts hown hK hP hD hS h35 rfl rfl dX9_write_67 (fun w9 H locs hP hD hk hc hS => ?_)
            have h35 : w9[35]? = some (a 35, .inr (9, [.ref (a 36), .int m_readMany, .ref (a 37), .int m_pupils, .ref (a 38), .ref (a 39), .int m_mood, .ref (a 40), .int (x5 + (1 : Int32)), .int m_at, .int m_faultAt, .ref (a 41), .ref (a 42), .long m_drawn, .int m_questions, .int m_rights, .int m_wrongs, .int m_tapes, .ref (a 43), .ref (a 44), .int m_trials, .ref (a 45), .ref (a 46), .ref (a 47), .ref (a 48), .ref (a 49), .ref (a 50), .ref (a 51)])) := hc
            have h40 := (hk 40 (by omega)).trans h40
            replace hs := sm_k hk (by simp) hs
            refine lv_iinc (v := x3 + (-1 : Int32)) (lv' := [(4, .int (x3 + (-1 : Int32))), (0, .ref (a 35)), (2, .long p2)]) hx hb dX9_write_70 hl (k := 0) rfl rfl (by decide) rfl (fun ls hl => ?_)
            refine lv_goto (tgt := 34) hx hb dX9_write_73 (by decide) ?_
            obtain rfl := Option.some.inj hF
            exact ih _ _ _ _ hw _ _ _ hP hD hS hs h40 h35 ls (lv_sub hl [0, 1, 2] rfl) hE
      obtain ⟨o10, ho10, hF⟩ := bd_some hF
      refine hL34 fu (p1 - (1 : Int32)) m_text m_length o10 ho10 _ _ _ hP hD hS hs h40 h35 ls (lv_sub hl [0, 1, 3] rfl) ?_
      intro _ q_o10 w H locs hP hD hS hs h40 h35 ls hl
      subst q_o10
      refine lv_aload_n hx hb dX9_write_76 rfl (lv_at hl 0 rfl) ?_
      refine gf_X9_70 hx hb hts hown hK hP h35 dX9_write_77 ?_
      obtain rfl := Option.some.inj hF
      rw [hQ]
      exact rw_i X hS hP hD hs ⟨h40, h35⟩ dX9_write_80
    · replace hF := (if_neg c2).symm.trans hF
      refine lv_bipush (v := (-4 : Int32)) hx hb dX9_write_26 (by decide) ?_
      obtain rfl := Option.some.inj hF
      rw [hQ]
      exact rw_i X hS hP hD hs ⟨h40, h35⟩ dX9_write_28
  · replace hF := (if_neg c1).symm.trans hF
    refine lv_bipush (v := (-2 : Int32)) hx hb dX9_write_12 (by decide) ?_
    obtain rfl := Option.some.inj hF
    rw [hQ]
    exact rw_i X hS hP hD hs ⟨h40, h35⟩ dX9_write_14
def FX9_wipe (m_length : Int32) : Int32 × Int32 :=
  (m_length, (0 : Int32))
def rm_X9_wipe : Room := { frames := 0, cells := 0, slots := 0, locals := 0 }
set_option maxHeartbeats 4000000 in
set_option maxRecDepth 100000 in
theorem c_X9_wipe (l : Launch) (D : va_G) (cI cJ cZ : ClassId) (a : Nat → Nat) (ws0 : va_W) (A : Nat → Prop)  (m_readMany : Int32) (m_pupils : Int32) (m_mood : Int32) (m_length : Int32) (m_at : Int32) (m_faultAt : Int32) (m_drawn : Int64) (m_questions : Int32) (m_rights : Int32) (m_wrongs : Int32) (m_tapes : Int32) (m_trials : Int32)  (u : Int32 × Int32) (hF : FX9_wipe m_length = u) (z35 : ws0[35]? = some (a 35, .inr (9, [.ref (a 36), .int m_readMany, .ref (a 37), .int m_pupils, .ref (a 38), .ref (a 39), .int m_mood, .ref (a 40), .int m_length, .int m_at, .int m_faultAt, .ref (a 41), .ref (a 42), .long m_drawn, .int m_questions, .int m_rights, .int m_wrongs, .int m_tapes, .ref (a 43), .ref (a 44), .int m_trials, .ref (a 45), .ref (a 46), .ref (a 47), .ref (a 48), .ref (a 49), .ref (a 50), .ref (a 51)]))) (hD : va_D A ws0) : Met l yX9_wipe (wq yX9_wipe cX9_wipe 2 (some .int)) rm_X9_wipe (Pq [.ref (a 35)] D cI cJ cZ ws0) (Qw D A ws0 [35] (some (.int u.1)) (fun w => w[35]? = some (a 35, .inr (9, [.ref (a 36), .int m_readMany, .ref (a 37), .int m_pupils, .ref (a 38), .ref (a 39), .int m_mood, .ref (a 40), .int u.2, .int m_at, .int m_faultAt, .ref (a 41), .ref (a 42), .long m_drawn, .int m_questions, .int m_rights, .int m_wrongs, .int m_tapes, .ref (a 43), .ref (a 44), .int m_trials, .ref (a 45), .ref (a 46), .ref (a 47), .ref (a 48), .ref (a 49), .ref (a 50), .ref (a 51)])))) 0 0 A := by
  refine mq_of (by decide) (Nat.le_of_ble_eq_true rfl) (fun p e s m args below meth c ls Q hQ X _ hP hl => ?_)
  obtain ⟨hx, hb, hr, hml, hown, hts, hlk, hK, hN⟩ := id X
  have hown : s.vm.findClass RX9 = some m.cls := hown
  have hl : lv_has ls 2 [(0, .ref (a 35))] := hl
  have hS : va_S A s.heap s.heap [] := va_S.rf
  have hs : ∀ j : Nat, j ∉ [35] → ws0[j]? = ws0[j]? := fun _ _ => rfl
  have h35 := z35
  unfold FX9_wipe at hF
  refine lv_aload_n hx hb dX9_wipe_0 rfl (lv_at hl 0 rfl) ?_
  refine gf_X9_70 hx hb hts hown hK hP h35 dX9_wipe_1 ?_
  refine lv_istore_n (lv' := [(1, .int m_length), (0, .ref (a 35))]) hx hb dX9_wipe_4 rfl hl (by decide) rfl (fun ls hl => ?_)
  refine lv_aload_n hx hb dX9_wipe_5 rfl (lv_at hl 1 rfl) ?_
  refine lv_iconst (v := (0 : Int32)) hx hb dX9_wipe_6 (by decide) ?_
  refine pf_X9_70 hx hb hts hown hK hP hD hS h35 rfl rfl dX9_wipe_7 (fun w1 H locs hP hD hk hc hS => ?_)
  have h35 : w1[35]? = some (a 35, .inr (9, [.ref (a 36), .int m_readMany, .ref (a 37), .int m_pupils, .ref (a 38), .ref (a 39), .int m_mood, .ref (a 40), .int (0 : Int32), .int m_at, .int m_faultAt, .ref (a 41), .ref (a 42), .long m_drawn, .int m_questions, .int m_rights, .int m_wrongs, .int m_tapes, .ref (a 43), .ref (a 44), .int m_trials, .ref (a 45), .ref (a 46), .ref (a 47), .ref (a 48), .ref (a 49), .ref (a 50), .ref (a 51)])) := hc
  replace hs := sm_k hk (by simp) hs
  refine lv_iload_n hx hb dX9_wipe_10 rfl (lv_at hl 0 rfl) ?_
  subst hF
  rw [hQ]
  exact rw_i X hS hP hD hs h35 dX9_wipe_11
def FX9_figure_J78 (x11 : Int32) (x12 : Int32) (x13 : Int32) : Option (Int32 × Int32 × Int32) :=
  some ((0 : Int32), x11, x13)
def FX9_figure_J57 (x8 : Int32) (x9 : Int32) : Option (Int32 × Int32 × Int32) :=
  if x8 = (-9 : Int32) then (FX9_figure_J78 x9 x8 x9) else (FX9_figure_J78 x8 x8 x9)
def FX9_figure_J36 (p1 : Int32) (x4 : Int32) (x5 : Int32) (x6 : Int32) : Option (Int32 × Int32 × Int32) :=
  if (FX9_in x4.toInt64 (0 : Int64) (9 : Int64)) = true then (if ((p1 >>> (x4 &&& 31)) &&& (1 : Int32)) = 0 then (FX9_figure_J57 x5 x6) else (some (x4, x5, x6 + (1 : Int32)))) else (FX9_figure_J57 x5 x6)
def FX9_figure_J35 (p1 : Int32) (x2 : Int32) (x3 : Int32) : Option (Int32 × Int32 × Int32) :=
  FX9_figure_J36 p1 (-1 : Int32) x2 x3
def FX9_figure (m_length : Int32) (m_at : Int32) (m_faultAt : Int32) (m_text : Nat → Int32) (p1 : Int32) : Option (Int32 × Int32 × Int32) :=
  if m_faultAt = (-9 : Int32) then (if m_length ≤ m_at then (FX9_figure_J35 p1 m_faultAt m_at) else (if m_at < 0 ∨ 72 ≤ m_at.toNatClampNeg then none else FX9_figure_J36 p1 ((m_text m_at.toNatClampNeg) - (48 : Int32)) m_faultAt m_at)) else (FX9_figure_J35 p1 m_faultAt m_at)
def rm_X9_figure : Room := { frames := 1, cells := 0, slots := 0, locals := 25 }
set_option maxHeartbeats 4000000 in
set_option maxRecDepth 100000 in
theorem c_X9_figure (l : Launch) (D : va_G) (cI cJ cZ : ClassId) (a : Nat → Nat) (ws0 : va_W) (A : Nat → Prop)  (m_readMany : Int32) (m_pupils : Int32) (m_mood : Int32) (m_length : Int32) (m_at : Int32) (m_faultAt : Int32) (m_drawn : Int64) (m_questions : Int32) (m_rights : Int32) (m_wrongs : Int32) (m_tapes : Int32) (m_trials : Int32) (m_text : Nat → Int32) (p1 : Int32) (u : Int32 × Int32 × Int32) (hF : FX9_figure m_length m_at m_faultAt m_text p1 = some u) (z35 : ws0[35]? = some (a 35, .inr (9, [.ref (a 36), .int m_readMany, .ref (a 37), .int m_pupils, .ref (a 38), .ref (a 39), .int m_mood, .ref (a 40), .int m_length, .int m_at, .int m_faultAt, .ref (a 41), .ref (a 42), .long m_drawn, .int m_questions, .int m_rights, .int m_wrongs, .int m_tapes, .ref (a 43), .ref (a 44), .int m_trials, .ref (a 45), .ref (a 46), .ref (a 47), .ref (a 48), .ref (a 49), .ref (a 50), .ref (a 51)]))) (z40 : ws0[40]? = some (a 40, .inl (cI, 72, .inl m_text))) (hD : va_D A ws0) : Met l yX9_figure (wq yX9_figure cX9_figure 3 (some .int)) rm_X9_figure (Pq [.ref (a 35), .int p1] D cI cJ cZ ws0) (Qw D A ws0 [35] (some (.int u.1)) (fun w => w[35]? = some (a 35, .inr (9, [.ref (a 36), .int m_readMany, .ref (a 37), .int m_pupils, .ref (a 38), .ref (a 39), .int m_mood, .ref (a 40), .int m_length, .int u.2.2, .int u.2.1, .ref (a 41), .ref (a 42), .long m_drawn, .int m_questions, .int m_rights, .int m_wrongs, .int m_tapes, .ref (a 43), .ref (a 44), .int m_trials, .ref (a 45), .ref (a 46), .ref (a 47), .ref (a 48), .ref (a 49), .ref (a 50), .ref (a 51)])))) 0 0 A := by
  refine mq_of (by decide) (Nat.le_of_ble_eq_true rfl) (fun p e s m args below meth c ls Q hQ X _ hP hl => ?_)
  obtain ⟨hx, hb, hr, hml, hown, hts, hlk, hK, hN⟩ := id X
  have hown : s.vm.findClass RX9 = some m.cls := hown
  have hl : lv_has ls 3 [(0, .ref (a 35)), (1, .int p1)] := hl
  have hS : va_S A s.heap s.heap [] := va_S.rf
  have hs : ∀ j : Nat, j ∉ [35] → ws0[j]? = ws0[j]? := fun _ _ => rfl
  have h35 := z35
  have h40 := z40
  have hJ78 : ∀ (x11 : Int32) (x12 : Int32) (x13 : Int32), ∀ (wJ : va_W) (HJ : Heap) (lJ : List Loc), va_P D vwCl wJ HJ → va_D A wJ → va_S A s.heap HJ lJ → (∀ j : Nat, j ∉ [35] → wJ[j]? = ws0[j]?) → wJ[35]? = some (a 35, .inr (9, [.ref (a 36), .int m_readMany, .ref (a 37), .int m_pupils, .ref (a 38), .ref (a 39), .int m_mood, .ref (a 40), .int m_length, .int x13, .int x12, .ref (a 41), .ref (a 42), .long m_drawn, .int m_questions, .int m_rights, .int m_wrongs, .int m_tapes, .ref (a 43), .ref (a 44), .int m_trials, .ref (a 45), .ref (a 46), .ref (a 47), .ref (a 48), .ref (a 49), .ref (a 50), .ref (a 51)])) → ∀ ls, lv_has ls 3 [] → FX9_figure_J78 x11 x12 x13 = some u → W p l e rm_X9_figure s m args below meth c HJ lJ 0 0 Q (F0 m 78 ls [.int x11, .ref (a 35)]) := by
    intro x11 x12 x13 w H locs hP hD hS hs h35 ls hl hF
    have h40 := (hs 40 (by simp only [List.mem_cons, List.not_mem_nil, or_false, not_or]; omega)).trans z40
    unfold FX9_figure_J78 at hF
    refine pf_X9_75 hx hb hts hown hK hP hD hS h35 rfl rfl dX9_figure_78 (fun w14 H locs hP hD hk hc hS => ?_)
    have h35 : w14[35]? = some (a 35, .inr (9, [.ref (a 36), .int m_readMany, .ref (a 37), .int m_pupils, .ref (a 38), .ref (a 39), .int m_mood, .ref (a 40), .int m_length, .int x13, .int x11, .ref (a 41), .ref (a 42), .long m_drawn, .int m_questions, .int m_rights, .int m_wrongs, .int m_tapes, .ref (a 43), .ref (a 44), .int m_trials, .ref (a 45), .ref (a 46), .ref (a 47), .ref (a 48), .ref (a 49), .ref (a 50), .ref (a 51)])) := hc
    have h40 := (hk 40 (by omega)).trans h40
    replace hs := sm_k hk (by simp) hs
    refine lv_iconst (v := (0 : Int32)) hx hb dX9_figure_81 (by decide) ?_
    obtain rfl := Option.some.inj hF
    rw [hQ]
    exact rw_i X hS hP hD hs h35 dX9_figure_82
  have hJ57 : ∀ (x8 : Int32) (x9 : Int32), ∀ (wJ : va_W) (HJ : Heap) (lJ : List Loc), va_P D vwCl wJ HJ → va_D A wJ → va_S A s.heap HJ lJ → (∀ j : Nat, j ∉ [35] → wJ[j]? = ws0[j]?) → wJ[35]? = some (a 35, .inr (9, [.ref (a 36), .int m_readMany, .ref (a 37), .int m_pupils, .ref (a 38), .ref (a 39), .int m_mood, .ref (a 40), .int m_length, .int x9, .int x8, .ref (a 41), .ref (a 42), .long m_drawn, .int m_questions, .int m_rights, .int m_wrongs, .int m_tapes, .ref (a 43), .ref (a 44), .int m_trials, .ref (a 45), .ref (a 46), .ref (a 47), .ref (a 48), .ref (a 49), .ref (a 50), .ref (a 51)])) → ∀ ls, lv_has ls 3 [(0, .ref (a 35))] → FX9_figure_J57 x8 x9 = some u → W p l e rm_X9_figure s m args below meth c HJ lJ 0 0 Q (F0 m 57 ls []) := by
    intro x8 x9 w H locs hP hD hS hs h35 ls hl hF
    have h40 := (hs 40 (by simp only [List.mem_cons, List.not_mem_nil, or_false, not_or]; omega)).trans z40
    unfold FX9_figure_J57 at hF
    refine lv_aload_n hx hb dX9_figure_57 rfl (lv_at hl 0 rfl) ?_
    refine lv_aload_n hx hb dX9_figure_58 rfl (lv_at hl 0 rfl) ?_
    refine gf_X9_75 hx hb hts hown hK hP h35 dX9_figure_59 ?_
    refine lv_bipush (v := (-9 : Int32)) hx hb dX9_figure_62 (by decide) ?_
    refine lv_icmp_ne (tgt := 74) hx hb dX9_figure_64 (by decide) (fun c10 => ?_) (fun c10 => ?_)
    · replace hF := (if_neg c10).symm.trans hF
      refine lv_aload_n hx hb dX9_figure_74 rfl (lv_at hl 0 rfl) ?_
      refine gf_X9_75 hx hb hts hown hK hP h35 dX9_figure_75 ?_
      exact hJ78 x8 x8 x9 _ _ _ hP hD hS hs h35 ls (lv_sub hl [] rfl) hF
    · replace hF := (if_pos c10).symm.trans hF
      refine lv_aload_n hx hb dX9_figure_67 rfl (lv_at hl 0 rfl) ?_
      refine gf_X9_78 hx hb hts hown hK hP h35 dX9_figure_68 ?_
      refine lv_goto (tgt := 78) hx hb dX9_figure_71 (by decide) ?_
      exact hJ78 x9 x8 x9 _ _ _ hP hD hS hs h35 ls (lv_sub hl [] rfl) hF
  have hJ36 : ∀ (x4 : Int32) (x5 : Int32) (x6 : Int32), ∀ (wJ : va_W) (HJ : Heap) (lJ : List Loc), va_P D vwCl wJ HJ → va_D A wJ → va_S A s.heap HJ lJ → (∀ j : Nat, j ∉ [35] → wJ[j]? = ws0[j]?) → wJ[35]? = some (a 35, .inr (9, [.ref (a 36), .int m_readMany, .ref (a 37), .int m_pupils, .ref (a 38), .ref (a 39), .int m_mood, .ref (a 40), .int m_length, .int x6, .int x5, .ref (a 41), .ref (a 42), .long m_drawn, .int m_questions, .int m_rights, .int m_wrongs, .int m_tapes, .ref (a 43), .ref (a 44), .int m_trials, .ref (a 45), .ref (a 46), .ref (a 47), .ref (a 48), .ref (a 49), .ref (a 50), .ref (a 51)])) → ∀ ls, lv_has ls 3 [(0, .ref (a 35)), (1, .int p1)] → FX9_figure_J36 p1 x4 x5 x6 = some u → W p l e rm_X9_figure s m args below meth c HJ lJ 0 0 Q (F0 m 36 ls [.int x4]) := by
    intro x4 x5 x6 w H locs hP hD hS hs h35 ls hl hF
    have h40 := (hs 40 (by simp only [List.mem_cons, List.not_mem_nil, or_false, not_or]; omega)).trans z40
    unfold FX9_figure_J36 at hF
    refine lv_istore_n (lv' := [(2, .int x4), (0, .ref (a 35)), (1, .int p1)]) hx hb dX9_figure_36 rfl hl (by decide) rfl (fun ls hl => ?_)
    refine lv_iload_n hx hb dX9_figure_37 rfl (lv_at hl 0 rfl) ?_
    refine lv_i2l hx hb dX9_figure_38 rfl ?_
    refine lv_lconst (v := (0 : Int64)) hx hb dX9_figure_39 (by decide) ?_
    refine lv_ldc2 (v := (9 : Int64)) hx hb hown (hts _ kl_X9_81) dX9_figure_40 ?_
    refine rd_i (runS (As := [.long x4.toInt64, .long (0 : Int64), .long (9 : Int64)]) (rest := []) X cq_X9_in lk_X9_66 (c_X9_in l D cI cJ cZ a w x4.toInt64 (0 : Int64) (9 : Int64) _ rfl ) rfl rfl ⟨Nat.le_of_ble_eq_true rfl, Nat.le_of_ble_eq_true rfl⟩ hP rfl hl.1 rfl (Nat.le_of_ble_eq_true rfl) dX9_figure_43 ⟨Nat.le_of_ble_eq_true rfl, Nat.le_of_ble_eq_true rfl⟩) ?_
    refine zf_eq (tgt := 57) hx hb dX9_figure_46 (by decide) (fun c7 => ?_) (fun c7 => ?_)
    · replace hF := (if_neg c7).symm.trans hF
      exact hJ57 x5 x6 _ _ _ hP hD hS hs h35 ls (lv_sub hl [1] rfl) hF
    · replace hF := (if_pos c7).symm.trans hF
      refine lv_iload_n hx hb dX9_figure_49 rfl (lv_at hl 2 rfl) ?_
      refine lv_iload_n hx hb dX9_figure_50 rfl (lv_at hl 0 rfl) ?_
      refine lv_ishr hx hb dX9_figure_51 ?_
      refine lv_iconst (v := (1 : Int32)) hx hb dX9_figure_52 (by decide) ?_
      refine lv_iand hx hb dX9_figure_53 ?_
      refine lv_if_ne (tgt := 83) hx hb dX9_figure_54 (by decide) (fun c15 => ?_) (fun c15 => ?_)
      · replace hF := (if_neg c15).symm.trans hF
        refine lv_aload_n hx hb dX9_figure_83 rfl (lv_at hl 1 rfl) ?_
        refine lv_dup hx hb dX9_figure_84 rfl ?_
        refine gf_X9_78 hx hb hts hown hK hP h35 dX9_figure_85 ?_
        refine lv_iconst (v := (1 : Int32)) hx hb dX9_figure_88 (by decide) ?_
        refine lv_iadd hx hb dX9_figure_89 ?_
        refine pf_X9_78 hx hb hts hown hK hP hD hS h35 rfl rfl dX9_figure_90 (fun w16 H locs hP hD hk hc hS => ?_)
        have h35 : w16[35]? = some (a 35, .inr (9, [.ref (a 36), .int m_readMany, .ref (a 37), .int m_pupils, .ref (a 38), .ref (a 39), .int m_mood, .ref (a 40), .int m_length, .int (x6 + (1 : Int32)), .int x5, .ref (a 41), .ref (a 42), .long m_drawn, .int m_questions, .int m_rights, .int m_wrongs, .int m_tapes, .ref (a 43), .ref (a 44), .int m_trials, .ref (a 45), .ref (a 46), .ref (a 47), .ref (a 48), .ref (a 49), .ref (a 50), .ref (a 51)])) := hc
        have h40 := (hk 40 (by omega)).trans h40
        replace hs := sm_k hk (by simp) hs
        refine lv_iload_n hx hb dX9_figure_93 rfl (lv_at hl 0 rfl) ?_
        obtain rfl := Option.some.inj hF
        rw [hQ]
        exact rw_i X hS hP hD hs h35 dX9_figure_94
      · replace hF := (if_pos c15).symm.trans hF
        exact hJ57 x5 x6 _ _ _ hP hD hS hs h35 ls (lv_sub hl [1] rfl) hF
  have hJ35 : ∀ (x2 : Int32) (x3 : Int32), ∀ (wJ : va_W) (HJ : Heap) (lJ : List Loc), va_P D vwCl wJ HJ → va_D A wJ → va_S A s.heap HJ lJ → (∀ j : Nat, j ∉ [35] → wJ[j]? = ws0[j]?) → wJ[35]? = some (a 35, .inr (9, [.ref (a 36), .int m_readMany, .ref (a 37), .int m_pupils, .ref (a 38), .ref (a 39), .int m_mood, .ref (a 40), .int m_length, .int x3, .int x2, .ref (a 41), .ref (a 42), .long m_drawn, .int m_questions, .int m_rights, .int m_wrongs, .int m_tapes, .ref (a 43), .ref (a 44), .int m_trials, .ref (a 45), .ref (a 46), .ref (a 47), .ref (a 48), .ref (a 49), .ref (a 50), .ref (a 51)])) → ∀ ls, lv_has ls 3 [(0, .ref (a 35)), (1, .int p1)] → FX9_figure_J35 p1 x2 x3 = some u → W p l e rm_X9_figure s m args below meth c HJ lJ 0 0 Q (F0 m 35 ls []) := by
    intro x2 x3 w H locs hP hD hS hs h35 ls hl hF
    have h40 := (hs 40 (by simp only [List.mem_cons, List.not_mem_nil, or_false, not_or]; omega)).trans z40
    unfold FX9_figure_J35 at hF
    refine lv_iconst (v := (-1 : Int32)) hx hb dX9_figure_35 (by decide) ?_
    exact hJ36 (-1 : Int32) x2 x3 _ _ _ hP hD hS hs h35 ls (lv_sub hl [0, 1] rfl) hF
  unfold FX9_figure at hF
  refine lv_aload_n hx hb dX9_figure_0 rfl (lv_at hl 0 rfl) ?_
  refine gf_X9_75 hx hb hts hown hK hP h35 dX9_figure_1 ?_
  refine lv_bipush (v := (-9 : Int32)) hx hb dX9_figure_4 (by decide) ?_
  refine lv_icmp_ne (tgt := 35) hx hb dX9_figure_6 (by decide) (fun c1 => ?_) (fun c1 => ?_)
  · replace hF := (if_neg c1).symm.trans hF
    exact hJ35 m_faultAt m_at _ _ _ hP hD hS hs h35 ls (lv_sub hl [0, 1] rfl) hF
  · replace hF := (if_pos c1).symm.trans hF
    refine lv_aload_n hx hb dX9_figure_9 rfl (lv_at hl 0 rfl) ?_
    refine gf_X9_78 hx hb hts hown hK hP h35 dX9_figure_10 ?_
    refine lv_aload_n hx hb dX9_figure_13 rfl (lv_at hl 0 rfl) ?_
    refine gf_X9_70 hx hb hts hown hK hP h35 dX9_figure_14 ?_
    refine lv_icmp_ge (tgt := 35) hx hb dX9_figure_17 (by decide) (fun c17 => ?_) (fun c17 => ?_)
    · replace hF := (if_pos c17).symm.trans hF
      exact hJ35 m_faultAt m_at _ _ _ hP hD hS hs h35 ls (lv_sub hl [0, 1] rfl) hF
    · replace hF := (if_neg c17).symm.trans hF
      refine lv_aload_n hx hb dX9_figure_20 rfl (lv_at hl 0 rfl) ?_
      refine gf_X9_22 hx hb hts hown hK hP h35 dX9_figure_21 ?_
      refine lv_aload_n hx hb dX9_figure_24 rfl (lv_at hl 0 rfl) ?_
      refine gf_X9_78 hx hb hts hown hK hP h35 dX9_figure_25 ?_
      obtain ⟨hg18, hF⟩ := gd_some hF
      refine va_iald hx hb hK hP 40 0 h40 rfl hg18 dX9_figure_28 ?_
      refine lv_bipush (v := (48 : Int32)) hx hb dX9_figure_29 (by decide) ?_
      refine lv_isub hx hb dX9_figure_31 ?_
      refine lv_goto (tgt := 36) hx hb dX9_figure_32 (by decide) ?_
      exact hJ36 ((m_text m_at.toNatClampNeg) - (48 : Int32)) m_faultAt m_at _ _ _ hP hD hS hs h35 ls (lv_sub hl [0, 1] rfl) hF
def FX9_free_J47L5 (x6 : Int32) (x7 : Int32) (x8 : Int32) : Option ((Int32 × Int32) ⊕ (Int32)) :=
  some (.inl (x7 &&& x8, x6 + (1 : Int32)))
def FX9_free_S5 (m_readMany : Int32) (m_read : Nat → Int32) (p1 : Int32) (x1 : Int32) (x2 : Int32) : Option ((Int32 × Int32) ⊕ (Int32)) :=
  if m_readMany ≤ x2 then (some (.inr x1)) else (if ((6 : Int32) * x2) < 0 ∨ 72 ≤ ((6 : Int32) * x2).toNatClampNeg then none else if (m_read ((6 : Int32) * x2).toNatClampNeg) = p1 then (if (((6 : Int32) * x2) + (1 : Int32)) < 0 ∨ 72 ≤ (((6 : Int32) * x2) + (1 : Int32)).toNatClampNeg then none else FX9_free_J47L5 x2 x1 (((1 : Int32) <<< ((m_read (((6 : Int32) * x2) + (1 : Int32)).toNatClampNeg) &&& 31)) ^^^ (-1 : Int32))) else (FX9_free_J47L5 x2 x1 (63 : Int32)))
def FX9_free (m_readMany : Int32) (m_read : Nat → Int32) (p1 : Int32) : Option (Int32) :=
  (itr (fun v => FX9_free_S5 m_readMany m_read p1 v.1 v.2) fu ((63 : Int32), (0 : Int32))).bind fun o10 => some o10
def rm_X9_free : Room := { frames := 0, cells := 0, slots := 0, locals := 0 }
set_option maxHeartbeats 4000000 in
set_option maxRecDepth 100000 in
theorem c_X9_free (l : Launch) (D : va_G) (cI cJ cZ : ClassId) (a : Nat → Nat) (ws0 : va_W)  (m_readMany : Int32) (m_pupils : Int32) (m_mood : Int32) (m_length : Int32) (m_at : Int32) (m_faultAt : Int32) (m_drawn : Int64) (m_questions : Int32) (m_rights : Int32) (m_wrongs : Int32) (m_tapes : Int32) (m_trials : Int32) (m_read : Nat → Int32) (p1 : Int32) (u : Int32) (hF : FX9_free m_readMany m_read p1 = some u) (h35 : ws0[35]? = some (a 35, .inr (9, [.ref (a 36), .int m_readMany, .ref (a 37), .int m_pupils, .ref (a 38), .ref (a 39), .int m_mood, .ref (a 40), .int m_length, .int m_at, .int m_faultAt, .ref (a 41), .ref (a 42), .long m_drawn, .int m_questions, .int m_rights, .int m_wrongs, .int m_tapes, .ref (a 43), .ref (a 44), .int m_trials, .ref (a 45), .ref (a 46), .ref (a 47), .ref (a 48), .ref (a 49), .ref (a 50), .ref (a 51)]))) (h36 : ws0[36]? = some (a 36, .inl (cI, 72, .inl m_read))) : Met l yX9_free (wq yX9_free cX9_free 4 (some .int)) rm_X9_free (Pq [.ref (a 35), .int p1] D cI cJ cZ ws0) (Qq (some (.int u))) 0 0 (fun _ => False) := by
  refine mq_of (by decide) (Nat.le_of_ble_eq_true rfl) (fun p e s m args below meth c ls Q hQ X _ hP hl => ?_)
  obtain ⟨hx, hb, hr, hml, hown, hts, hlk, hK, hN⟩ := id X
  have hown : s.vm.findClass RX9 = some m.cls := hown
  have hl : lv_has ls 4 [(0, .ref (a 35)), (1, .int p1)] := hl
  unfold FX9_free at hF
  refine lv_bipush (v := (63 : Int32)) hx hb dX9_free_0 (by decide) ?_
  refine lv_istore_n (lv' := [(2, .int (63 : Int32)), (0, .ref (a 35)), (1, .int p1)]) hx hb dX9_free_2 rfl hl (by decide) rfl (fun ls hl => ?_)
  refine lv_iconst (v := (0 : Int32)) hx hb dX9_free_3 (by decide) ?_
  refine lv_istore_n (lv' := [(3, .int (0 : Int32)), (2, .int (63 : Int32)), (0, .ref (a 35)), (1, .int p1)]) hx hb dX9_free_4 rfl hl (by decide) rfl (fun ls hl => ?_)
  have hL5 : ∀ (nf : Nat) (x1 : Int32) (x2 : Int32) (r : Int32), itr (fun v => FX9_free_S5 m_readMany m_read p1 v.1 v.2) nf (x1, x2) = some r → ∀ ls, lv_has ls 4 [(3, .int x2), (2, .int x1), (0, .ref (a 35)), (1, .int p1)] → (∀ o : Int32, r = o → ∀ ls, lv_has ls 4 [(2, .int o)] → W p l e rm_X9_free s m args below meth c s.heap [] 0 0 Q (F0 m 55 ls [])) → W p l e rm_X9_free s m args below meth c s.heap [] 0 0 Q (F0 m 5 ls []) := by
    intro nf
    induction nf with
    | zero => intro _ _ r hF; exact (itr_0 hF).elim
    | succ nf ih =>
      intro x1 x2 r hF ls hl hE
      obtain ⟨wo, hF, hw⟩ := itr_s hF
      replace hF : FX9_free_S5 m_readMany m_read p1 x1 x2 = some wo := hF
      have hJ47 : ∀ (x6 : Int32) (x7 : Int32) (x8 : Int32), ∀ ls, lv_has ls 4 [(3, .int x6), (0, .ref (a 35)), (1, .int p1)] → FX9_free_J47L5 x6 x7 x8 = some wo → W p l e rm_X9_free s m args below meth c s.heap [] 0 0 Q (F0 m 47 ls [.int x8, .int x7]) := by
        intro x6 x7 x8 ls hl hF
        unfold FX9_free_J47L5 at hF
        refine lv_iand hx hb dX9_free_47 ?_
        refine lv_istore_n (lv' := [(2, .int (x7 &&& x8)), (3, .int x6), (0, .ref (a 35)), (1, .int p1)]) hx hb dX9_free_48 rfl hl (by decide) rfl (fun ls hl => ?_)
        refine lv_iinc (v := x6 + (1 : Int32)) (lv' := [(3, .int (x6 + (1 : Int32))), (2, .int (x7 &&& x8)), (0, .ref (a 35)), (1, .int p1)]) hx hb dX9_free_49 hl (k := 1) rfl rfl (by decide) rfl (fun ls hl => ?_)
        refine lv_goto (tgt := 5) hx hb dX9_free_52 (by decide) ?_
        obtain rfl := Option.some.inj hF
        exact ih _ _ _ hw ls (lv_sub hl [0, 1, 2, 3] rfl) hE
      unfold FX9_free_S5 at hF
      refine lv_iload_n hx hb dX9_free_5 rfl (lv_at hl 0 rfl) ?_
      refine lv_aload_n hx hb dX9_free_6 rfl (lv_at hl 2 rfl) ?_
      refine gf_X9_83 hx hb hts hown hK hP h35 dX9_free_7 ?_
      refine lv_icmp_ge (tgt := 55) hx hb dX9_free_10 (by decide) (fun c3 => ?_) (fun c3 => ?_)
      · replace hF := (if_pos c3).symm.trans hF
        obtain rfl := Option.some.inj hF
        obtain rfl := hw
        exact hE _ rfl ls (lv_sub hl [1] rfl)
      · replace hF := (if_neg c3).symm.trans hF
        refine lv_iload_n hx hb dX9_free_13 rfl (lv_at hl 1 rfl) ?_
        refine lv_aload_n hx hb dX9_free_14 rfl (lv_at hl 2 rfl) ?_
        refine gf_X9_7 hx hb hts hown hK hP h35 dX9_free_15 ?_
        refine lv_bipush (v := (6 : Int32)) hx hb dX9_free_18 (by decide) ?_
        refine lv_iload_n hx hb dX9_free_20 rfl (lv_at hl 0 rfl) ?_
        refine lv_imul hx hb dX9_free_21 ?_
        obtain ⟨hg4, hF⟩ := gd_some hF
        refine va_iald hx hb hK hP 36 0 h36 rfl hg4 dX9_free_22 ?_
        refine lv_iload_n hx hb dX9_free_23 rfl (lv_at hl 3 rfl) ?_
        refine lv_icmp_ne (tgt := 45) hx hb dX9_free_24 (by decide) (fun c5 => ?_) (fun c5 => ?_)
        · replace hF := (if_neg c5).symm.trans hF
          refine lv_bipush (v := (63 : Int32)) hx hb dX9_free_45 (by decide) ?_
          exact hJ47 x2 x1 (63 : Int32) ls (lv_sub hl [0, 2, 3] rfl) hF
        · replace hF := (if_pos c5).symm.trans hF
          refine lv_iconst (v := (1 : Int32)) hx hb dX9_free_27 (by decide) ?_
          refine lv_aload_n hx hb dX9_free_28 rfl (lv_at hl 2 rfl) ?_
          refine gf_X9_7 hx hb hts hown hK hP h35 dX9_free_29 ?_
          refine lv_bipush (v := (6 : Int32)) hx hb dX9_free_32 (by decide) ?_
          refine lv_iload_n hx hb dX9_free_34 rfl (lv_at hl 0 rfl) ?_
          refine lv_imul hx hb dX9_free_35 ?_
          refine lv_iconst (v := (1 : Int32)) hx hb dX9_free_36 (by decide) ?_
          refine lv_iadd hx hb dX9_free_37 ?_
          obtain ⟨hg9, hF⟩ := gd_some hF
          refine va_iald hx hb hK hP 36 0 h36 rfl hg9 dX9_free_38 ?_
          refine lv_ishl hx hb dX9_free_39 ?_
          refine lv_iconst (v := (-1 : Int32)) hx hb dX9_free_40 (by decide) ?_
          refine lv_ixor hx hb dX9_free_41 ?_
          refine lv_goto (tgt := 47) hx hb dX9_free_42 (by decide) ?_
          exact hJ47 x2 x1 (((1 : Int32) <<< ((m_read (((6 : Int32) * x2) + (1 : Int32)).toNatClampNeg) &&& 31)) ^^^ (-1 : Int32)) ls (lv_sub hl [0, 2, 3] rfl) hF
  obtain ⟨o10, ho10, hF⟩ := bd_some hF
  refine hL5 fu (63 : Int32) (0 : Int32) o10 ho10 ls (lv_sub hl [0, 1, 2, 3] rfl) ?_
  intro _ q_o10 ls hl
  subst q_o10
  refine lv_iload_n hx hb dX9_free_55 rfl (lv_at hl 0 rfl) ?_
  obtain rfl := Option.some.inj hF
  rw [hQ]
  exact rt_i X dX9_free_56
def FX9_readText_J232L16 (x18 : Int32) (x19 : Int32) (x20 : Int32) (x21 : Nat → Int32) : Option ((Int32 × Int32 × Int32 × (Nat → Int32)) ⊕ (Int32 × Int32 × Int32 × (Nat → Int32))) :=
  some (.inl (x18, x18, x20, x21))
def FX9_readText_J102L81 (x29 : Int32) (x30 : Int32) (x31 : Int32) : Option ((Int32 × Int32) ⊕ (Int32)) :=
  some (.inl (x30 ||| x31, x29 + (1 : Int32)))
def FX9_readText_S81 (x15 : Int32) (x16 : Nat → Int32) (x24 : Int32) (x25 : Int32) : Option ((Int32 × Int32) ⊕ (Int32)) :=
  if (4 : Int32) ≤ x25 then (some (.inr x24)) else ((FX9_free x15 x16 x25).bind fun x27 => if x27 = 0 then (FX9_readText_J102L81 x25 x24 (0 : Int32)) else (FX9_readText_J102L81 x25 x24 ((1 : Int32) <<< (x25 &&& 31))))
def FX9_readText_J218L16 (x55 : Int32) (x56 : Int32) (x57 : Int32) (x58 : Int32) (x59 : Int32) (x60 : Nat → Int32) : Option ((Int32 × Int32 × Int32 × (Nat → Int32)) ⊕ (Int32 × Int32 × Int32 × (Nat → Int32))) :=
  if x55 < 0 ∨ 72 ≤ x55.toNatClampNeg then none else some (.inl (x57, x58, x59 + (1 : Int32), upd x60 x55.toNatClampNeg x56))
def FX9_readText_J58L16 (m_length : Int32) (m_text : Nat → Int32) (x12 : Int32) (x13 : Int32) (x14 : Int32) (x15 : Int32) (x16 : Nat → Int32) : Option ((Int32 × Int32 × Int32 × (Nat → Int32)) ⊕ (Int32 × Int32 × Int32 × (Nat → Int32))) :=
  if (12 : Int32) ≤ x15 then (FX9_readText_J232L16 x13 x14 x15 x16) else ((itr (fun v => FX9_readText_S81 x15 x16 v.1 v.2) fu ((0 : Int32), (0 : Int32))).bind fun o32 => (FX9_figure m_length (x13 + (1 : Int32)) x14 m_text o32).bind fun u33 => (FX9_free x15 x16 u33.1).bind fun x35 => (FX9_figure m_length u33.2.2 u33.2.1 m_text x35).bind fun u36 => if ((6 : Int32) * x15) < 0 ∨ 72 ≤ ((6 : Int32) * x15).toNatClampNeg then none else if (((6 : Int32) * x15) + (1 : Int32)) < 0 ∨ 72 ≤ (((6 : Int32) * x15) + (1 : Int32)).toNatClampNeg then none else (FX9_figure m_length u36.2.2 u36.2.1 m_text (1023 : Int32)).bind fun u42 => if (((6 : Int32) * x15) + (2 : Int32)) < 0 ∨ 72 ≤ (((6 : Int32) * x15) + (2 : Int32)).toNatClampNeg then none else (FX9_figure m_length u42.2.2 u42.2.1 m_text (1023 : Int32)).bind fun u46 => if (((6 : Int32) * x15) + (3 : Int32)) < 0 ∨ 72 ≤ (((6 : Int32) * x15) + (3 : Int32)).toNatClampNeg then none else (FX9_figure m_length u46.2.2 u46.2.1 m_text (1023 : Int32)).bind fun u50 => if (((6 : Int32) * x15) + (4 : Int32)) < 0 ∨ 72 ≤ (((6 : Int32) * x15) + (4 : Int32)).toNatClampNeg then none else if x12 = (70 : Int32) then (FX9_readText_J218L16 (((6 : Int32) * x15) + (5 : Int32)) (1 : Int32) u50.2.2 u50.2.1 x15 (upd (upd (upd (upd (upd x16 ((6 : Int32) * x15).toNatClampNeg u33.1) (((6 : Int32) * x15) + (1 : Int32)).toNatClampNeg u36.1) (((6 : Int32) * x15) + (2 : Int32)).toNatClampNeg u42.1) (((6 : Int32) * x15) + (3 : Int32)).toNatClampNeg u46.1) (((6 : Int32) * x15) + (4 : Int32)).toNatClampNeg u50.1)) else (FX9_readText_J218L16 (((6 : Int32) * x15) + (5 : Int32)) (0 : Int32) u50.2.2 u50.2.1 x15 (upd (upd (upd (upd (upd x16 ((6 : Int32) * x15).toNatClampNeg u33.1) (((6 : Int32) * x15) + (1 : Int32)).toNatClampNeg u36.1) (((6 : Int32) * x15) + (2 : Int32)).toNatClampNeg u42.1) (((6 : Int32) * x15) + (3 : Int32)).toNatClampNeg u46.1) (((6 : Int32) * x15) + (4 : Int32)).toNatClampNeg u50.1)))
def FX9_readText_S16 (m_length : Int32) (m_text : Nat → Int32) (x4 : Int32) (x5 : Int32) (x6 : Int32) (x7 : Nat → Int32) : Option ((Int32 × Int32 × Int32 × (Nat → Int32)) ⊕ (Int32 × Int32 × Int32 × (Nat → Int32))) :=
  if x5 = (-9 : Int32) then (if m_length ≤ x4 then (some (.inr (x4, x5, x6, x7))) else (if x4 < 0 ∨ 72 ≤ x4.toNatClampNeg then none else if (m_text x4.toNatClampNeg) = (80 : Int32) then (FX9_readText_J58L16 m_length m_text (m_text x4.toNatClampNeg) x4 x5 x6 x7) else (if (m_text x4.toNatClampNeg) = (70 : Int32) then (FX9_readText_J58L16 m_length m_text (m_text x4.toNatClampNeg) x4 x5 x6 x7) else (FX9_readText_J232L16 x4 x5 x6 x7)))) else (some (.inr (x4, x5, x6, x7)))
def FX9_readText (m_length : Int32) (m_text : Nat → Int32) (m_read : Nat → Int32) : Option (Int32 × Int32 × Int32 × Int32 × (Nat → Int32)) :=
  (itr (fun v => FX9_readText_S16 m_length m_text v.1 v.2.1 v.2.2.1 v.2.2.2) fu ((0 : Int32), (-9 : Int32), (0 : Int32), m_read)).bind fun o65 => some (o65.2.1, o65.1, o65.2.1, o65.2.2.1, o65.2.2.2)
def rm_X9_readText : Room := { frames := 2, cells := 0, slots := 0, locals := 47 }
set_option maxHeartbeats 4000000 in
set_option maxRecDepth 100000 in
theorem c_X9_readText (l : Launch) (D : va_G) (cI cJ cZ : ClassId) (a : Nat → Nat) (ws0 : va_W) (A : Nat → Prop)  (m_readMany : Int32) (m_pupils : Int32) (m_mood : Int32) (m_length : Int32) (m_at : Int32) (m_faultAt : Int32) (m_drawn : Int64) (m_questions : Int32) (m_rights : Int32) (m_wrongs : Int32) (m_tapes : Int32) (m_trials : Int32) (m_text : Nat → Int32) (m_read : Nat → Int32)  (u : Int32 × Int32 × Int32 × Int32 × (Nat → Int32)) (hF : FX9_readText m_length m_text m_read = some u) (z35 : ws0[35]? = some (a 35, .inr (9, [.ref (a 36), .int m_readMany, .ref (a 37), .int m_pupils, .ref (a 38), .ref (a 39), .int m_mood, .ref (a 40), .int m_length, .int m_at, .int m_faultAt, .ref (a 41), .ref (a 42), .long m_drawn, .int m_questions, .int m_rights, .int m_wrongs, .int m_tapes, .ref (a 43), .ref (a 44), .int m_trials, .ref (a 45), .ref (a 46), .ref (a 47), .ref (a 48), .ref (a 49), .ref (a 50), .ref (a 51)]))) (z36 : ws0[36]? = some (a 36, .inl (cI, 72, .inl m_read))) (z40 : ws0[40]? = some (a 40, .inl (cI, 72, .inl m_text))) (hD : va_D A ws0) : Met l yX9_readText (wq yX9_readText cX9_readText 6 (some .int)) rm_X9_readText (Pq [.ref (a 35)] D cI cJ cZ ws0) (Qw D A ws0 [35, 36] (some (.int u.1)) (fun w => w[35]? = some (a 35, .inr (9, [.ref (a 36), .int u.2.2.2.1, .ref (a 37), .int m_pupils, .ref (a 38), .ref (a 39), .int m_mood, .ref (a 40), .int m_length, .int u.2.1, .int u.2.2.1, .ref (a 41), .ref (a 42), .long m_drawn, .int m_questions, .int m_rights, .int m_wrongs, .int m_tapes, .ref (a 43), .ref (a 44), .int m_trials, .ref (a 45), .ref (a 46), .ref (a 47), .ref (a 48), .ref (a 49), .ref (a 50), .ref (a 51)])) ∧ w[36]? = some (a 36, .inl (cI, 72, .inl u.2.2.2.2)))) 0 0 A := by
  refine mq_of (by decide) (Nat.le_of_ble_eq_true rfl) (fun p e s m args below meth c ls Q hQ X _ hP hl => ?_)
  obtain ⟨hx, hb, hr, hml, hown, hts, hlk, hK, hN⟩ := id X
  have hown : s.vm.findClass RX9 = some m.cls := hown
  have hl : lv_has ls 6 [(0, .ref (a 35))] := hl
  have hS : va_S A s.heap s.heap [] := va_S.rf
  have hs : ∀ j : Nat, j ∉ [35, 36] → ws0[j]? = ws0[j]? := fun _ _ => rfl
  have h35 := z35
  have h36 := z36
  have h40 := z40
  unfold FX9_readText at hF
  refine lv_aload_n hx hb dX9_readText_0 rfl (lv_at hl 0 rfl) ?_
  refine lv_iconst (v := (0 : Int32)) hx hb dX9_readText_1 (by decide) ?_
  refine pf_X9_78 hx hb hts hown hK hP hD hS h35 rfl rfl dX9_readText_2 (fun w1 H locs hP hD hk hc hS => ?_)
  have h35 : w1[35]? = some (a 35, .inr (9, [.ref (a 36), .int m_readMany, .ref (a 37), .int m_pupils, .ref (a 38), .ref (a 39), .int m_mood, .ref (a 40), .int m_length, .int (0 : Int32), .int m_faultAt, .ref (a 41), .ref (a 42), .long m_drawn, .int m_questions, .int m_rights, .int m_wrongs, .int m_tapes, .ref (a 43), .ref (a 44), .int m_trials, .ref (a 45), .ref (a 46), .ref (a 47), .ref (a 48), .ref (a 49), .ref (a 50), .ref (a 51)])) := hc
  have h40 := (hk 40 (by omega)).trans h40
  have h36 := (hk 36 (by omega)).trans h36
  replace hs := sm_k hk (by simp) hs
  refine lv_aload_n hx hb dX9_readText_5 rfl (lv_at hl 0 rfl) ?_
  refine lv_bipush (v := (-9 : Int32)) hx hb dX9_readText_6 (by decide) ?_
  refine pf_X9_75 hx hb hts hown hK hP hD hS h35 rfl rfl dX9_readText_8 (fun w2 H locs hP hD hk hc hS => ?_)
  have h35 : w2[35]? = some (a 35, .inr (9, [.ref (a 36), .int m_readMany, .ref (a 37), .int m_pupils, .ref (a 38), .ref (a 39), .int m_mood, .ref (a 40), .int m_length, .int (0 : Int32), .int (-9 : Int32), .ref (a 41), .ref (a 42), .long m_drawn, .int m_questions, .int m_rights, .int m_wrongs, .int m_tapes, .ref (a 43), .ref (a 44), .int m_trials, .ref (a 45), .ref (a 46), .ref (a 47), .ref (a 48), .ref (a 49), .ref (a 50), .ref (a 51)])) := hc
  have h40 := (hk 40 (by omega)).trans h40
  have h36 := (hk 36 (by omega)).trans h36
  replace hs := sm_k hk (by simp) hs
  refine lv_aload_n hx hb dX9_readText_11 rfl (lv_at hl 0 rfl) ?_
  refine lv_iconst (v := (0 : Int32)) hx hb dX9_readText_12 (by decide) ?_
  refine pf_X9_83 hx hb hts hown hK hP hD hS h35 rfl rfl dX9_readText_13 (fun w3 H locs hP hD hk hc hS => ?_)
  have h35 : w3[35]? = some (a 35, .inr (9, [.ref (a 36), .int (0 : Int32), .ref (a 37), .int m_pupils, .ref (a 38), .ref (a 39), .int m_mood, .ref (a 40), .int m_length, .int (0 : Int32), .int (-9 : Int32), .ref (a 41), .ref (a 42), .long m_drawn, .int m_questions, .int m_rights, .int m_wrongs, .int m_tapes, .ref (a 43), .ref (a 44), .int m_trials, .ref (a 45), .ref (a 46), .ref (a 47), .ref (a 48), .ref (a 49), .ref (a 50), .ref (a 51)])) := hc
  have h40 := (hk 40 (by omega)).trans h40
  have h36 := (hk 36 (by omega)).trans h36
  replace hs := sm_k hk (by simp) hs
  have hL16 : ∀ (nf : Nat) (x4 : Int32) (x5 : Int32) (x6 : Int32) (x7 : Nat → Int32) (r : Int32 × Int32 × Int32 × (Nat → Int32)), itr (fun v => FX9_readText_S16 m_length m_text v.1 v.2.1 v.2.2.1 v.2.2.2) nf (x4, x5, x6, x7) = some r → ∀ (wJ : va_W) (HJ : Heap) (lJ : List Loc), va_P D vwCl wJ HJ → va_D A wJ → va_S A s.heap HJ lJ → (∀ j : Nat, j ∉ [35, 36] → wJ[j]? = ws0[j]?) → wJ[35]? = some (a 35, .inr (9, [.ref (a 36), .int x6, .ref (a 37), .int m_pupils, .ref (a 38), .ref (a 39), .int m_mood, .ref (a 40), .int m_length, .int x4, .int x5, .ref (a 41), .ref (a 42), .long m_drawn, .int m_questions, .int m_rights, .int m_wrongs, .int m_tapes, .ref (a 43), .ref (a 44), .int m_trials, .ref (a 45), .ref (a 46), .ref (a 47), .ref (a 48), .ref (a 49), .ref (a 50), .ref (a 51)])) → wJ[36]? = some (a 36, .inl (cI, 72, .inl x7)) → ∀ ls, lv_has ls 6 [(0, .ref (a 35))] → (∀ o : Int32 × Int32 × Int32 × (Nat → Int32), r = o → ∀ (wK : va_W) (HK : Heap) (lK : List Loc), va_P D vwCl wK HK → va_D A wK → va_S A s.heap HK lK → (∀ j : Nat, j ∉ [35, 36] → wK[j]? = ws0[j]?) → wK[35]? = some (a 35, .inr (9, [.ref (a 36), .int o.2.2.1, .ref (a 37), .int m_pupils, .ref (a 38), .ref (a 39), .int m_mood, .ref (a 40), .int m_length, .int o.1, .int o.2.1, .ref (a 41), .ref (a 42), .long m_drawn, .int m_questions, .int m_rights, .int m_wrongs, .int m_tapes, .ref (a 43), .ref (a 44), .int m_trials, .ref (a 45), .ref (a 46), .ref (a 47), .ref (a 48), .ref (a 49), .ref (a 50), .ref (a 51)])) → wK[36]? = some (a 36, .inl (cI, 72, .inl o.2.2.2)) → ∀ ls, lv_has ls 6 [(0, .ref (a 35))] → W p l e rm_X9_readText s m args below meth c HK lK 0 0 Q (F0 m 243 ls [])) → W p l e rm_X9_readText s m args below meth c HJ lJ 0 0 Q (F0 m 16 ls []) := by
    intro nf
    induction nf with
    | zero => intro _ _ _ _ r hF; exact (itr_0 hF).elim
    | succ nf ih =>
      intro x4 x5 x6 x7 r hF w H locs hP hD hS hs h35 h36 ls hl hE
      obtain ⟨wo, hF, hw⟩ := itr_s hF
      replace hF : FX9_readText_S16 m_length m_text x4 x5 x6 x7 = some wo := hF
      have h40 := (hs 40 (by simp only [List.mem_cons, List.not_mem_nil, or_false, not_or]; omega)).trans z40
      have hJ232 : ∀ (x18 : Int32) (x19 : Int32) (x20 : Int32) (x21 : Nat → Int32), ∀ (wJ : va_W) (HJ : Heap) (lJ : List Loc), va_P D vwCl wJ HJ → va_D A wJ → va_S A s.heap HJ lJ → (∀ j : Nat, j ∉ [35, 36] → wJ[j]? = ws0[j]?) → wJ[35]? = some (a 35, .inr (9, [.ref (a 36), .int x20, .ref (a 37), .int m_pupils, .ref (a 38), .ref (a 39), .int m_mood, .ref (a 40), .int m_length, .int x18, .int x19, .ref (a 41), .ref (a 42), .long m_drawn, .int m_questions, .int m_rights, .int m_wrongs, .int m_tapes, .ref (a 43), .ref (a 44), .int m_trials, .ref (a 45), .ref (a 46), .ref (a 47), .ref (a 48), .ref (a 49), .ref (a 50), .ref (a 51)])) → wJ[36]? = some (a 36, .inl (cI, 72, .inl x21)) → ∀ ls, lv_has ls 6 [(0, .ref (a 35))] → FX9_readText_J232L16 x18 x19 x20 x21 = some wo → W p l e rm_X9_readText s m args below meth c HJ lJ 0 0 Q (F0 m 232 ls []) := by
        intro x18 x19 x20 x21 w H locs hP hD hS hs h35 h36 ls hl hF
        have h40 := (hs 40 (by simp only [List.mem_cons, List.not_mem_nil, or_false, not_or]; omega)).trans z40
        unfold FX9_readText_J232L16 at hF
        refine lv_aload_n hx hb dX9_readText_232 rfl (lv_at hl 0 rfl) ?_
        refine lv_aload_n hx hb dX9_readText_233 rfl (lv_at hl 0 rfl) ?_
        refine gf_X9_78 hx hb hts hown hK hP h35 dX9_readText_234 ?_
        refine pf_X9_75 hx hb hts hown hK hP hD hS h35 rfl rfl dX9_readText_237 (fun w22 H locs hP hD hk hc hS => ?_)
        have h35 : w22[35]? = some (a 35, .inr (9, [.ref (a 36), .int x20, .ref (a 37), .int m_pupils, .ref (a 38), .ref (a 39), .int m_mood, .ref (a 40), .int m_length, .int x18, .int x18, .ref (a 41), .ref (a 42), .long m_drawn, .int m_questions, .int m_rights, .int m_wrongs, .int m_tapes, .ref (a 43), .ref (a 44), .int m_trials, .ref (a 45), .ref (a 46), .ref (a 47), .ref (a 48), .ref (a 49), .ref (a 50), .ref (a 51)])) := hc
        have h40 := (hk 40 (by omega)).trans h40
        have h36 := (hk 36 (by omega)).trans h36
        replace hs := sm_k hk (by simp) hs
        refine lv_goto (tgt := 16) hx hb dX9_readText_240 (by decide) ?_
        obtain rfl := Option.some.inj hF
        exact ih _ _ _ _ _ hw _ _ _ hP hD hS hs h35 h36 ls (lv_sub hl [0] rfl) hE
      have hJ218 : ∀ (x55 : Int32) (x56 : Int32) (x57 : Int32) (x58 : Int32) (x59 : Int32) (x60 : Nat → Int32), ∀ (wJ : va_W) (HJ : Heap) (lJ : List Loc), va_P D vwCl wJ HJ → va_D A wJ → va_S A s.heap HJ lJ → (∀ j : Nat, j ∉ [35, 36] → wJ[j]? = ws0[j]?) → wJ[35]? = some (a 35, .inr (9, [.ref (a 36), .int x59, .ref (a 37), .int m_pupils, .ref (a 38), .ref (a 39), .int m_mood, .ref (a 40), .int m_length, .int x57, .int x58, .ref (a 41), .ref (a 42), .long m_drawn, .int m_questions, .int m_rights, .int m_wrongs, .int m_tapes, .ref (a 43), .ref (a 44), .int m_trials, .ref (a 45), .ref (a 46), .ref (a 47), .ref (a 48), .ref (a 49), .ref (a 50), .ref (a 51)])) → wJ[36]? = some (a 36, .inl (cI, 72, .inl x60)) → ∀ ls, lv_has ls 6 [(0, .ref (a 35))] → FX9_readText_J218L16 x55 x56 x57 x58 x59 x60 = some wo → W p l e rm_X9_readText s m args below meth c HJ lJ 0 0 Q (F0 m 218 ls [.int x56, .int x55, .ref (a 36)]) := by
        intro x55 x56 x57 x58 x59 x60 w H locs hP hD hS hs h35 h36 ls hl hF
        have h40 := (hs 40 (by simp only [List.mem_cons, List.not_mem_nil, or_false, not_or]; omega)).trans z40
        unfold FX9_readText_J218L16 at hF
        obtain ⟨hg61, hF⟩ := gd_some hF
        refine ast_i hx hb hK hP hD hS h36 hg61 dX9_readText_218 (fun w62 H locs hP hD hk hc hS => ?_)
        have h36 : w62[36]? = some (a 36, .inl (cI, 72, .inl (upd x60 x55.toNatClampNeg x56))) := hc
        have h35 := (hk 35 (by omega)).trans h35
        have h40 := (hk 40 (by omega)).trans h40
        replace hs := sm_k hk (by simp) hs
        refine lv_aload_n hx hb dX9_readText_219 rfl (lv_at hl 0 rfl) ?_
        refine lv_dup hx hb dX9_readText_220 rfl ?_
        refine gf_X9_83 hx hb hts hown hK hP h35 dX9_readText_221 ?_
        refine lv_iconst (v := (1 : Int32)) hx hb dX9_readText_224 (by decide) ?_
        refine lv_iadd hx hb dX9_readText_225 ?_
        refine pf_X9_83 hx hb hts hown hK hP hD hS h35 rfl rfl dX9_readText_226 (fun w63 H locs hP hD hk hc hS => ?_)
        have h35 : w63[35]? = some (a 35, .inr (9, [.ref (a 36), .int (x59 + (1 : Int32)), .ref (a 37), .int m_pupils, .ref (a 38), .ref (a 39), .int m_mood, .ref (a 40), .int m_length, .int x57, .int x58, .ref (a 41), .ref (a 42), .long m_drawn, .int m_questions, .int m_rights, .int m_wrongs, .int m_tapes, .ref (a 43), .ref (a 44), .int m_trials, .ref (a 45), .ref (a 46), .ref (a 47), .ref (a 48), .ref (a 49), .ref (a 50), .ref (a 51)])) := hc
        have h40 := (hk 40 (by omega)).trans h40
        have h36 := (hk 36 (by omega)).trans h36
        replace hs := sm_k hk (by simp) hs
        refine lv_goto (tgt := 240) hx hb dX9_readText_229 (by decide) ?_
        refine lv_goto (tgt := 16) hx hb dX9_readText_240 (by decide) ?_
        obtain rfl := Option.some.inj hF
        exact ih _ _ _ _ _ hw _ _ _ hP hD hS hs h35 h36 ls (lv_sub hl [0] rfl) hE
      have hJ58 : ∀ (x12 : Int32) (x13 : Int32) (x14 : Int32) (x15 : Int32) (x16 : Nat → Int32), ∀ (wJ : va_W) (HJ : Heap) (lJ : List Loc), va_P D vwCl wJ HJ → va_D A wJ → va_S A s.heap HJ lJ → (∀ j : Nat, j ∉ [35, 36] → wJ[j]? = ws0[j]?) → wJ[35]? = some (a 35, .inr (9, [.ref (a 36), .int x15, .ref (a 37), .int m_pupils, .ref (a 38), .ref (a 39), .int m_mood, .ref (a 40), .int m_length, .int x13, .int x14, .ref (a 41), .ref (a 42), .long m_drawn, .int m_questions, .int m_rights, .int m_wrongs, .int m_tapes, .ref (a 43), .ref (a 44), .int m_trials, .ref (a 45), .ref (a 46), .ref (a 47), .ref (a 48), .ref (a 49), .ref (a 50), .ref (a 51)])) → wJ[36]? = some (a 36, .inl (cI, 72, .inl x16)) → ∀ ls, lv_has ls 6 [(1, .int x12), (0, .ref (a 35))] → FX9_readText_J58L16 m_length m_text x12 x13 x14 x15 x16 = some wo → W p l e rm_X9_readText s m args below meth c HJ lJ 0 0 Q (F0 m 58 ls []) := by
        intro x12 x13 x14 x15 x16 w H locs hP hD hS hs h35 h36 ls hl hF
        have h40 := (hs 40 (by simp only [List.mem_cons, List.not_mem_nil, or_false, not_or]; omega)).trans z40
        unfold FX9_readText_J58L16 at hF
        refine lv_aload_n hx hb dX9_readText_58 rfl (lv_at hl 1 rfl) ?_
        refine gf_X9_83 hx hb hts hown hK hP h35 dX9_readText_59 ?_
        refine lv_bipush (v := (12 : Int32)) hx hb dX9_readText_62 (by decide) ?_
        refine lv_icmp_ge (tgt := 232) hx hb dX9_readText_64 (by decide) (fun c17 => ?_) (fun c17 => ?_)
        · replace hF := (if_pos c17).symm.trans hF
          exact hJ232 x13 x14 x15 x16 _ _ _ hP hD hS hs h35 h36 ls (lv_sub hl [1] rfl) hF
        · replace hF := (if_neg c17).symm.trans hF
          refine lv_aload_n hx hb dX9_readText_67 rfl (lv_at hl 1 rfl) ?_
          refine lv_dup hx hb dX9_readText_68 rfl ?_
          refine gf_X9_78 hx hb hts hown hK hP h35 dX9_readText_69 ?_
          refine lv_iconst (v := (1 : Int32)) hx hb dX9_readText_72 (by decide) ?_
          refine lv_iadd hx hb dX9_readText_73 ?_
          refine pf_X9_78 hx hb hts hown hK hP hD hS h35 rfl rfl dX9_readText_74 (fun w23 H locs hP hD hk hc hS => ?_)
          have h35 : w23[35]? = some (a 35, .inr (9, [.ref (a 36), .int x15, .ref (a 37), .int m_pupils, .ref (a 38), .ref (a 39), .int m_mood, .ref (a 40), .int m_length, .int (x13 + (1 : Int32)), .int x14, .ref (a 41), .ref (a 42), .long m_drawn, .int m_questions, .int m_rights, .int m_wrongs, .int m_tapes, .ref (a 43), .ref (a 44), .int m_trials, .ref (a 45), .ref (a 46), .ref (a 47), .ref (a 48), .ref (a 49), .ref (a 50), .ref (a 51)])) := hc
          have h40 := (hk 40 (by omega)).trans h40
          have h36 := (hk 36 (by omega)).trans h36
          replace hs := sm_k hk (by simp) hs
          refine lv_iconst (v := (0 : Int32)) hx hb dX9_readText_77 (by decide) ?_
          refine lv_istore_n (lv' := [(2, .int (0 : Int32)), (1, .int x12), (0, .ref (a 35))]) hx hb dX9_readText_78 rfl hl (by decide) rfl (fun ls hl => ?_)
          refine lv_iconst (v := (0 : Int32)) hx hb dX9_readText_79 (by decide) ?_
          refine lv_istore_n (lv' := [(3, .int (0 : Int32)), (2, .int (0 : Int32)), (1, .int x12), (0, .ref (a 35))]) hx hb dX9_readText_80 rfl hl (by decide) rfl (fun ls hl => ?_)
          have hL81 : ∀ (nf : Nat) (x24 : Int32) (x25 : Int32) (r : Int32), itr (fun v => FX9_readText_S81 x15 x16 v.1 v.2) nf (x24, x25) = some r → ∀ (wJ : va_W) (HJ : Heap) (lJ : List Loc), va_P D vwCl wJ HJ → va_D A wJ → va_S A s.heap HJ lJ → (∀ j : Nat, j ∉ [35, 36] → wJ[j]? = ws0[j]?) → wJ[35]? = some (a 35, .inr (9, [.ref (a 36), .int x15, .ref (a 37), .int m_pupils, .ref (a 38), .ref (a 39), .int m_mood, .ref (a 40), .int m_length, .int (x13 + (1 : Int32)), .int x14, .ref (a 41), .ref (a 42), .long m_drawn, .int m_questions, .int m_rights, .int m_wrongs, .int m_tapes, .ref (a 43), .ref (a 44), .int m_trials, .ref (a 45), .ref (a 46), .ref (a 47), .ref (a 48), .ref (a 49), .ref (a 50), .ref (a 51)])) → wJ[36]? = some (a 36, .inl (cI, 72, .inl x16)) → ∀ ls, lv_has ls 6 [(3, .int x25), (2, .int x24), (1, .int x12), (0, .ref (a 35))] → (∀ o : Int32, r = o → ∀ (wK : va_W) (HK : Heap) (lK : List Loc), va_P D vwCl wK HK → va_D A wK → va_S A s.heap HK lK → (∀ j : Nat, j ∉ [35, 36] → wK[j]? = ws0[j]?) → wK[35]? = some (a 35, .inr (9, [.ref (a 36), .int x15, .ref (a 37), .int m_pupils, .ref (a 38), .ref (a 39), .int m_mood, .ref (a 40), .int m_length, .int (x13 + (1 : Int32)), .int x14, .ref (a 41), .ref (a 42), .long m_drawn, .int m_questions, .int m_rights, .int m_wrongs, .int m_tapes, .ref (a 43), .ref (a 44), .int m_trials, .ref (a 45), .ref (a 46), .ref (a 47), .ref (a 48), .ref (a 49), .ref (a 50), .ref (a 51)])) → wK[36]? = some (a 36, .inl (cI, 72, .inl x16)) → ∀ ls, lv_has ls 6 [(2, .int o), (1, .int x12), (0, .ref (a 35))] → W p l e rm_X9_readText s m args below meth c HK lK 0 0 Q (F0 m 110 ls [])) → W p l e rm_X9_readText s m args below meth c HJ lJ 0 0 Q (F0 m 81 ls []) := by
            intro nf
            induction nf with
            | zero => intro _ _ r hF; exact (itr_0 hF).elim
            | succ nf ih =>
              intro x24 x25 r hF w H locs hP hD hS hs h35 h36 ls hl hE
              obtain ⟨wo, hF, hw⟩ := itr_s hF
              replace hF : FX9_readText_S81 x15 x16 x24 x25 = some wo := hF
              have h40 := (hs 40 (by simp only [List.mem_cons, List.not_mem_nil, or_false, not_or]; omega)).trans z40
              have hJ102 : ∀ (x29 : Int32) (x30 : Int32) (x31 : Int32), ∀ (wJ : va_W) (HJ : Heap) (lJ : List Loc), va_P D vwCl wJ HJ → va_D A wJ → va_S A s.heap HJ lJ → (∀ j : Nat, j ∉ [35, 36] → wJ[j]? = ws0[j]?) → wJ[35]? = some (a 35, .inr (9, [.ref (a 36), .int x15, .ref (a 37), .int m_pupils, .ref (a 38), .ref (a 39), .int m_mood, .ref (a 40), .int m_length, .int (x13 + (1 : Int32)), .int x14, .ref (a 41), .ref (a 42), .long m_drawn, .int m_questions, .int m_rights, .int m_wrongs, .int m_tapes, .ref (a 43), .ref (a 44), .int m_trials, .ref (a 45), .ref (a 46), .ref (a 47), .ref (a 48), .ref (a 49), .ref (a 50), .ref (a 51)])) → wJ[36]? = some (a 36, .inl (cI, 72, .inl x16)) → ∀ ls, lv_has ls 6 [(3, .int x29), (1, .int x12), (0, .ref (a 35))] → FX9_readText_J102L81 x29 x30 x31 = some wo → W p l e rm_X9_readText s m args below meth c HJ lJ 0 0 Q (F0 m 102 ls [.int x31, .int x30]) := by
                intro x29 x30 x31 w H locs hP hD hS hs h35 h36 ls hl hF
                have h40 := (hs 40 (by simp only [List.mem_cons, List.not_mem_nil, or_false, not_or]; omega)).trans z40
                unfold FX9_readText_J102L81 at hF
                refine lv_ior hx hb dX9_readText_102 ?_
                refine lv_istore_n (lv' := [(2, .int (x30 ||| x31)), (3, .int x29), (1, .int x12), (0, .ref (a 35))]) hx hb dX9_readText_103 rfl hl (by decide) rfl (fun ls hl => ?_)
                refine lv_iinc (v := x29 + (1 : Int32)) (lv' := [(3, .int (x29 + (1 : Int32))), (2, .int (x30 ||| x31)), (1, .int x12), (0, .ref (a 35))]) hx hb dX9_readText_104 hl (k := 1) rfl rfl (by decide) rfl (fun ls hl => ?_)
                refine lv_goto (tgt := 81) hx hb dX9_readText_107 (by decide) ?_
                obtain rfl := Option.some.inj hF
                exact ih _ _ _ hw _ _ _ hP hD hS hs h35 h36 ls (lv_sub hl [0, 1, 2, 3] rfl) hE
              unfold FX9_readText_S81 at hF
              refine lv_iload_n hx hb dX9_readText_81 rfl (lv_at hl 0 rfl) ?_
              refine lv_iconst (v := (4 : Int32)) hx hb dX9_readText_82 (by decide) ?_
              refine lv_icmp_ge (tgt := 110) hx hb dX9_readText_83 (by decide) (fun c26 => ?_) (fun c26 => ?_)
              · replace hF := (if_pos c26).symm.trans hF
                obtain rfl := Option.some.inj hF
                obtain rfl := hw
                exact hE _ rfl _ _ _ hP hD hS hs h35 h36 ls (lv_sub hl [1, 2, 3] rfl)
              · replace hF := (if_neg c26).symm.trans hF
                refine lv_iload_n hx hb dX9_readText_86 rfl (lv_at hl 1 rfl) ?_
                refine lv_aload_n hx hb dX9_readText_87 rfl (lv_at hl 3 rfl) ?_
                refine lv_iload_n hx hb dX9_readText_88 rfl (lv_at hl 0 rfl) ?_
                obtain ⟨x27, hx27, hF⟩ := bd_some hF
                refine rd_i (runV (As := [.int x25]) (rest := [.int x24]) X cq_X9_free lk_X9_86 (c_X9_free l D cI cJ cZ a w x15 m_pupils m_mood m_length (x13 + (1 : Int32)) x14 m_drawn m_questions m_rights m_wrongs m_tapes m_trials x16 x25 x27 hx27 h35 h36) rfl rfl ⟨Nat.le_of_ble_eq_true rfl, Nat.le_of_ble_eq_true rfl⟩ hP h35 rfl rfl hl.1 rfl (Nat.le_of_ble_eq_true rfl) dX9_readText_89 ⟨Nat.le_of_ble_eq_true rfl, Nat.le_of_ble_eq_true rfl⟩) ?_
                refine lv_if_eq (tgt := 101) hx hb dX9_readText_92 (by decide) (fun c28 => ?_) (fun c28 => ?_)
                · replace hF := (if_pos c28).symm.trans hF
                  refine lv_iconst (v := (0 : Int32)) hx hb dX9_readText_101 (by decide) ?_
                  exact hJ102 x25 x24 (0 : Int32) _ _ _ hP hD hS hs h35 h36 ls (lv_sub hl [0, 2, 3] rfl) hF
                · replace hF := (if_neg c28).symm.trans hF
                  refine lv_iconst (v := (1 : Int32)) hx hb dX9_readText_95 (by decide) ?_
                  refine lv_iload_n hx hb dX9_readText_96 rfl (lv_at hl 0 rfl) ?_
                  refine lv_ishl hx hb dX9_readText_97 ?_
                  refine lv_goto (tgt := 102) hx hb dX9_readText_98 (by decide) ?_
                  exact hJ102 x25 x24 ((1 : Int32) <<< (x25 &&& 31)) _ _ _ hP hD hS hs h35 h36 ls (lv_sub hl [0, 2, 3] rfl) hF
          obtain ⟨o32, ho32, hF⟩ := bd_some hF
          refine hL81 fu (0 : Int32) (0 : Int32) o32 ho32 _ _ _ hP hD hS hs h35 h36 ls (lv_sub hl [0, 1, 2, 3] rfl) ?_
          intro _ q_o32 w H locs hP hD hS hs h35 h36 ls hl
          subst q_o32
          have h40 := (hs 40 (by simp only [List.mem_cons, List.not_mem_nil, or_false, not_or]; omega)).trans z40
          refine lv_bipush (v := (6 : Int32)) hx hb dX9_readText_110 (by decide) ?_
          refine lv_aload_n hx hb dX9_readText_112 rfl (lv_at hl 2 rfl) ?_
          refine gf_X9_83 hx hb hts hown hK hP h35 dX9_readText_113 ?_
          refine lv_imul hx hb dX9_readText_116 ?_
          refine lv_istore_n (lv' := [(3, .int ((6 : Int32) * x15)), (2, .int o32), (1, .int x12), (0, .ref (a 35))]) hx hb dX9_readText_117 rfl hl (by decide) rfl (fun ls hl => ?_)
          refine lv_aload_n hx hb dX9_readText_118 rfl (lv_at hl 3 rfl) ?_
          refine lv_iload_n hx hb dX9_readText_119 rfl (lv_at hl 1 rfl) ?_
          obtain ⟨u33, hu33, hF⟩ := bd_some hF
          refine wr_i (runV (As := [.int o32]) (rest := []) X cq_X9_figure lk_X9_90 (c_X9_figure l D cI cJ cZ a w A x15 m_pupils m_mood m_length (x13 + (1 : Int32)) x14 m_drawn m_questions m_rights m_wrongs m_tapes m_trials m_text o32 u33 hu33 h35 h40 hD) rfl rfl ⟨Nat.le_of_ble_eq_true rfl, Nat.le_of_ble_eq_true rfl⟩ hP h35 rfl rfl hl.1 rfl (Nat.le_of_ble_eq_true rfl) dX9_readText_120 ⟨Nat.le_of_ble_eq_true rfl, Nat.le_of_ble_eq_true rfl⟩) hS (fun w34 H locs hP hD hk hB hS => ?_)
          have h35 : w34[35]? = some (a 35, .inr (9, [.ref (a 36), .int x15, .ref (a 37), .int m_pupils, .ref (a 38), .ref (a 39), .int m_mood, .ref (a 40), .int m_length, .int u33.2.2, .int u33.2.1, .ref (a 41), .ref (a 42), .long m_drawn, .int m_questions, .int m_rights, .int m_wrongs, .int m_tapes, .ref (a 43), .ref (a 44), .int m_trials, .ref (a 45), .ref (a 46), .ref (a 47), .ref (a 48), .ref (a 49), .ref (a 50), .ref (a 51)])) := hB
          have h40 := (hk 40 (by simp only [List.mem_cons, List.not_mem_nil, or_false, not_or]; omega)).trans h40
          have h36 := (hk 36 (by simp only [List.mem_cons, List.not_mem_nil, or_false, not_or]; omega)).trans h36
          replace hs := st_tr hk (fun j hj => by simp only [List.mem_cons, List.not_mem_nil, or_false] at hj ⊢; omega) hs
          refine lv_istore (lv' := [(4, .int u33.1), (3, .int ((6 : Int32) * x15)), (2, .int o32), (1, .int x12), (0, .ref (a 35))]) hx hb dX9_readText_123 hl (by decide) rfl (fun ls hl => ?_)
          refine lv_aload_n hx hb dX9_readText_125 rfl (lv_at hl 4 rfl) ?_
          refine lv_aload_n hx hb dX9_readText_126 rfl (lv_at hl 4 rfl) ?_
          refine lv_iload hx hb dX9_readText_127 (lv_at hl 0 rfl) ?_
          obtain ⟨x35, hx35, hF⟩ := bd_some hF
          refine rd_i (runV (As := [.int u33.1]) (rest := [.ref (a 35)]) X cq_X9_free lk_X9_86 (c_X9_free l D cI cJ cZ a w34 x15 m_pupils m_mood m_length u33.2.2 u33.2.1 m_drawn m_questions m_rights m_wrongs m_tapes m_trials x16 u33.1 x35 hx35 h35 h36) rfl rfl ⟨Nat.le_of_ble_eq_true rfl, Nat.le_of_ble_eq_true rfl⟩ hP h35 rfl rfl hl.1 rfl (Nat.le_of_ble_eq_true rfl) dX9_readText_129 ⟨Nat.le_of_ble_eq_true rfl, Nat.le_of_ble_eq_true rfl⟩) ?_
          obtain ⟨u36, hu36, hF⟩ := bd_some hF
          refine wr_i (runV (As := [.int x35]) (rest := []) X cq_X9_figure lk_X9_90 (c_X9_figure l D cI cJ cZ a w34 A x15 m_pupils m_mood m_length u33.2.2 u33.2.1 m_drawn m_questions m_rights m_wrongs m_tapes m_trials m_text x35 u36 hu36 h35 h40 hD) rfl rfl ⟨Nat.le_of_ble_eq_true rfl, Nat.le_of_ble_eq_true rfl⟩ hP h35 rfl rfl hl.1 rfl (Nat.le_of_ble_eq_true rfl) dX9_readText_132 ⟨Nat.le_of_ble_eq_true rfl, Nat.le_of_ble_eq_true rfl⟩) hS (fun w37 H locs hP hD hk hB hS => ?_)
          have h35 : w37[35]? = some (a 35, .inr (9, [.ref (a 36), .int x15, .ref (a 37), .int m_pupils, .ref (a 38), .ref (a 39), .int m_mood, .ref (a 40), .int m_length, .int u36.2.2, .int u36.2.1, .ref (a 41), .ref (a 42), .long m_drawn, .int m_questions, .int m_rights, .int m_wrongs, .int m_tapes, .ref (a 43), .ref (a 44), .int m_trials, .ref (a 45), .ref (a 46), .ref (a 47), .ref (a 48), .ref (a 49), .ref (a 50), .ref (a 51)])) := hB
          have h40 := (hk 40 (by simp only [List.mem_cons, List.not_mem_nil, or_false, not_or]; omega)).trans h40
          have h36 := (hk 36 (by simp only [List.mem_cons, List.not_mem_nil, or_false, not_or]; omega)).trans h36
          replace hs := st_tr hk (fun j hj => by simp only [List.mem_cons, List.not_mem_nil, or_false] at hj ⊢; omega) hs
          refine lv_istore (lv' := [(5, .int u36.1), (4, .int u33.1), (3, .int ((6 : Int32) * x15)), (2, .int o32), (1, .int x12), (0, .ref (a 35))]) hx hb dX9_readText_135 hl (by decide) rfl (fun ls hl => ?_)
          refine lv_aload_n hx hb dX9_readText_137 rfl (lv_at hl 5 rfl) ?_
          refine gf_X9_7 hx hb hts hown hK hP h35 dX9_readText_138 ?_
          refine lv_iload_n hx hb dX9_readText_141 rfl (lv_at hl 2 rfl) ?_
          refine lv_iload hx hb dX9_readText_142 (lv_at hl 1 rfl) ?_
          obtain ⟨hg38, hF⟩ := gd_some hF
          refine ast_i hx hb hK hP hD hS h36 hg38 dX9_readText_144 (fun w39 H locs hP hD hk hc hS => ?_)
          have h36 : w39[36]? = some (a 36, .inl (cI, 72, .inl (upd x16 ((6 : Int32) * x15).toNatClampNeg u33.1))) := hc
          have h35 := (hk 35 (by omega)).trans h35
          have h40 := (hk 40 (by omega)).trans h40
          replace hs := sm_k hk (by simp) hs
          refine lv_aload_n hx hb dX9_readText_145 rfl (lv_at hl 5 rfl) ?_
          refine gf_X9_7 hx hb hts hown hK hP h35 dX9_readText_146 ?_
          refine lv_iload_n hx hb dX9_readText_149 rfl (lv_at hl 2 rfl) ?_
          refine lv_iconst (v := (1 : Int32)) hx hb dX9_readText_150 (by decide) ?_
          refine lv_iadd hx hb dX9_readText_151 ?_
          refine lv_iload hx hb dX9_readText_152 (lv_at hl 0 rfl) ?_
          obtain ⟨hg40, hF⟩ := gd_some hF
          refine ast_i hx hb hK hP hD hS h36 hg40 dX9_readText_154 (fun w41 H locs hP hD hk hc hS => ?_)
          have h36 : w41[36]? = some (a 36, .inl (cI, 72, .inl (upd (upd x16 ((6 : Int32) * x15).toNatClampNeg u33.1) (((6 : Int32) * x15) + (1 : Int32)).toNatClampNeg u36.1))) := hc
          have h35 := (hk 35 (by omega)).trans h35
          have h40 := (hk 40 (by omega)).trans h40
          replace hs := sm_k hk (by simp) hs
          refine lv_aload_n hx hb dX9_readText_155 rfl (lv_at hl 5 rfl) ?_
          refine gf_X9_7 hx hb hts hown hK hP h35 dX9_readText_156 ?_
          refine lv_iload_n hx hb dX9_readText_159 rfl (lv_at hl 2 rfl) ?_
          refine lv_iconst (v := (2 : Int32)) hx hb dX9_readText_160 (by decide) ?_
          refine lv_iadd hx hb dX9_readText_161 ?_
          refine lv_aload_n hx hb dX9_readText_162 rfl (lv_at hl 5 rfl) ?_
          refine lv_sipush (v := (1023 : Int32)) hx hb dX9_readText_163 (by decide) ?_
          obtain ⟨u42, hu42, hF⟩ := bd_some hF
          refine wr_i (runV (As := [.int (1023 : Int32)]) (rest := [.int (((6 : Int32) * x15) + (2 : Int32)), .ref (a 36)]) X cq_X9_figure lk_X9_90 (c_X9_figure l D cI cJ cZ a w41 A x15 m_pupils m_mood m_length u36.2.2 u36.2.1 m_drawn m_questions m_rights m_wrongs m_tapes m_trials m_text (1023 : Int32) u42 hu42 h35 h40 hD) rfl rfl ⟨Nat.le_of_ble_eq_true rfl, Nat.le_of_ble_eq_true rfl⟩ hP h35 rfl rfl hl.1 rfl (Nat.le_of_ble_eq_true rfl) dX9_readText_166 ⟨Nat.le_of_ble_eq_true rfl, Nat.le_of_ble_eq_true rfl⟩) hS (fun w43 H locs hP hD hk hB hS => ?_)
          have h35 : w43[35]? = some (a 35, .inr (9, [.ref (a 36), .int x15, .ref (a 37), .int m_pupils, .ref (a 38), .ref (a 39), .int m_mood, .ref (a 40), .int m_length, .int u42.2.2, .int u42.2.1, .ref (a 41), .ref (a 42), .long m_drawn, .int m_questions, .int m_rights, .int m_wrongs, .int m_tapes, .ref (a 43), .ref (a 44), .int m_trials, .ref (a 45), .ref (a 46), .ref (a 47), .ref (a 48), .ref (a 49), .ref (a 50), .ref (a 51)])) := hB
          have h40 := (hk 40 (by simp only [List.mem_cons, List.not_mem_nil, or_false, not_or]; omega)).trans h40
          have h36 := (hk 36 (by simp only [List.mem_cons, List.not_mem_nil, or_false, not_or]; omega)).trans h36
          replace hs := st_tr hk (fun j hj => by simp only [List.mem_cons, List.not_mem_nil, or_false] at hj ⊢; omega) hs
          obtain ⟨hg44, hF⟩ := gd_some hF
          refine ast_i hx hb hK hP hD hS h36 hg44 dX9_readText_169 (fun w45 H locs hP hD hk hc hS => ?_)
          have h36 : w45[36]? = some (a 36, .inl (cI, 72, .inl (upd (upd (upd x16 ((6 : Int32) * x15).toNatClampNeg u33.1) (((6 : Int32) * x15) + (1 : Int32)).toNatClampNeg u36.1) (((6 : Int32) * x15) + (2 : Int32)).toNatClampNeg u42.1))) := hc
          have h35 := (hk 35 (by omega)).trans h35
          have h40 := (hk 40 (by omega)).trans h40
          replace hs := sm_k hk (by simp) hs
          refine lv_aload_n hx hb dX9_readText_170 rfl (lv_at hl 5 rfl) ?_
          refine gf_X9_7 hx hb hts hown hK hP h35 dX9_readText_171 ?_
          refine lv_iload_n hx hb dX9_readText_174 rfl (lv_at hl 2 rfl) ?_
          refine lv_iconst (v := (3 : Int32)) hx hb dX9_readText_175 (by decide) ?_
          refine lv_iadd hx hb dX9_readText_176 ?_
          refine lv_aload_n hx hb dX9_readText_177 rfl (lv_at hl 5 rfl) ?_
          refine lv_sipush (v := (1023 : Int32)) hx hb dX9_readText_178 (by decide) ?_
          obtain ⟨u46, hu46, hF⟩ := bd_some hF
          refine wr_i (runV (As := [.int (1023 : Int32)]) (rest := [.int (((6 : Int32) * x15) + (3 : Int32)), .ref (a 36)]) X cq_X9_figure lk_X9_90 (c_X9_figure l D cI cJ cZ a w45 A x15 m_pupils m_mood m_length u42.2.2 u42.2.1 m_drawn m_questions m_rights m_wrongs m_tapes m_trials m_text (1023 : Int32) u46 hu46 h35 h40 hD) rfl rfl ⟨Nat.le_of_ble_eq_true rfl, Nat.le_of_ble_eq_true rfl⟩ hP h35 rfl rfl hl.1 rfl (Nat.le_of_ble_eq_true rfl) dX9_readText_181 ⟨Nat.le_of_ble_eq_true rfl, Nat.le_of_ble_eq_true rfl⟩) hS (fun w47 H locs hP hD hk hB hS => ?_)
          have h35 : w47[35]? = some (a 35, .inr (9, [.ref (a 36), .int x15, .ref (a 37), .int m_pupils, .ref (a 38), .ref (a 39), .int m_mood, .ref (a 40), .int m_length, .int u46.2.2, .int u46.2.1, .ref (a 41), .ref (a 42), .long m_drawn, .int m_questions, .int m_rights, .int m_wrongs, .int m_tapes, .ref (a 43), .ref (a 44), .int m_trials, .ref (a 45), .ref (a 46), .ref (a 47), .ref (a 48), .ref (a 49), .ref (a 50), .ref (a 51)])) := hB
          have h40 := (hk 40 (by simp only [List.mem_cons, List.not_mem_nil, or_false, not_or]; omega)).trans h40
          have h36 := (hk 36 (by simp only [List.mem_cons, List.not_mem_nil, or_false, not_or]; omega)).trans h36
          replace hs := st_tr hk (fun j hj => by simp only [List.mem_cons, List.not_mem_nil, or_false] at hj ⊢; omega) hs
          obtain ⟨hg48, hF⟩ := gd_some hF
          refine ast_i hx hb hK hP hD hS h36 hg48 dX9_readText_184 (fun w49 H locs hP hD hk hc hS => ?_)
          have h36 : w49[36]? = some (a 36, .inl (cI, 72, .inl (upd (upd (upd (upd x16 ((6 : Int32) * x15).toNatClampNeg u33.1) (((6 : Int32) * x15) + (1 : Int32)).toNatClampNeg u36.1) (((6 : Int32) * x15) + (2 : Int32)).toNatClampNeg u42.1) (((6 : Int32) * x15) + (3 : Int32)).toNatClampNeg u46.1))) := hc
          have h35 := (hk 35 (by omega)).trans h35
          have h40 := (hk 40 (by omega)).trans h40
          replace hs := sm_k hk (by simp) hs
          refine lv_aload_n hx hb dX9_readText_185 rfl (lv_at hl 5 rfl) ?_
          refine gf_X9_7 hx hb hts hown hK hP h35 dX9_readText_186 ?_
          refine lv_iload_n hx hb dX9_readText_189 rfl (lv_at hl 2 rfl) ?_
          refine lv_iconst (v := (4 : Int32)) hx hb dX9_readText_190 (by decide) ?_
          refine lv_iadd hx hb dX9_readText_191 ?_
          refine lv_aload_n hx hb dX9_readText_192 rfl (lv_at hl 5 rfl) ?_
          refine lv_sipush (v := (1023 : Int32)) hx hb dX9_readText_193 (by decide) ?_
          obtain ⟨u50, hu50, hF⟩ := bd_some hF
          refine wr_i (runV (As := [.int (1023 : Int32)]) (rest := [.int (((6 : Int32) * x15) + (4 : Int32)), .ref (a 36)]) X cq_X9_figure lk_X9_90 (c_X9_figure l D cI cJ cZ a w49 A x15 m_pupils m_mood m_length u46.2.2 u46.2.1 m_drawn m_questions m_rights m_wrongs m_tapes m_trials m_text (1023 : Int32) u50 hu50 h35 h40 hD) rfl rfl ⟨Nat.le_of_ble_eq_true rfl, Nat.le_of_ble_eq_true rfl⟩ hP h35 rfl rfl hl.1 rfl (Nat.le_of_ble_eq_true rfl) dX9_readText_196 ⟨Nat.le_of_ble_eq_true rfl, Nat.le_of_ble_eq_true rfl⟩) hS (fun w51 H locs hP hD hk hB hS => ?_)
          have h35 : w51[35]? = some (a 35, .inr (9, [.ref (a 36), .int x15, .ref (a 37), .int m_pupils, .ref (a 38), .ref (a 39), .int m_mood, .ref (a 40), .int m_length, .int u50.2.2, .int u50.2.1, .ref (a 41), .ref (a 42), .long m_drawn, .int m_questions, .int m_rights, .int m_wrongs, .int m_tapes, .ref (a 43), .ref (a 44), .int m_trials, .ref (a 45), .ref (a 46), .ref (a 47), .ref (a 48), .ref (a 49), .ref (a 50), .ref (a 51)])) := hB
          have h40 := (hk 40 (by simp only [List.mem_cons, List.not_mem_nil, or_false, not_or]; omega)).trans h40
          have h36 := (hk 36 (by simp only [List.mem_cons, List.not_mem_nil, or_false, not_or]; omega)).trans h36
          replace hs := st_tr hk (fun j hj => by simp only [List.mem_cons, List.not_mem_nil, or_false] at hj ⊢; omega) hs
          obtain ⟨hg52, hF⟩ := gd_some hF
          refine ast_i hx hb hK hP hD hS h36 hg52 dX9_readText_199 (fun w53 H locs hP hD hk hc hS => ?_)
          have h36 : w53[36]? = some (a 36, .inl (cI, 72, .inl (upd (upd (upd (upd (upd x16 ((6 : Int32) * x15).toNatClampNeg u33.1) (((6 : Int32) * x15) + (1 : Int32)).toNatClampNeg u36.1) (((6 : Int32) * x15) + (2 : Int32)).toNatClampNeg u42.1) (((6 : Int32) * x15) + (3 : Int32)).toNatClampNeg u46.1) (((6 : Int32) * x15) + (4 : Int32)).toNatClampNeg u50.1))) := hc
          have h35 := (hk 35 (by omega)).trans h35
          have h40 := (hk 40 (by omega)).trans h40
          replace hs := sm_k hk (by simp) hs
          refine lv_aload_n hx hb dX9_readText_200 rfl (lv_at hl 5 rfl) ?_
          refine gf_X9_7 hx hb hts hown hK hP h35 dX9_readText_201 ?_
          refine lv_iload_n hx hb dX9_readText_204 rfl (lv_at hl 2 rfl) ?_
          refine lv_iconst (v := (5 : Int32)) hx hb dX9_readText_205 (by decide) ?_
          refine lv_iadd hx hb dX9_readText_206 ?_
          refine lv_iload_n hx hb dX9_readText_207 rfl (lv_at hl 4 rfl) ?_
          refine lv_bipush (v := (70 : Int32)) hx hb dX9_readText_208 (by decide) ?_
          refine lv_icmp_ne (tgt := 217) hx hb dX9_readText_210 (by decide) (fun c54 => ?_) (fun c54 => ?_)
          · replace hF := (if_neg c54).symm.trans hF
            refine lv_iconst (v := (0 : Int32)) hx hb dX9_readText_217 (by decide) ?_
            exact hJ218 (((6 : Int32) * x15) + (5 : Int32)) (0 : Int32) u50.2.2 u50.2.1 x15 (upd (upd (upd (upd (upd x16 ((6 : Int32) * x15).toNatClampNeg u33.1) (((6 : Int32) * x15) + (1 : Int32)).toNatClampNeg u36.1) (((6 : Int32) * x15) + (2 : Int32)).toNatClampNeg u42.1) (((6 : Int32) * x15) + (3 : Int32)).toNatClampNeg u46.1) (((6 : Int32) * x15) + (4 : Int32)).toNatClampNeg u50.1) _ _ _ hP hD hS hs h35 h36 ls (lv_sub hl [5] rfl) hF
          · replace hF := (if_pos c54).symm.trans hF
            refine lv_iconst (v := (1 : Int32)) hx hb dX9_readText_213 (by decide) ?_
            refine lv_goto (tgt := 218) hx hb dX9_readText_214 (by decide) ?_
            exact hJ218 (((6 : Int32) * x15) + (5 : Int32)) (1 : Int32) u50.2.2 u50.2.1 x15 (upd (upd (upd (upd (upd x16 ((6 : Int32) * x15).toNatClampNeg u33.1) (((6 : Int32) * x15) + (1 : Int32)).toNatClampNeg u36.1) (((6 : Int32) * x15) + (2 : Int32)).toNatClampNeg u42.1) (((6 : Int32) * x15) + (3 : Int32)).toNatClampNeg u46.1) (((6 : Int32) * x15) + (4 : Int32)).toNatClampNeg u50.1) _ _ _ hP hD hS hs h35 h36 ls (lv_sub hl [5] rfl) hF
      unfold FX9_readText_S16 at hF
      refine lv_aload_n hx hb dX9_readText_16 rfl (lv_at hl 0 rfl) ?_
      refine gf_X9_75 hx hb hts hown hK hP h35 dX9_readText_17 ?_
      refine lv_bipush (v := (-9 : Int32)) hx hb dX9_readText_20 (by decide) ?_
      refine lv_icmp_ne (tgt := 243) hx hb dX9_readText_22 (by decide) (fun c8 => ?_) (fun c8 => ?_)
      · replace hF := (if_neg c8).symm.trans hF
        obtain rfl := Option.some.inj hF
        obtain rfl := hw
        exact hE _ rfl _ _ _ hP hD hS hs h35 h36 ls (lv_sub hl [0] rfl)
      · replace hF := (if_pos c8).symm.trans hF
        refine lv_aload_n hx hb dX9_readText_25 rfl (lv_at hl 0 rfl) ?_
        refine gf_X9_78 hx hb hts hown hK hP h35 dX9_readText_26 ?_
        refine lv_aload_n hx hb dX9_readText_29 rfl (lv_at hl 0 rfl) ?_
        refine gf_X9_70 hx hb hts hown hK hP h35 dX9_readText_30 ?_
        refine lv_icmp_ge (tgt := 243) hx hb dX9_readText_33 (by decide) (fun c9 => ?_) (fun c9 => ?_)
        · replace hF := (if_pos c9).symm.trans hF
          obtain rfl := Option.some.inj hF
          obtain rfl := hw
          exact hE _ rfl _ _ _ hP hD hS hs h35 h36 ls (lv_sub hl [0] rfl)
        · replace hF := (if_neg c9).symm.trans hF
          refine lv_aload_n hx hb dX9_readText_36 rfl (lv_at hl 0 rfl) ?_
          refine gf_X9_22 hx hb hts hown hK hP h35 dX9_readText_37 ?_
          refine lv_aload_n hx hb dX9_readText_40 rfl (lv_at hl 0 rfl) ?_
          refine gf_X9_78 hx hb hts hown hK hP h35 dX9_readText_41 ?_
          obtain ⟨hg10, hF⟩ := gd_some hF
          refine va_iald hx hb hK hP 40 0 h40 rfl hg10 dX9_readText_44 ?_
          refine lv_istore_n (lv' := [(1, .int (m_text x4.toNatClampNeg)), (0, .ref (a 35))]) hx hb dX9_readText_45 rfl hl (by decide) rfl (fun ls hl => ?_)
          refine lv_iload_n hx hb dX9_readText_46 rfl (lv_at hl 0 rfl) ?_
          refine lv_bipush (v := (80 : Int32)) hx hb dX9_readText_47 (by decide) ?_
          refine lv_icmp_eq (tgt := 58) hx hb dX9_readText_49 (by decide) (fun c11 => ?_) (fun c11 => ?_)
          · replace hF := (if_pos c11).symm.trans hF
            exact hJ58 (m_text x4.toNatClampNeg) x4 x5 x6 x7 _ _ _ hP hD hS hs h35 h36 ls (lv_sub hl [0, 1] rfl) hF
          · replace hF := (if_neg c11).symm.trans hF
            refine lv_iload_n hx hb dX9_readText_52 rfl (lv_at hl 0 rfl) ?_
            refine lv_bipush (v := (70 : Int32)) hx hb dX9_readText_53 (by decide) ?_
            refine lv_icmp_ne (tgt := 232) hx hb dX9_readText_55 (by decide) (fun c64 => ?_) (fun c64 => ?_)
            · replace hF := (if_neg c64).symm.trans hF
              exact hJ232 x4 x5 x6 x7 _ _ _ hP hD hS hs h35 h36 ls (lv_sub hl [1] rfl) hF
            · replace hF := (if_pos c64).symm.trans hF
              exact hJ58 (m_text x4.toNatClampNeg) x4 x5 x6 x7 _ _ _ hP hD hS hs h35 h36 ls (lv_sub hl [0, 1] rfl) hF
  obtain ⟨o65, ho65, hF⟩ := bd_some hF
  refine hL16 fu (0 : Int32) (-9 : Int32) (0 : Int32) m_read o65 ho65 _ _ _ hP hD hS hs h35 h36 ls (lv_sub hl [0] rfl) ?_
  intro _ q_o65 w H locs hP hD hS hs h35 h36 ls hl
  subst q_o65
  have h40 := (hs 40 (by simp only [List.mem_cons, List.not_mem_nil, or_false, not_or]; omega)).trans z40
  refine lv_aload_n hx hb dX9_readText_243 rfl (lv_at hl 0 rfl) ?_
  refine gf_X9_75 hx hb hts hown hK hP h35 dX9_readText_244 ?_
  obtain rfl := Option.some.inj hF
  rw [hQ]
  exact rw_i X hS hP hD hs ⟨h35, h36⟩ dX9_readText_247
def FX9_fault (m_length : Int32) (m_read : Nat → Int32) (m_text : Nat → Int32) : Option (Int32 × Int32 × Int32 × Int32 × (Nat → Int32)) :=
  (FX9_readText m_length m_text m_read).bind fun u1 => some (u1.1, u1.2.1, u1.2.2.1, u1.2.2.2.1, u1.2.2.2.2)
def rm_X9_fault : Room := { frames := 3, cells := 0, slots := 0, locals := 72 }
set_option maxHeartbeats 4000000 in
set_option maxRecDepth 100000 in
theorem c_X9_fault (l : Launch) (D : va_G) (cI cJ cZ : ClassId) (a : Nat → Nat) (ws0 : va_W) (A : Nat → Prop)  (m_readMany : Int32) (m_pupils : Int32) (m_mood : Int32) (m_length : Int32) (m_at : Int32) (m_faultAt : Int32) (m_drawn : Int64) (m_questions : Int32) (m_rights : Int32) (m_wrongs : Int32) (m_tapes : Int32) (m_trials : Int32) (m_read : Nat → Int32) (m_text : Nat → Int32)  (u : Int32 × Int32 × Int32 × Int32 × (Nat → Int32)) (hF : FX9_fault m_length m_read m_text = some u) (z35 : ws0[35]? = some (a 35, .inr (9, [.ref (a 36), .int m_readMany, .ref (a 37), .int m_pupils, .ref (a 38), .ref (a 39), .int m_mood, .ref (a 40), .int m_length, .int m_at, .int m_faultAt, .ref (a 41), .ref (a 42), .long m_drawn, .int m_questions, .int m_rights, .int m_wrongs, .int m_tapes, .ref (a 43), .ref (a 44), .int m_trials, .ref (a 45), .ref (a 46), .ref (a 47), .ref (a 48), .ref (a 49), .ref (a 50), .ref (a 51)]))) (z36 : ws0[36]? = some (a 36, .inl (cI, 72, .inl m_read))) (z40 : ws0[40]? = some (a 40, .inl (cI, 72, .inl m_text))) (hD : va_D A ws0) : Met l yX9_fault (wq yX9_fault cX9_fault 1 (some .int)) rm_X9_fault (Pq [.ref (a 35)] D cI cJ cZ ws0) (Qw D A ws0 [35, 36] (some (.int u.1)) (fun w => w[35]? = some (a 35, .inr (9, [.ref (a 36), .int u.2.2.2.1, .ref (a 37), .int m_pupils, .ref (a 38), .ref (a 39), .int m_mood, .ref (a 40), .int m_length, .int u.2.1, .int u.2.2.1, .ref (a 41), .ref (a 42), .long m_drawn, .int m_questions, .int m_rights, .int m_wrongs, .int m_tapes, .ref (a 43), .ref (a 44), .int m_trials, .ref (a 45), .ref (a 46), .ref (a 47), .ref (a 48), .ref (a 49), .ref (a 50), .ref (a 51)])) ∧ w[36]? = some (a 36, .inl (cI, 72, .inl u.2.2.2.2)))) 0 0 A := by
  refine mq_of (by decide) (Nat.le_of_ble_eq_true rfl) (fun p e s m args below meth c ls Q hQ X _ hP hl => ?_)
  obtain ⟨hx, hb, hr, hml, hown, hts, hlk, hK, hN⟩ := id X
  have hown : s.vm.findClass RX9 = some m.cls := hown
  have hl : lv_has ls 1 [(0, .ref (a 35))] := hl
  have hS : va_S A s.heap s.heap [] := va_S.rf
  have hs : ∀ j : Nat, j ∉ [35, 36] → ws0[j]? = ws0[j]? := fun _ _ => rfl
  have h35 := z35
  have h36 := z36
  have h40 := z40
  unfold FX9_fault at hF
  refine lv_aload_n hx hb dX9_fault_0 rfl (lv_at hl 0 rfl) ?_
  obtain ⟨u1, hu1, hF⟩ := bd_some hF
  refine wr_i (runV (As := []) (rest := []) X cq_X9_readText lk_X9_93 (c_X9_readText l D cI cJ cZ a ws0 A m_readMany m_pupils m_mood m_length m_at m_faultAt m_drawn m_questions m_rights m_wrongs m_tapes m_trials m_text m_read u1 hu1 h35 h36 h40 hD) rfl rfl ⟨Nat.le_of_ble_eq_true rfl, Nat.le_of_ble_eq_true rfl⟩ hP h35 rfl rfl hl.1 rfl (Nat.le_of_ble_eq_true rfl) dX9_fault_1 ⟨Nat.le_of_ble_eq_true rfl, Nat.le_of_ble_eq_true rfl⟩) hS (fun w2 H locs hP hD hk hB hS => ?_)
  obtain ⟨hB0, hB1⟩ := hB
  have h35 : w2[35]? = some (a 35, .inr (9, [.ref (a 36), .int u1.2.2.2.1, .ref (a 37), .int m_pupils, .ref (a 38), .ref (a 39), .int m_mood, .ref (a 40), .int m_length, .int u1.2.1, .int u1.2.2.1, .ref (a 41), .ref (a 42), .long m_drawn, .int m_questions, .int m_rights, .int m_wrongs, .int m_tapes, .ref (a 43), .ref (a 44), .int m_trials, .ref (a 45), .ref (a 46), .ref (a 47), .ref (a 48), .ref (a 49), .ref (a 50), .ref (a 51)])) := hB0
  have h36 : w2[36]? = some (a 36, .inl (cI, 72, .inl u1.2.2.2.2)) := hB1
  have h40 := (hk 40 (by simp only [List.mem_cons, List.not_mem_nil, or_false, not_or]; omega)).trans h40
  replace hs := st_tr hk (fun j hj => by simp only [List.mem_cons, List.not_mem_nil, or_false] at hj ⊢; omega) hs
  obtain rfl := Option.some.inj hF
  rw [hQ]
  exact rw_i X hS hP hD hs ⟨h35, h36⟩ dX9_fault_4
