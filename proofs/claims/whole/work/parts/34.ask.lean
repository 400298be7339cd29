/-! ask -/
theorem popN_mono (x : Nat) {m : Nat} : ∀ d, popN x m ≤ popN x (m + d)
  | 0 => Nat.le_refl _
  | d + 1 => by
    have h := popN_mono x (m := m) d
    have e : popN x (m + (d + 1)) = popN x (m + d) + x / 2 ^ (m + d) % 2 := rfl
    omega
theorem pop_mono {x m n : Nat} (h : m ≤ n) : popN x m ≤ popN x n := by
  have h2 := popN_mono x (m := m) (n - m)
  rw [show m + (n - m) = n by omega] at h2
  exact h2
/-- the one with so many before it -/
theorem nth {x L : Nat} : ∀ n, L < popN x n → ∃ p, p < n ∧ x.testBit p = true ∧ popN x p = L
  | 0, h => by
    have e : popN x 0 = 0 := rfl
    omega
  | n + 1, h => by
    by_cases c : L < popN x n
    · obtain ⟨p, h1, h2, h3⟩ := nth n c
      exact ⟨p, by omega, h2, h3⟩
    · have e : popN x (n + 1) = popN x n + x / 2 ^ n % 2 := rfl
      have hb := bit_t x n
      by_cases c2 : x.testBit n = true
      · rw [if_pos c2] at hb
        exact ⟨n, by omega, c2, by omega⟩
      · rw [if_neg c2] at hb
        omega
theorem pop_t {x p : Nat} (h : x.testBit p = true) : popN x (p + 1) = popN x p + 1 := by
  have hb := bit_t x p
  rw [if_pos h] at hb
  have e : popN x (p + 1) = popN x p + x / 2 ^ p % 2 := rfl
  omega
theorem pop_f {x p : Nat} (h : ¬ x.testBit p = true) : popN x (p + 1) = popN x p := by
  have hb := bit_t x p
  rw [if_neg h] at hb
  have e : popN x (p + 1) = popN x p + x / 2 ^ p % 2 := rfl
  omega
theorem pop_z {x : Nat} : ∀ n, x < 2 ^ n → popN x n = 0 → x = 0
  | 0, h, _ => by omega
  | n + 1, h, h0 => by
    have e : popN x (n + 1) = popN x n + x / 2 ^ n % 2 := rfl
    have h2 : 2 ^ (n + 1) = 2 ^ n * 2 := Nat.pow_succ ..
    have hd : x / 2 ^ n < 2 := by
      rw [Nat.div_lt_iff_lt_mul (Nat.pow_pos (by decide))]
      omega
    have hz : x / 2 ^ n = 0 := by
      have h0' : popN x n + x / 2 ^ n % 2 = 0 := by rw [← e]; exact h0
      generalize x / 2 ^ n = y at hd h0' ⊢
      omega
    have hx : x < 2 ^ n := by
      rcases Nat.lt_or_ge x (2 ^ n) with h | h
      · exact h
      · have := Nat.div_pos h (Nat.pow_pos (n := n) (show 0 < 2 by decide))
        omega
    exact pop_z n hx (by omega)
theorem pop_cut2 {x P : Nat} (hP : P ≤ 12) (hx : x < 2 ^ P) : popN x 12 = popN x P := by
  rw [pop_cut hx hP, popN_tb]
/-- member -/
theorem mem8 {P x L p : Nat} (hP : P ≤ 12) (hx : x < 4096) (hp : p < P) (hb : x.testBit p = true) (hL : popN x p = L) : FX3_member (nI P) (nI x) (nI L) = some (nI p) := by
  have hLle := popN_le x p
  have hl : itr (fun v => FX3_member_S5 (nI P) (nI x) (nI L) v.1 v.2) fu ((0 : Int32), (0 : Int32)) = some (.inr (nI p)) := by
    refine itr_P (P := p) (g := fun j => nI (popN x j)) (by omega) 0 rfl (fun j hj => ?_) ?_
    · show FX3_member_S5 (nI P) (nI x) (nI L) (nI (popN x j)) (nI j) = _
      have pj := popN_le x j
      have cc : (nI (popN x j) = nI L) ↔ popN x j = L := nI_eq (by omega) (by omega)
      unfold FX3_member_S5
      rw [if_neg (nI_ge (by omega) (by omega)), isIn_n (by omega) (by omega), nI_1, nI_1]
      by_cases c : x.testBit j = true
      · have h1 := pop_t c
        have h2 := pop_mono (x := x) (show j + 1 ≤ p by omega)
        rw [if_pos c, if_neg (fun y => absurd (cc.mp y) (by omega)), h1]
      · rw [if_neg c, pop_f c]
    · show FX3_member_S5 (nI P) (nI x) (nI L) (nI (popN x p)) (nI p) = _
      unfold FX3_member_S5
      rw [if_neg (nI_ge (by omega) (by omega)), isIn_n (by omega) (by omega), if_pos hb, hL, if_pos rfl]
  unfold FX3_member
  rw [hl]
  rfl
theorem mem8z {P : Nat} (hP : P ≤ 12) : FX3_member (nI P) (nI 0) (0 : Int32) = some (-9 : Int32) := by
  have hl : itr (fun v => FX3_member_S5 (nI P) (nI 0) (0 : Int32) v.1 v.2) fu ((0 : Int32), (0 : Int32)) = some (.inl ()) := by
    refine itr_P (P := P) (g := fun _ => (0 : Int32)) (by omega) 0 rfl (fun j hj => ?_) ?_
    · show FX3_member_S5 (nI P) (nI 0) (0 : Int32) (0 : Int32) (nI j) = _
      unfold FX3_member_S5
      rw [if_neg (nI_ge hj (by omega)), isIn_n (by omega) (by omega), nI_1, if_neg (by rw [Nat.zero_testBit]; decide)]
    · show FX3_member_S5 (nI P) (nI 0) (0 : Int32) (0 : Int32) (nI P) = _
      unfold FX3_member_S5
      rw [if_pos (nI_le (Nat.le_refl P) (by omega))]
  unfold FX3_member
  rw [hl]
  rfl
theorem draw9 {x L p : Nat} (hx : x < 4096) (hp : p < 12) (hb : x.testBit p = true) (hL : popN x p = L) : itr (fun v => FX9_drawOf_S40 (nI x) v.1 v.2) fu (nI L, (0 : Int32)) = some (nI p) := by
  refine itr_P (P := p) (g := fun j => nI (L - popN x j)) (by omega) _ rfl (fun j hj => ?_) ?_
  · show FX9_drawOf_S40 (nI x) (nI (L - popN x j)) (nI j) = _
    have pj := popN_le x j
    have pL := popN_le x p
    have h2 := pop_mono (x := x) (show j + 1 ≤ p by omega)
    have c0 : (nI (L - popN x j) ≤ 0) ↔ L - popN x j ≤ 0 := nI_leI (b := 0) (by omega) (by decide)
    unfold FX9_drawOf_S40 FX9_drawOf_J52L40
    rw [bit_n (by omega) (by omega), nI_1, bit_t]
    by_cases c : x.testBit j = true
    · have h1 := pop_t c
      rw [if_pos c, if_neg (show ¬ nI 1 = (0 : Int32) by decide), if_neg (fun y => absurd (c0.mp y) (by omega)), pk_sub (by omega), h1, Nat.sub_sub]
    · rw [if_neg c, if_pos (show nI 0 = (0 : Int32) from rfl), pk_sub (Nat.zero_le _), pop_f c, Nat.sub_zero]
  · show FX9_drawOf_S40 (nI x) (nI (L - popN x p)) (nI p) = _
    unfold FX9_drawOf_S40
    rw [bit_n (by omega) (by omega), bit_t, if_pos hb, if_neg (show ¬ nI 1 = (0 : Int32) by decide), hL, Nat.sub_self, if_pos (by decide)]
theorem gup_n (y : Int64) : ∃ X, X < 2147483648 ∧ gup y = lN X := by
  obtain ⟨n, hn, rfl⟩ := wb_of y
  refine ⟨n / 2 ^ 33, ?_, ?_⟩
  · rw [Nat.div_lt_iff_lt_mul (by decide)]
    exact hn
  · unfold gup
    exact wb_shr (k := 33) hn (by decide)
theorem draw_n (sd : Int64) {P x : Nat} (hP : P ≤ 12) (hx : x < 2 ^ P) : ∃ y s2, FX3_choose_J30 (nI P) (nI x) sd = some (y, s2) ∧ FX9_drawOf sd (nI x) = some (y, s2) ∧ (y = -9 ∨ ∃ p, p < P ∧ y = nI p) := by
  have h12 := pow12 hP
  have hpl := popN_le x 12
  unfold FX3_choose_J30 FX9_drawOf nmb
  rw [bitCount_n (by omega)]
  by_cases c : x = 0
  · subst c
    have e0 : popN 0 12 = 0 := by decide
    refine ⟨-9, sd, ?_, ?_, Or.inl rfl⟩
    · rw [e0]
      unfold gdraw
      rw [if_neg (show ¬ (1 : Int32) ≤ nI 0 by decide)]
      dsimp only
      rw [mem8z hP]
      rfl
    · rw [if_pos (show nI 0 = (0 : Int32) from rfl)]
  · have cx : ¬ nI x = (0 : Int32) := fun y => c ((nI_eq (b := 0) (by omega) (by decide)).mp y)
    have h1 : 1 ≤ popN x 12 := by
      rcases Nat.eq_zero_or_pos (popN x 12) with h | h
      · rw [pop_cut2 hP hx] at h
        exact absurd (pop_z P hx h) c
      · exact h
    obtain ⟨X, hX, hg⟩ := gup_n (gstep sd)
    have hmod : X % popN x 12 < popN x 12 := Nat.mod_lt _ h1
    obtain ⟨p, hp, hb, hL⟩ := nth (x := x) (L := X % popN x 12) P (by rw [← pop_cut2 hP hx]; exact hmod)
    have hne : ¬ (nI (popN x 12)).toInt64 = 0 := by
      rw [nI_l (by omega)]
      exact fun y => absurd ((pk_lEQ (b := 0) (by omega) (by decide)).mp y) (by omega)
    have hd : (gup (gstep sd) - gup (gstep sd) / (nI (popN x 12)).toInt64 * (nI (popN x 12)).toInt64).toInt32 = nI (X % popN x 12) := by
      rw [hg, nI_l (by omega), pk_lRem (by omega) h1 (by omega), lN_i]
    refine ⟨nI p, gstep sd, ?_, ?_, Or.inr ⟨p, hp, rfl⟩⟩
    · unfold gdraw
      rw [if_pos (lL 1 h1 (by omega)), hd]
      dsimp only
      rw [mem8 hP (by omega) hp hb hL]
      rfl
    · rw [if_neg cx, ones_n (by omega), Option.bind_some, if_neg hne]
      show (itr (fun v => FX9_drawOf_S40 (nI x) v.1 v.2) fu ((gup (gstep sd) - gup (gstep sd) / (nI (popN x 12)).toInt64 * (nI (popN x 12)).toInt64).toInt32, (0 : Int32))).bind (fun o12 => some (o12, gstep sd)) = _
      rw [hd, draw9 (by omega) (by omega) hb hL]
      rfl
section FO
variable {N P mo : Nat} {r c k q d f da ti : Nat → Nat} {lt rws cls tn nd td ld lti md mti mp : Nat → Int32} {pu mpu mood mmood : Int32}
/-- the foremost of a set -/
def foN (x : Nat) (rk : Nat → Nat) : Nat → Option Nat
  | 0 => none
  | n + 1 => if x.testBit n = true then (match foN x rk n with
    | none => some n
    | some b => if rk n < rk b then some n else some b) else foN x rk n
def foI : Option Nat → Int32
  | none => -9
  | some p => nI p
theorem foN_lt (x : Nat) (rk : Nat → Nat) : ∀ n b, foN x rk n = some b → b < n
  | 0, b, h => by cases h
  | n + 1, b, h => by
    simp only [foN] at h
    by_cases c : x.testBit n = true
    · rw [if_pos c] at h
      cases hh : foN x rk n with
      | none =>
        rw [hh] at h
        simp only [Option.some.injEq] at h
        omega
      | some e =>
        rw [hh] at h
        have he := foN_lt x rk n e hh
        simp only at h
        by_cases c2 : rk n < rk e
        · rw [if_pos c2] at h
          simp only [Option.some.injEq] at h
          omega
        · rw [if_neg c2] at h
          simp only [Option.some.injEq] at h
          omega
    · rw [if_neg c] at h
      have := foN_lt x rk n b h
      omega
theorem fore_n (hR : RRos P r c k q d f lt rws cls tn nd td pu mpu mp) (hL : RLe N P da ti ld lti md mti) (hN : N < 4000) {x R : Nat} (hx : x < 4096) (hr : R = 0 ∨ R = 1 ∨ R = 4) : FX3_foremost pu rws cls nd lti (nI x) (nI R) = some (foI (foN x (rkN R r c q ti) P)) ∧ FX9_takes mpu mp mti (nI x) (nI R) = some (foI (foN x (rkN R r c q ti) P)) := by
  have hP := hR.1
  have hpu := hR.2.1
  have hmpu := hR.2.2.1
  have key : ∀ j, j < P → FX3_foremost_S6 pu rws cls nd lti (nI x) (nI R) (foI (foN x (rkN R r c q ti) j)) (nI j) = some (.inl (foI (foN x (rkN R r c q ti) (j + 1)), nI (j + 1))) ∧ FX9_takes_S6 mpu mp mti (nI x) (nI R) (foI (foN x (rkN R r c q ti) j)) (nI j) = some (.inl (foI (foN x (rkN R r c q ti) (j + 1)), nI (j + 1))) := fun j hj => by
    unfold FX3_foremost_S6 FX3_foremost_J46L6 FX9_takes_S6 FX9_takes_J47L6 FX9_takes_J42L6
    have e1 : nI 1 = (1 : Int32) := rfl
    have e0 : ¬ nI 0 = (1 : Int32) := by decide
    rw [hpu, hmpu, if_neg (nI_ge hj (by omega)), if_neg (nI_ge hj (by omega)), isIn_n (by omega) (by omega), bit_n (by omega) (by omega), bit_t, nI_1]
    simp only [foN]
    by_cases cb : x.testBit j = true
    · rw [if_pos cb, if_pos cb, if_pos cb, if_pos e1]
      cases hh : foN x (rkN R r c q ti) j with
      | none =>
        have e : foI none = (-9 : Int32) := rfl
        rw [e, if_pos rfl, if_pos rfl]
        exact ⟨rfl, rfl⟩
      | some b =>
        have hb := foN_lt _ _ _ _ hh
        have e : foI (some b) = nI b := rfl
        have hne : ¬ nI b = (-9 : Int32) := fun y => by
          have h2 := nI_toInt (n := b) (by omega)
          rw [y] at h2
          have h3 : (-9 : Int32).toInt = -9 := by decide
          omega
        have k1 := rb_lt hR hL hN (show b < P by omega) R
        have k2 := rb_lt hR hL hN hj R
        have ek1 : rkN R r c q ti b = rb R r c q ti b * 12 + b := rfl
        have ek2 : rkN R r c q ti j = rb R r c q ti j * 12 + j := rfl
        have cr : (nI (rkN R r c q ti b) ≤ nI (rkN R r c q ti j)) ↔ rkN R r c q ti b ≤ rkN R r c q ti j := nI_leI (by omega) (by omega)
        rw [e, if_neg hne, if_neg hne, rank_n hR hL (show b < P by omega) (by omega), rank_n hR hL hj (by omega), ahead_n hR hL hN hj (show b < P by omega) hr, Option.bind_some]
        dsimp only
        by_cases c2 : rkN R r c q ti j < rkN R r c q ti b
        · rw [if_neg (fun y => absurd (cr.mp y) (by omega)), if_pos (decide_eq_true c2), if_pos c2]
          exact ⟨rfl, rfl⟩
        · rw [if_pos (cr.mpr (by omega)), if_neg (show ¬ decide (rkN R r c q ti j < rkN R r c q ti b) = true by rw [decide_eq_false c2]; decide), if_neg c2]
          exact ⟨rfl, rfl⟩
    · rw [if_neg cb, if_neg cb, if_neg cb, if_neg e0]
      exact ⟨rfl, rfl⟩
  refine ⟨?_, ?_⟩
  · have hl : itr (fun v => FX3_foremost_S6 pu rws cls nd lti (nI x) (nI R) v.1 v.2) fu ((-9 : Int32), (0 : Int32)) = some (foI (foN x (rkN R r c q ti) P)) := by
      refine itr_P (P := P) (g := fun j => foI (foN x (rkN R r c q ti) j)) (by omega) _ rfl (fun j hj => (key j hj).1) ?_
      show FX3_foremost_S6 pu rws cls nd lti (nI x) (nI R) _ (nI P) = _
      unfold FX3_foremost_S6
      rw [hpu, if_pos (nI_le (Nat.le_refl P) (by omega))]
    unfold FX3_foremost
    rw [hl]
    rfl
  · have hl : itr (fun v => FX9_takes_S6 mpu mp mti (nI x) (nI R) v.1 v.2) fu ((-9 : Int32), (0 : Int32)) = some (foI (foN x (rkN R r c q ti) P)) := by
      refine itr_P (P := P) (g := fun j => foI (foN x (rkN R r c q ti) j)) (by omega) _ rfl (fun j hj => (key j hj).2) ?_
      show FX9_takes_S6 mpu mp mti (nI x) (nI R) _ (nI P) = _
      unfold FX9_takes_S6
      rw [hmpu, if_pos (nI_le (Nat.le_refl P) (by omega))]
    unfold FX9_takes
    rw [hl]
    rfl
theorem foI_r {o : Option Nat} {n : Nat} (h : ∀ b, o = some b → b < n) : foI o = -9 ∨ ∃ p, p < n ∧ foI o = nI p := by
  cases o with
  | none => exact Or.inl rfl
  | some b => exact Or.inr ⟨b, h b rfl, rfl⟩
/-- whom she takes, on both sides -/
theorem pick_n (hR : RRos P r c k q d f lt rws cls tn nd td pu mpu mp) (hL : RLe N P da ti ld lti md mti) (hM : RMo mo mood mmood) (hN : N < 4000) (sd : Int64) {x w R : Nat} (hx : x < 2 ^ P) (hw : w ≤ 9) (hr : R ≤ 4) : ∃ y s2, FX3_choose pu mood lt nd sd ld rws cls lti (nI x) (nI w) (nI R) = some (y, s2) ∧ (∀ p1 p2 p4 mq mr mwr, ((FX9_raisedOf mpu mmood mp md (nI x) (nI w)).bind fun x4 => if nI R = (2 : Int32) then ((FX9_drawOf sd x4).bind fun u90 => FX9_ask_J76 mp p1 p2 p4 u90.1 mq mti md mr mwr u90.2) else (if nI R = (3 : Int32) then ((FX9_drawOf sd (((1 : Int32) <<< (mpu &&& 31)) - (1 : Int32))).bind fun u88 => FX9_ask_J76 mp p1 p2 p4 u88.1 mq mti md mr mwr u88.2) else ((FX9_takes mpu mp mti x4 (nI R)).bind fun x7 => FX9_ask_J76 mp p1 p2 p4 x7 mq mti md mr mwr sd))) = FX9_ask_J76 mp p1 p2 p4 y mq mti md mr mwr s2) ∧ (y = -9 ∨ ∃ p, p < P ∧ y = nI p) := by
  have hP := hR.1
  have hpu := hR.2.1
  have hmpu := hR.2.2.1
  have h12 := pow12 hP
  have hset := bN_lt (whoN mo da f q x w) P
  have c2 : (nI R = (2 : Int32)) ↔ R = 2 := nI_eq (b := 2) (by omega) (by decide)
  have c3 : (nI R = (3 : Int32)) ↔ R = 3 := nI_eq (b := 3) (by omega) (by decide)
  have m1 := ro_bits hR hL hM (x := x) (w := w) (by omega) hw
  have m2 := mo_bits hR hL hM (x := x) (w := w) (by omega) hw
  by_cases h3 : R = 3
  · have h2 : ¬ R = 2 := by omega
    obtain ⟨y, s2, k1, k2, k3⟩ := draw_n sd hP (x := 2 ^ P - 1) (by have := Nat.one_le_two_pow (n := P); omega)
    refine ⟨y, s2, ?_, fun p1 p2 p4 mq mr mwr => ?_, k3⟩
    · unfold FX3_choose FX3_choose_J18 FX3_everyone
      rw [if_pos (c3.mpr h3), if_neg (fun z => h2 (c2.mp z)), if_pos (c3.mpr h3), hpu, every_n hP, k1]
    · rw [m2, Option.bind_some, if_neg (fun z => h2 (c2.mp z)), if_pos (c3.mpr h3), hmpu, every_n hP, k2, Option.bind_some]
  · by_cases h2 : R = 2
    · obtain ⟨y, s2, k1, k2, k3⟩ := draw_n sd hP hset
      refine ⟨y, s2, ?_, fun p1 p2 p4 mq mr mwr => ?_, k3⟩
      · unfold FX3_choose FX3_choose_J18
        rw [if_neg (fun z => h3 (c3.mp z)), m1, Option.bind_some, if_pos (c2.mpr h2), hpu, k1]
      · rw [m2, Option.bind_some, if_pos (c2.mpr h2), k2, Option.bind_some]
    · obtain ⟨k1, k2⟩ := fore_n hR hL hN (x := bN (whoN mo da f q x w) P) (R := R) (by omega) (by omega)
      refine ⟨foI (foN (bN (whoN mo da f q x w) P) (rkN R r c q ti) P), sd, ?_, fun p1 p2 p4 mq mr mwr => ?_, foI_r (fun b hb => foN_lt _ _ _ _ hb)⟩
      · unfold FX3_choose FX3_choose_J18
        rw [if_neg (fun z => h3 (c3.mp z)), m1, Option.bind_some, if_neg (fun z => h2 (c2.mp z)), if_neg (fun z => h3 (c3.mp z)), k1]
        rfl
      · rw [m2, Option.bind_some, if_neg (fun z => h2 (c2.mp z)), if_neg (fun z => h3 (c3.mp z)), k2, Option.bind_some]
/-- what an answer does -/
def nwD (b : Bool) (p4 : Int32) (x : Nat) : Nat := if b = true then (if x + 1 < 9 then x + 1 else 9) else (if p4 = 0 then x - 2 else x - 4)
theorem up_n : ∀ x, x ≤ 9 → (if nI x + (1 : Int32) < (9 : Int32) then nI x + (1 : Int32) else (9 : Int32)) = nI (if x + 1 < 9 then x + 1 else 9) ∧ (if 0 ≤ nI x + (1 : Int32) then (if nI x + (1 : Int32) ≤ (9 : Int32) then nI x + (1 : Int32) else (9 : Int32)) else (0 : Int32)) = nI (if x + 1 < 9 then x + 1 else 9) := by decide +kernel
theorem dn2_n : ∀ x, x ≤ 9 → (if (0 : Int32) < nI x - (2 : Int32) then nI x - (2 : Int32) else (0 : Int32)) = nI (x - 2) ∧ (if 0 ≤ nI x + (-2 : Int32) then (if nI x + (-2 : Int32) ≤ (9 : Int32) then nI x + (-2 : Int32) else (9 : Int32)) else (0 : Int32)) = nI (x - 2) := by decide +kernel
theorem dn4_n : ∀ x, x ≤ 9 → (if (0 : Int32) < nI x - (4 : Int32) then nI x - (4 : Int32) else (0 : Int32)) = nI (x - 4) ∧ (if 0 ≤ nI x + (-4 : Int32) then (if nI x + (-4 : Int32) ≤ (9 : Int32) then nI x + (-4 : Int32) else (9 : Int32)) else (0 : Int32)) = nI (x - 4) := by decide +kernel
theorem ans8 {q0 r0 w0 p4 : Int32} {lti ld : Nat → Int32} {p x t : Nat} (hp : p < 12) (hd : ld p = nI x) (hx : x ≤ 9) (ht : lti p = nI t) (b : Bool) : FX2_answer q0 r0 w0 lti ld (nI p) (bi b) p4 = (q0 + 1, upd lti p (nI (t + 1)), (if b = true then w0 else w0 + 1), upd ld p (nI (nwD b p4 x)), (if b = true then r0 + 1 else r0)) := by
  have hne : ¬ nI p = (-9 : Int32) := fun y => by
    have h2 := nI_toInt (n := p) (by omega)
    rw [y] at h2
    have h3 : (-9 : Int32).toInt = -9 := by decide
    omega
  unfold FX2_answer FX2_answer_J108 nmb nwD
  rw [if_neg hne, gat_n hp (by decide), gat_n hp (by decide), hd, ht, gput_n hp (by decide), nI_1 t]
  cases b with
  | true =>
    rw [(up_n x hx).1]
    dsimp only
    rw [if_neg (show ¬ bi true = 0 by decide)]
    simp only [gput_n hp (show 12 < 2147483648 by decide)]
    rfl
  | false =>
    rw [(dn2_n x hx).1, (dn4_n x hx).1]
    dsimp only
    rw [if_pos (show bi false = 0 from rfl)]
    simp only [gput_n hp (show 12 < 2147483648 by decide)]
    by_cases c : p4 = 0
    · rw [if_pos c, if_neg (by decide), if_pos c]
      rfl
    · rw [if_neg c, if_neg (by decide), if_neg c]
      rfl
theorem ans8z {q0 r0 w0 p2 p4 : Int32} {lti ld : Nat → Int32} : FX2_answer q0 r0 w0 lti ld (-9 : Int32) p2 p4 = (q0 + 1, lti, w0, ld, r0) := by
  unfold FX2_answer
  rw [if_pos rfl]
theorem ans9 {mq mr mw p4 : Int32} {sd : Int64} {mti md mp : Nat → Int32} {p x t y w qq : Nat} (hp : p < 12) (hd : md p = nI x) (hx : x ≤ 9) (ht : mti p = nI t) (hy : y < 2147483648) (hw : w ≤ 9) (hq : mp (6 * p + 3) = nI qq) (hqq : qq < 10) : FX9_ask_J76 mp (nI y) (nI w) p4 (nI p) mq mti md mr mw sd = some (nI p, mq + 1, upd mti p (nI (t + 1)), upd md p (nI (nwD (y.testBit p && decide (qq ≤ w)) p4 x)), (if (y.testBit p && decide (qq ≤ w)) = true then mr + 1 else mr), (if (y.testBit p && decide (qq ≤ w)) = true then mw else mw + 1), sd) := by
  have hne : ¬ nI p = (-9 : Int32) := fun y => by
    have h2 := nI_toInt (n := p) (by omega)
    rw [y] at h2
    have h3 : (-9 : Int32).toInt = -9 := by decide
    omega
  have gi : ¬ (nI p < 0 ∨ 12 ≤ p) := gd2 hp (by decide)
  have g3 : ¬ (nI (6 * p + 3) < 0 ∨ 72 ≤ 6 * p + 3) := gd2 (by omega) (by decide)
  have e3 : (6 : Int32) * nI p + (3 : Int32) = nI (6 * p + 3) := x6 p 3
  have cq : (nI w < nI qq) ↔ w < qq := nI_ltI (by omega) (by omega)
  have z1 : ¬ (1 : Int32) = 0 := by decide
  have z0 : (0 : Int32) = 0 := rfl
  have mr0 : mr + (0 : Int32) = mr := Int32.add_zero mr
  have mw0 : mw + (0 : Int32) = mw := Int32.add_zero mw
  have n1 : nI 1 = (1 : Int32) := rfl
  have n0 : ¬ nI 0 = (1 : Int32) := by decide
  have hno : FX9_ask_J139 p4 (nI p) (mq + (1 : Int32)) (upd mti p (nI (t + 1))) md mr mw sd = some (nI p, mq + 1, upd mti p (nI (t + 1)), upd md p (nI (nwD false p4 x)), mr, mw + 1, sd) := by
    unfold FX9_ask_J139 FX9_ask_J140 FX9_ask_J170 FX9_ask_J202 FX9_ask_J218 FX9_ask_J237 nwD
    rw [nI_clamp (n := p) (by omega), if_neg gi, hd, if_pos z0, if_neg (show ¬ false = true by decide)]
    simp only [if_neg gi, if_true, mr0]
    by_cases c : p4 = 0
    · have e := (dn2_n x hx).2
      rw [if_pos c, if_pos c, ← e]
      by_cases k1 : 0 ≤ nI x + (-2 : Int32)
      · by_cases k2 : nI x + (-2 : Int32) ≤ (9 : Int32)
        · rw [if_pos k1, if_pos k2, if_pos k1, if_pos k2]
        · rw [if_pos k1, if_neg k2, if_pos k1, if_neg k2]
      · rw [if_neg k1, if_neg k1]
    · have e := (dn4_n x hx).2
      rw [if_neg c, if_neg c, ← e]
      by_cases k1 : 0 ≤ nI x + (-4 : Int32)
      · by_cases k2 : nI x + (-4 : Int32) ≤ (9 : Int32)
        · rw [if_pos k1, if_pos k2, if_pos k1, if_pos k2]
        · rw [if_pos k1, if_neg k2, if_pos k1, if_neg k2]
      · rw [if_neg k1, if_neg k1]
  have hyes : FX9_ask_J140 p4 (nI p) (1 : Int32) (mq + (1 : Int32)) (upd mti p (nI (t + 1))) md mr mw sd = some (nI p, mq + 1, upd mti p (nI (t + 1)), upd md p (nI (nwD true p4 x)), mr + 1, mw, sd) := by
    unfold FX9_ask_J140 FX9_ask_J170 FX9_ask_J202 FX9_ask_J218 FX9_ask_J237 nwD
    rw [nI_clamp (n := p) (by omega), if_neg gi, hd, if_neg z1, if_pos (show true = true from rfl)]
    simp only [if_neg gi, if_neg z1, mw0]
    have e := (up_n x hx).2
    rw [← e]
    by_cases k1 : 0 ≤ nI x + (1 : Int32)
    · by_cases k2 : nI x + (1 : Int32) ≤ (9 : Int32)
      · rw [if_pos k1, if_pos k2, if_pos k1, if_pos k2]
      · rw [if_pos k1, if_neg k2, if_pos k1, if_neg k2]
    · rw [if_neg k1, if_neg k1]
  unfold FX9_ask_J76
  rw [if_neg hne, nI_clamp (n := p) (by omega), if_neg gi, if_neg gi, bit_n hy (by omega), bit_t, e3, nI_clamp (n := 6 * p + 3) (by omega), if_neg g3, hq, ht, nI_1 t, hno, hyes]
  cases y.testBit p with
  | true =>
    by_cases c : qq ≤ w
    · rw [if_pos (show true = true from rfl), if_pos n1, if_neg (fun z => absurd (cq.mp z) (by omega)), decide_eq_true c]
      rfl
    · rw [if_pos (show true = true from rfl), if_pos n1, if_pos (cq.mpr (by omega)), decide_eq_false c]
      rfl
  | false =>
    rw [if_neg (show ¬ false = true by decide), if_neg n0]
    rfl
theorem ans9z {mq mr mw p1 p2 p4 : Int32} {sd : Int64} {mti md mp : Nat → Int32} : FX9_ask_J76 mp p1 p2 p4 (-9 : Int32) mq mti md mr mw sd = some ((-9 : Int32), mq + 1, mti, md, mr, mw, sd) := by
  unfold FX9_ask_J76
  rw [if_pos rfl]
theorem RLe_ask (hL : RLe N P da ti ld lti md mti) {p : Nat} (hp : p < P) (b : Bool) (p4 : Int32) : RLe (N + 1) P (fun j => if j = p then nwD b p4 (da p) else da j) (fun j => if j = p then ti p + 1 else ti j) (upd ld p (nI (nwD b p4 (da p)))) (upd lti p (nI (ti p + 1))) (upd md p (nI (nwD b p4 (da p)))) (upd mti p (nI (ti p + 1))) := fun j hj => by
  by_cases c : j = p
  · subst c
    obtain ⟨h1, h2, -⟩ := hL j hj
    simp only [if_true, upd_s]
    refine ⟨?_, by omega, trivial, trivial, trivial, trivial⟩
    unfold nwD
    cases b with
    | true =>
      rw [if_pos rfl]
      by_cases k : da j + 1 < 9
      · rw [if_pos k]; omega
      · rw [if_neg k]; exact Nat.le_refl _
    | false =>
      rw [if_neg (by decide)]
      by_cases k : p4 = 0
      · rw [if_pos k]; omega
      · rw [if_neg k]; omega
  · obtain ⟨h1, h2, h3, h4, h5, h6⟩ := hL j hj
    simp only [if_neg c]
    exact ⟨h1, by omega, by rw [upd_n c]; exact h3, by rw [upd_n c]; exact h4, by rw [upd_n c]; exact h5, by rw [upd_n c]; exact h6⟩
end FO
