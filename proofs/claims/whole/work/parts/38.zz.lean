/-! again: the slot's rows come back -/
theorem cpN_in {o p : Nat → Int32} {j : Nat} (h : j < 12) : cpN 12 o p j = o j := by
  unfold cpN
  rw [if_pos h]
theorem RLe_cp {N P : Nat} {da ti : Nat → Nat} {a b c d x y z w : Nat → Int32} (hP : P ≤ 12) (h : RLe N P da ti a b c d) : RLe N P da ti (cpN 12 a x) (cpN 12 b y) (cpN 12 c z) (cpN 12 d w) := fun p hp => by
  obtain ⟨h1, h2, h3, h4, h5, h6⟩ := h p hp
  rw [cpN_in (by omega), cpN_in (by omega), cpN_in (by omega), cpN_in (by omega)]
  exact ⟨h1, h2, h3, h4, h5, h6⟩
theorem ag9 {s : Nat} (hs : s < 2) {md : Int64} {mq mr mw : Int32} {mk kd kt da ti : Nat → Int32} {kx : Nat → Int64} {kl : Nat → Int32} (g9 : FX9_in (nI s).toInt64 (0 : Int64) (1 : Int64) = true) (hk : ¬ mk s = 0) : FX9_again md mq mr mw mk kd da kt ti kx kl (nI s) = some (kl (3 * s), cpN 12 (fun j => kd (12 * s + j)) da, cpN 12 (fun j => kt (12 * s + j)) ti, kx s, kl (3 * s), kl (3 * s + 1), kl (3 * s + 2)) := by
  unfold FX9_again
  have e1 : (3 : Int32) * nI s + (1 : Int32) = nI (3 * s + 1) := x3 s 1
  have e2 : (3 : Int32) * nI s + (2 : Int32) = nI (3 * s + 2) := x3 s 2
  have e0 : (3 : Int32) * nI s = nI (3 * s) := nmul 3 s
  rw [if_pos g9, e1, e2, e0, nI_clamp (n := s) (by omega), nI_clamp (n := 3 * s) (by omega), nI_clamp (n := 3 * s + 1) (by omega), nI_clamp (n := 3 * s + 2) (by omega), if_neg (gd2 hs (by decide)), if_neg hk, again9 hs, Option.bind_some, if_neg (gd2 hs (by decide)), if_neg (gd2 (by omega) (by decide)), if_neg (gd2 (by omega) (by decide)), if_neg (gd2 (by omega) (by decide))]
/-! write: the bytes of a long -/
theorem wb_byte {n k : Nat} (hk : k ≤ 56) : (lN n >>> ((nI k).toInt64 &&& 63)) &&& (255 : Int64) = lN (n / 2 ^ k % 256) := by
  rw [wb_c k (by omega)]
  apply wb_inj
  apply BitVec.eq_of_getLsbD_eq
  intro i hi
  have e1 : (lN n >>> lN k).toBitVec = (BitVec.ofNat 64 n).sshiftRight k := by
    rw [Int64.toBitVec_shiftRight, wb_tb, wb_tb, wb_sm k (by omega)]
    show BitVec.sshiftRight _ (BitVec.ofNat 64 k).toNat = _
    rw [BitVec.toNat_ofNat, Nat.mod_eq_of_lt (by omega)]
  have e2 : (255 : Int64).toBitVec = BitVec.ofNat 64 (2 ^ 8 - 1) := by decide
  have e3 : n / 2 ^ k % 256 = n / 2 ^ k % 2 ^ 8 := rfl
  rw [Int64.toBitVec_and, e1, e2, wb_tb, e3, BitVec.getLsbD_and, BitVec.getLsbD_sshiftRight, BitVec.getLsbD_ofNat, BitVec.getLsbD_ofNat, BitVec.getLsbD_ofNat, Nat.testBit_two_pow_sub_one, Nat.testBit_mod_two_pow, Nat.testBit_div_two_pow]
  by_cases c : i < 8
  · have h1 : k + i < 64 := by omega
    have h3 : i + k < 64 := by omega
    have h2 : ¬ 64 ≤ i := by omega
    simp [c, h1, h2, h3, hi, Nat.add_comm]
  · simp [c]
theorem by8 {X r : Nat} (hX : X < 2 ^ 64) (hr : r < 8) : (((((lN X).toUInt64 >>> (((8 : Int32) * nI r).toInt64.toUInt64 &&& Int64.toUInt64 63)).toInt64).toInt32) &&& (255 : Int32)) = nI (X / 2 ^ (8 * r) % 256) := by
  rw [nmul 8 r, wb_shr hX (by omega), lN_i, pk_and (nI (X / 2 ^ (8 * r))) (m := 255) 8 (by decide)]
  have e : (nI (X / 2 ^ (8 * r))).toBitVec.toNat = X / 2 ^ (8 * r) % 2 ^ 32 := by
    show (BitVec.ofNat 32 (X / 2 ^ (8 * r))).toNat = _
    rw [BitVec.toNat_ofNat]
  rw [e]
  congr 1
  generalize X / 2 ^ (8 * r) = Y
  omega
theorem by9 {X r : Nat} (hr : r < 8) : (((lN X >>> (((8 : Int32) * nI r).toInt64 &&& 63)) &&& (255 : Int64)).toInt32) = nI (X / 2 ^ (8 * r) % 256) := by
  rw [nmul 8 r, wb_byte (by omega), lN_i]
def wrB (X n k : Nat) (tb : Nat → Int32) (r : Nat) : Nat → Int32 := fun j => if n ≤ j ∧ j < n + (k - r) then nI (X / 2 ^ (8 * (k - 1 - (j - n))) % 256) else tb j
theorem wrB_s {X n k r : Nat} (hr : r < k) (tb : Nat → Int32) : upd (wrB X n k tb (r + 1)) (n + (k - (r + 1))) (nI (X / 2 ^ (8 * r) % 256)) = wrB X n k tb r := by
  funext j
  unfold upd wrB
  by_cases c : j = n + (k - (r + 1))
  · have e : k - 1 - (j - n) = r := by omega
    rw [if_pos c, if_pos (by omega), e]
  · rw [if_neg c]
    by_cases c2 : n ≤ j ∧ j < n + (k - (r + 1))
    · rw [if_pos c2, if_pos (by omega)]
    · rw [if_neg c2, if_neg (by omega)]
theorem wrB_k (X n k : Nat) (tb : Nat → Int32) : wrB X n k tb k = tb := by
  funext j
  unfold wrB
  rw [if_neg (by omega)]
theorem wr8 {X n k : Nat} (hX : X < 2 ^ 64) (hk : k ≤ 8) (hn : n + k ≤ 72) (tb : Nat → Int32) : itr (fun v => FX6_append_S19 (lN X) v.1 v.2.1 v.2.2) fu (nI k - 1, tb, nI n) = some (wrB X n k tb 0, nI (n + k)) := by
  refine itr_D (P := k) (g := fun r => (wrB X n k tb r, nI (n + (k - r)))) (by omega) _ rfl (tb, nI n) (by rw [wrB_k, Nat.sub_self]; rfl) (fun r hr => ?_) ?_
  · show FX6_append_S19 (lN X) (nI r) (wrB X n k tb (r + 1)) (nI (n + (k - (r + 1)))) = _
    unfold FX6_append_S19 nmb
    have e : n + (k - (r + 1)) + 1 = n + (k - r) := by omega
    rw [if_neg (nI_pos (by omega)), by8 hX (by omega), gput_n (by omega) (by decide), nI_1, e, wrB_s hr]
  · show FX6_append_S19 (lN X) (-1 : Int32) (wrB X n k tb 0) (nI (n + (k - 0))) = _
    unfold FX6_append_S19
    rw [if_pos (by decide)]
    rfl
theorem wr9 {X n k : Nat} (hk : k ≤ 8) (hn : n + k ≤ 72) (tb : Nat → Int32) : itr (fun v => FX9_write_S34 (lN X) v.1 v.2.1 v.2.2) fu (nI k - 1, tb, nI n) = some (wrB X n k tb 0, nI (n + k)) := by
  refine itr_D (P := k) (g := fun r => (wrB X n k tb r, nI (n + (k - r)))) (by omega) _ rfl (tb, nI n) (by rw [wrB_k, Nat.sub_self]; rfl) (fun r hr => ?_) ?_
  · show FX9_write_S34 (lN X) (nI r) (wrB X n k tb (r + 1)) (nI (n + (k - (r + 1)))) = _
    unfold FX9_write_S34
    have e : n + (k - (r + 1)) + 1 = n + (k - r) := by omega
    rw [if_neg (nI_pos (by omega)), by9 (by omega), gdI (by omega) (by decide), nI_clamp (by omega), nI_1, e, wrB_s hr]
  · show FX9_write_S34 (lN X) (-1 : Int32) (wrB X n k tb 0) (nI (n + (k - 0))) = _
    unfold FX9_write_S34
    rw [if_pos (by decide)]
    rfl
/-! spreads: in how many ways a of some are one thing and b of them another -/
def swp (A B : Nat → Int64) (n : Nat) : Nat → Int64 := fun i => if n ≤ i then B i else A i
theorem swp_s (A B : Nat → Int64) (n : Nat) : vp_updL (swp A B (n + 1)) n (B n) = swp A B n := by
  funext i
  unfold vp_updL swp
  by_cases c : i = n
  · subst c
    rw [if_pos rfl, if_pos (Nat.le_refl _)]
  · rw [if_neg c]
    by_cases c2 : n + 1 ≤ i
    · rw [if_pos c2, if_pos (by omega)]
    · rw [if_neg c2, if_neg (by omega)]
theorem swp_a {A B : Nat → Int64} {n i : Nat} (h : i < n) : swp A B n i = A i := by
  unfold swp
  rw [if_neg (by omega)]
theorem swp_0 (A B : Nat → Int64) : swp A B 0 = B := by
  funext i
  unfold swp
  rw [if_pos (Nat.zero_le i)]
def lay (c : Nat → Int64) (W : Nat → Nat → Nat) : Nat → Int64 := fun i => if i < 169 then lN (W (i / 13) (i % 13)) else c i
theorem lay_at {c : Nat → Int64} {W : Nat → Nat → Nat} {a b : Nat} (ha : a < 13) (hb : b < 13) : lay c W (13 * a + b) = lN (W a b) := by
  unfold lay
  rw [if_pos (by omega), show (13 * a + b) / 13 = a by omega, show (13 * a + b) % 13 = b by omega]
theorem lay_i {c : Nat → Int64} {W : Nat → Nat → Nat} {i : Nat} (h : i < 169) : lay c W i = lN (W (i / 13) (i % 13)) := by
  unfold lay
  rw [if_pos h]
theorem lay_top (c : Nat → Int64) (W V : Nat → Nat → Nat) : swp (lay c W) (lay c V) 169 = lay c W := by
  funext i
  unfold swp lay
  by_cases h : 169 ≤ i
  · rw [if_pos h, if_neg (by omega), if_neg (by omega)]
  · rw [if_neg h]
theorem lay_lay (c : Nat → Int64) (W V : Nat → Nat → Nat) : lay (lay c W) V = lay c V := by
  funext i
  unfold lay
  by_cases h : i < 169
  · rw [if_pos h, if_pos h]
  · rw [if_neg h, if_neg h, if_neg h]
def jn (W : Nat → Nat → Nat) (q1 q2 q3 q4 : Nat) (a b : Nat) : Nat :=
  W a b * q4 + (if a = 0 then 0 else W (a - 1) b) * q2 + (if b = 0 then 0 else W a (b - 1)) * q3 + (if a = 0 then 0 else if b = 0 then 0 else W (a - 1) (b - 1)) * q1
theorem gget_n {c : Nat → Int64} {a b : Nat} (ha : a < 13) (hb : b < 13) : gget c (nI a) (nI b) = c (13 * a + b) := by
  have e : nI a * (13 : Int32) + nI b = nI (13 * a + b) := by rw [Int32.mul_comm, nmul 13 a, nI_add]
  unfold gget
  rw [if_neg (nI_pos (by omega)), if_neg (nI_pos (by omega)), if_neg (gl 13 ha (by decide)), if_pos (ltL 13 hb (by decide)), e, nI_clamp (by omega)]
theorem gset_n {c : Nat → Int64} {a b : Nat} {v : Int64} (ha : a < 13) (hb : b < 13) : gset c (nI a) (nI b) v = vp_updL c (13 * a + b) v := by
  have e : nI a * (13 : Int32) + nI b = nI (13 * a + b) := by rw [Int32.mul_comm, nmul 13 a, nI_add]
  unfold gset
  rw [if_neg (nI_pos (by omega)), if_neg (nI_pos (by omega)), if_neg (gl 13 ha (by decide)), if_neg (gl 13 hb (by decide)), e, nI_clamp (by omega)]
theorem gget_a0 {c : Nat → Int64} {y : Int32} : gget c (nI 0 - (1 : Int32)) y = 0 := by
  unfold gget
  rw [if_pos (by decide)]
theorem gget_b0 {c : Nat → Int64} {y : Int32} : gget c y (nI 0 - (1 : Int32)) = 0 := by
  unfold gget
  by_cases h : y < 0
  · rw [if_pos h]
  · rw [if_neg h, if_pos (show nI 0 - (1 : Int32) < 0 by decide)]
section SP
variable {c : Nat → Int64} {W : Nat → Nat → Nat} {B : Nat → Int64} {n a b : Nat}
theorem gs0 (ha : a < 13) (hb : b < 13) (h : 13 * a + b < n) : gget (swp (lay c W) B n) (nI a) (nI b) = lN (W a b) := by
  rw [gget_n ha hb, swp_a h, lay_at ha hb]
theorem gs1 (ha : a < 13) (hb : b < 13) (h : 13 * a + b < n) : gget (swp (lay c W) B n) (nI a - (1 : Int32)) (nI b) = lN (if a = 0 then 0 else W (a - 1) b) := by
  cases a with
  | zero => rw [gget_a0, if_pos rfl]; rfl
  | succ a => rw [nI_pred, gget_n (by omega) hb, swp_a (by omega), lay_at (by omega) hb, if_neg (by omega), Nat.add_sub_cancel]
theorem gs2 (ha : a < 13) (hb : b < 13) (h : 13 * a + b < n) : gget (swp (lay c W) B n) (nI a) (nI b - (1 : Int32)) = lN (if b = 0 then 0 else W a (b - 1)) := by
  cases b with
  | zero => rw [gget_b0, if_pos rfl]; rfl
  | succ b => rw [nI_pred, gget_n ha (by omega), swp_a (by omega), lay_at ha (by omega), if_neg (by omega), Nat.add_sub_cancel]
theorem gs3 (ha : a < 13) (hb : b < 13) (h : 13 * a + b < n) : gget (swp (lay c W) B n) (nI a - (1 : Int32)) (nI b - (1 : Int32)) = lN (if a = 0 then 0 else if b = 0 then 0 else W (a - 1) (b - 1)) := by
  cases a with
  | zero => rw [gget_a0, if_pos rfl]; rfl
  | succ a =>
    cases b with
    | zero => rw [gget_b0, if_neg (by omega), if_pos rfl]; rfl
    | succ b => rw [nI_pred, nI_pred, gget_n (by omega) (by omega), swp_a (by omega), lay_at (by omega) (by omega), if_neg (by omega), if_neg (by omega), Nat.add_sub_cancel, Nat.add_sub_cancel]
end SP
theorem join_n (c : Nat → Int64) (W : Nat → Nat → Nat) (q1 q2 q3 q4 : Nat) : FX4_join (lay c W) (lN q1) (lN q2) (lN q3) (lN q4) = some (lay c (jn W q1 q2 q3 q4)) := by
  have hin : ∀ a, a < 13 → itr (fun v => FX4_join_S13 (lN q1) (lN q2) (lN q3) (lN q4) (nI a) v.1 v.2) fu ((12 : Int32), swp (lay c W) (lay c (jn W q1 q2 q3 q4)) (13 * a + 13)) = some (swp (lay c W) (lay c (jn W q1 q2 q3 q4)) (13 * a)) := fun a ha => by
    refine itr_D (P := 13) (g := fun n => swp (lay c W) (lay c (jn W q1 q2 q3 q4)) (13 * a + n)) (by decide) 12 (by decide) _ rfl (fun b hb => ?_) ?_
    · show FX4_join_S13 (lN q1) (lN q2) (lN q3) (lN q4) (nI a) (nI b) (swp (lay c W) (lay c (jn W q1 q2 q3 q4)) (13 * a + b + 1)) = _
      unfold FX4_join_S13 nmb
      have e : lN (W a b * q4 + (if a = 0 then 0 else W (a - 1) b) * q2 + (if b = 0 then 0 else W a (b - 1)) * q3 + (if a = 0 then 0 else if b = 0 then 0 else W (a - 1) (b - 1)) * q1) = lay c (jn W q1 q2 q3 q4) (13 * a + b) := (lay_at (c := c) (W := jn W q1 q2 q3 q4) ha hb).symm
      rw [if_neg (nI_pos (by omega)), gs0 ha hb (by omega), gs1 ha hb (by omega), gs2 ha hb (by omega), gs3 ha hb (by omega), lN_mul, lN_mul, lN_mul, lN_mul, lN_add, lN_add, lN_add, gset_n ha hb, e, swp_s]
    · show FX4_join_S13 (lN q1) (lN q2) (lN q3) (lN q4) (nI a) (-1 : Int32) _ = _
      unfold FX4_join_S13
      rw [if_pos (by decide)]
      rfl
  have hout : itr (fun v => FX4_join_S4 (lN q1) (lN q2) (lN q3) (lN q4) v.1 v.2) fu ((12 : Int32), lay c W) = some (lay c (jn W q1 q2 q3 q4)) := by
    refine itr_D (P := 13) (g := fun n => swp (lay c W) (lay c (jn W q1 q2 q3 q4)) (13 * n)) (by decide) 12 (by decide) _ (lay_top c W _).symm (fun a ha => ?_) ?_
    · show FX4_join_S4 (lN q1) (lN q2) (lN q3) (lN q4) (nI a) (swp (lay c W) (lay c (jn W q1 q2 q3 q4)) (13 * (a + 1))) = _
      unfold FX4_join_S4
      rw [if_neg (nI_pos (by omega)), Nat.mul_succ, hin a ha]
      rfl
    · show FX4_join_S4 (lN q1) (lN q2) (lN q3) (lN q4) (-1 : Int32) (swp (lay c W) (lay c (jn W q1 q2 q3 q4)) (13 * 0)) = _
      unfold FX4_join_S4
      rw [if_pos (by decide), Nat.mul_zero, swp_0]
  unfold FX4_join
  rw [hout]
  rfl
def dl0 (a b : Nat) : Nat := if a = 0 ∧ b = 0 then 1 else 0
theorem begin_n (c : Nat → Int64) : FX4_begin c = lay c dl0 := by
  show vp_updL (gfillL c 169 (0 : Int64)) (((0 : Int32) * (13 : Int32) + (0 : Int32)).toNatClampNeg) (1 : Int64) = _
  have e : ((0 : Int32) * (13 : Int32) + (0 : Int32)).toNatClampNeg = 0 := by decide
  rw [e]
  funext i
  unfold vp_updL gfillL lay dl0
  by_cases h : i = 0
  · subst h
    rfl
  · rw [if_neg h]
    by_cases h2 : i < 169
    · rw [if_pos h2, if_pos h2, if_neg (by omega)]
      rfl
    · rw [if_neg h2, if_neg h2]
/-! sums over rows -/
theorem allOf_n {c : Nat → Int64} {W : Nat → Nat → Nat} {h : Nat} (hh : h < 13) : FX4_allOf (lay c W) (nI h) = some (lN (sumN (W h) 13)) := by
  have hl : itr (fun v => FX4_allOf_S5 (lay c W) (nI h) v.1 v.2) fu ((0 : Int64), (0 : Int32)) = some (lN (sumN (W h) 13)) := by
    refine itr_P (P := 13) (g := fun j => lN (sumN (W h) j)) (by decide) 0 rfl (fun j hj => ?_) ?_
    · show FX4_allOf_S5 (lay c W) (nI h) (lN (sumN (W h) j)) (nI j) = _
      unfold FX4_allOf_S5
      rw [if_neg (gl 13 hj (by decide)), gget_n hh hj, lay_at hh hj, lN_add, nI_1]
      rfl
    · show FX4_allOf_S5 (lay c W) (nI h) _ (nI 13) = _
      unfold FX4_allOf_S5
      rw [if_pos (by decide)]
  unfold FX4_allOf
  rw [hl]
  rfl
theorem x13 (h j : Nat) : (13 : Int32) * nI h + nI j = nI (13 * h + j) := by rw [nmul 13 h, nI_add]
theorem handsOf_n {c : Nat → Int64} {W : Nat → Nat → Nat} {h : Nat} (hh : h < 13) : FX9_handsOf (lay c W) (nI h) = some (lN (sumN (W h) 13)) := by
  have hl : itr (fun v => FX9_handsOf_S5 (lay c W) (nI h) v.1 v.2) fu ((0 : Int64), (0 : Int32)) = some (lN (sumN (W h) 13)) := by
    refine itr_P (P := 13) (g := fun j => lN (sumN (W h) j)) (by decide) 0 rfl (fun j hj => ?_) ?_
    · show FX9_handsOf_S5 (lay c W) (nI h) (lN (sumN (W h) j)) (nI j) = _
      unfold FX9_handsOf_S5
      rw [if_neg (gl 13 hj (by decide)), x13, gdI (by omega) (by decide), nI_clamp (by omega), lay_at hh hj, lN_add, nI_1]
      rfl
    · show FX9_handsOf_S5 (lay c W) (nI h) _ (nI 13) = _
      unfold FX9_handsOf_S5
      rw [if_pos (by decide)]
  unfold FX9_handsOf
  rw [hl]
  rfl
theorem ten_n {P : Nat} (hP : P ≤ 12) : FX8_tenTo (nI P) = some (lN (10 ^ P)) := by
  have hl : itr (fun v => FX8_tenTo_S4 (nI P) v.1 v.2) fu ((1 : Int64), (0 : Int32)) = some (lN (10 ^ P)) := by
    refine itr_P (P := P) (g := fun j => lN (10 ^ j)) (by omega) 1 rfl (fun j hj => ?_) ?_
    · show FX8_tenTo_S4 (nI P) (lN (10 ^ j)) (nI j) = _
      unfold FX8_tenTo_S4
      rw [if_neg (nI_ge hj (by omega)), show (10 : Int64) = lN 10 from rfl, lN_mul, nI_1, Nat.pow_succ]
    · show FX8_tenTo_S4 (nI P) _ (nI P) = _
      unfold FX8_tenTo_S4
      rw [if_pos (nI_le (Nat.le_refl P) (by omega))]
  unfold FX8_tenTo
  rw [hl]
  rfl
theorem whole_n {P : Nat} (hP : P ≤ 12) : FX9_whole (nI P) = some (lN (10 ^ P)) := by
  have hl : itr (fun v => FX9_whole_S4 (nI P) v.1 v.2) fu ((1 : Int64), (0 : Int32)) = some (lN (10 ^ P)) := by
    refine itr_P (P := P) (g := fun j => lN (10 ^ j)) (by omega) 1 rfl (fun j hj => ?_) ?_
    · show FX9_whole_S4 (nI P) (lN (10 ^ j)) (nI j) = _
      unfold FX9_whole_S4
      rw [if_neg (nI_ge hj (by omega)), show (10 : Int64) = lN 10 from rfl, lN_mul, nI_1, Nat.pow_succ]
    · show FX9_whole_S4 (nI P) _ (nI P) = _
      unfold FX9_whole_S4
      rw [if_pos (nI_le (Nat.le_refl P) (by omega))]
  unfold FX9_whole
  rw [hl]
  rfl
theorem ten12 {P : Nat} (hP : P ≤ 12) : 10 ^ P ≤ 1000000000000 := by
  have h : 10 ^ P ≤ 10 ^ 12 := Nat.pow_le_pow_right (by decide) hP
  exact h
/-! bounds and borders -/
def shf (f : Nat → Nat) (b : Nat) : Nat := if b = 0 then 0 else f (b - 1)
theorem sum_shf (f : Nat → Nat) : ∀ n, sumN (shf f) (n + 1) = sumN f n
  | 0 => rfl
  | n + 1 => by
    have h := sum_shf f n
    have e1 : sumN (shf f) (n + 1 + 1) = sumN (shf f) (n + 1) + shf f (n + 1) := rfl
    have e2 : sumN f (n + 1) = sumN f n + f n := rfl
    have e3 : shf f (n + 1) = f n := rfl
    rw [e1, e2, e3, h]
theorem sum_shf_le (f : Nat → Nat) (n : Nat) : sumN (shf f) n ≤ sumN f n := by
  cases n with
  | zero => exact Nat.le_refl 0
  | succ n =>
    rw [sum_shf]
    exact Nat.le_add_right _ _
theorem sum_4 (A B C D : Nat → Nat) (x y z u : Nat) : ∀ n, sumN (fun b => A b * x + B b * y + C b * z + D b * u) n = sumN A n * x + sumN B n * y + sumN C n * z + sumN D n * u
  | 0 => by simp [sumN]
  | n + 1 => by
    have h := sum_4 A B C D x y z u n
    have e : ∀ f : Nat → Nat, sumN f (n + 1) = sumN f n + f n := fun _ => rfl
    rw [e, e, e, e, e, h, Nat.add_mul, Nat.add_mul, Nat.add_mul, Nat.add_mul]
    omega
theorem sum_0 : ∀ n, sumN (fun _ => 0) n = 0
  | 0 => rfl
  | n + 1 => by
    have h := sum_0 n
    have e : sumN (fun _ => 0) (n + 1) = sumN (fun _ => 0) n + 0 := rfl
    rw [e, h]
theorem jn_sum {W : Nat → Nat → Nat} {T : Nat} (hW : ∀ a, sumN (W a) 13 ≤ T) (q1 q2 q3 q4 a : Nat) : sumN (jn W q1 q2 q3 q4 a) 13 ≤ T * (q1 + q2 + q3 + q4) := by
  have e : sumN (jn W q1 q2 q3 q4 a) 13 = sumN (fun b => W a b * q4 + (if a = 0 then 0 else W (a - 1) b) * q2 + shf (W a) b * q3 + (if a = 0 then 0 else shf (W (a - 1)) b) * q1) 13 := rfl
  rw [e, sum_4]
  have h1 := Nat.mul_le_mul_right q4 (hW a)
  have h2 : sumN (fun b => if a = 0 then 0 else W (a - 1) b) 13 ≤ T := by
    by_cases c : a = 0
    · simp only [if_pos c, sum_0]; exact Nat.zero_le _
    · simp only [if_neg c]; exact hW (a - 1)
  have h3 : sumN (shf (W a)) 13 ≤ T := Nat.le_trans (sum_shf_le _ _) (hW a)
  have h4 : sumN (fun b => if a = 0 then 0 else shf (W (a - 1)) b) 13 ≤ T := by
    by_cases c : a = 0
    · simp only [if_pos c, sum_0]; exact Nat.zero_le _
    · simp only [if_neg c]; exact Nat.le_trans (sum_shf_le _ _) (hW (a - 1))
  have g2 := Nat.mul_le_mul_right q2 h2
  have g3 := Nat.mul_le_mul_right q3 h3
  have g4 := Nat.mul_le_mul_right q1 h4
  rw [Nat.mul_add, Nat.mul_add, Nat.mul_add]
  omega
theorem sum_ge {f : Nat → Nat} {i : Nat} : ∀ n, i < n → f i ≤ sumN f n
  | 0, h => by omega
  | n + 1, h => by
    have e : sumN f (n + 1) = sumN f n + f n := rfl
    by_cases c : i = n
    · subst c; omega
    · have h2 := sum_ge (f := f) (i := i) n (by omega)
      omega
/-- how many are up, how many know: in the ways of the first p pupils -/
def jW (y z : Nat → Bool) (k : Nat → Nat) : Nat → Nat → Nat → Nat
  | 0 => dl0
  | p + 1 => jn (jW y z k p) (if y p = true then k p else 0) (if z p = true then 10 - k p else 0) (if y p = true then 0 else k p) (if z p = true then 0 else 10 - k p)
theorem jW_le {y z : Nat → Bool} {k : Nat → Nat} {P : Nat} (hk : ∀ p, p < P → k p ≤ 10) : ∀ p, p ≤ P → ∀ a, sumN (jW y z k p a) 13 ≤ 10 ^ p
  | 0, _ => fun a => by
    by_cases c : a = 0
    · subst c
      have e : sumN (jW y z k 0 0) 13 = sumN (dl0 0) 13 := rfl
      rw [e]
      decide
    · have e : jW y z k 0 a = fun _ => 0 := by
        funext b
        show dl0 a b = 0
        unfold dl0
        rw [if_neg (by omega)]
      rw [e, sum_0]
      exact Nat.zero_le _
  | p + 1, hp => fun a => by
    have h := jn_sum (jW_le (y := y) (z := z) hk p (by omega)) (if y p = true then k p else 0) (if z p = true then 10 - k p else 0) (if y p = true then 0 else k p) (if z p = true then 0 else 10 - k p) a
    have hk2 := hk p (by omega)
    have e : (if y p = true then k p else 0) + (if z p = true then 10 - k p else 0) + (if y p = true then 0 else k p) + (if z p = true then 0 else 10 - k p) = 10 := by
      cases y p <;> cases z p <;> simp <;> omega
    rw [e] at h
    rw [Nat.pow_succ]
    exact h
theorem jW_0 {y z : Nat → Bool} {k : Nat → Nat} : ∀ p a b, (p < a ∨ p < b) → jW y z k p a b = 0
  | 0, a, b, h => by
    show dl0 a b = 0
    unfold dl0
    rw [if_neg (by omega)]
  | p + 1, a, b, h => by
    have h0 := jW_0 (y := y) (z := z) (k := k) p a b (by omega)
    have h1 : a ≠ 0 → jW y z k p (a - 1) b = 0 := fun _ => jW_0 p (a - 1) b (by omega)
    have h2 : b ≠ 0 → jW y z k p a (b - 1) = 0 := fun _ => jW_0 p a (b - 1) (by omega)
    have h3 : a ≠ 0 → b ≠ 0 → jW y z k p (a - 1) (b - 1) = 0 := fun _ _ => jW_0 p (a - 1) (b - 1) (by omega)
    show jn (jW y z k p) _ _ _ _ a b = 0
    unfold jn
    rw [h0]
    by_cases ca : a = 0
    · by_cases cb : b = 0
      · omega
      · rw [if_pos ca, if_neg cb, if_pos ca, h2 cb]; simp
    · by_cases cb : b = 0
      · rw [if_neg ca, if_pos cb, if_neg ca, if_pos cb, h1 ca]; simp
      · rw [if_neg ca, if_neg cb, if_neg ca, if_neg cb, h1 ca, h2 cb, h3 ca cb]; simp
/-! hands, given, likely -/
section HA
variable {N P mo : Nat} {r c k q d f da ti : Nat → Nat} {lt rws cls tn nd td ld lti md mti mp : Nat → Int32} {pu mpu mood mmood : Int32}
def yN (mo : Nat) (da f q : Nat → Nat) (w p : Nat) : Bool := mayN mo (da p) (f p) (q p) w
def zN (mo : Nat) (da f : Nat → Nat) (p : Nat) : Bool := decide (mo ≤ da p) && decide (f p = 1)
theorem ten_k {K : Nat} (hK : K ≤ 10) : ((10 : Int32) - nI K).toInt64 = lN (10 - K) := by
  rw [nlit 10, pk_sub hK, nI_l (by omega)]
theorem look_c (t s : Bool) {K : Nat} (hK : K ≤ 10) (j : Nat) (cc : Nat → Int64) (W : Nat → Nat → Nat) : (if t = true then FX1_look_J61L9 (bi s) (bi t) (nI K) (nI j) ((nI K).toInt64) (lay cc W) else FX1_look_J61L9 (bi s) (bi t) (nI K) (nI j) (0 : Int64) (lay cc W)) = some (.inl (nI (j + 1), lay cc (jn W (if t = true then K else 0) (if s = true then 10 - K else 0) (if t = true then 0 else K) (if s = true then 0 else 10 - K)))) := by
  have b1 : ¬ bi true = 0 := by decide
  have b0 : bi false = 0 := rfl
  have ek : (nI K).toInt64 = lN K := nI_l (by omega)
  have e10 := ten_k hK
  have z : (0 : Int64) = lN 0 := rfl
  unfold FX1_look_J61L9 FX1_look_J76L9 FX1_look_J88L9 FX1_look_J103L9
  rw [ek, e10, z, nI_1]
  cases t <;> cases s
  · simp only [if_neg b1, if_pos b0, join_n, Option.bind_some, Bool.false_eq_true, if_false]
  · simp only [if_neg b1, if_pos b0, join_n, Option.bind_some, Bool.false_eq_true, if_false, if_true]
  · simp only [if_neg b1, if_pos b0, join_n, Option.bind_some, Bool.false_eq_true, if_false, if_true]
  · simp only [if_neg b1, if_pos b0, join_n, Option.bind_some, Bool.false_eq_true, if_false, if_true]
theorem look8 (hR : RRos P r c k q d f lt rws cls tn nd td pu mpu mp) (hL : RLe N P da ti ld lti md mti) (hM : RMo mo mood mmood) {w : Nat} (hw : w ≤ 9) (ha : Nat → Int64) : FX1_look ha pu mood tn lt nd ld (nI w) = some (lay ha (jW (yN mo da f q w) (zN mo da f) k P)) := by
  have hP := hR.1
  have hpu := hR.2.1
  have hl : itr (fun v => FX1_look_S9 pu mood tn lt nd ld (nI w) v.1 v.2) fu ((0 : Int32), lay ha dl0) = some (lay ha (jW (yN mo da f q w) (zN mo da f) k P)) := by
    refine itr_Q (P := P) (g := fun j => lay ha (jW (yN mo da f q w) (zN mo da f) k j)) (by omega) _ rfl (fun j hj => ?_) ?_
    · show FX1_look_S9 pu mood tn lt nd ld (nI w) (nI j) (lay ha (jW (yN mo da f q w) (zN mo da f) k j)) = _
      have hb := hR.2.2.2 j hj
      have htn : tn j = nI (k j) := hb.2.2.1.2.2.1
      have e1 : FX3_isUp mood ld lt nd (nI j) (1 : Int32) (nI w) = yN mo da f q w j := by
        rw [ro_isUp hR hL hM hj hw]
        unfold yN mayN
        have h1 : decide (¬ (1 : Int32) = 0) = true := by decide
        rw [h1, Bool.true_and]
      have e0 : FX3_isUp mood ld lt nd (nI j) (0 : Int32) (nI w) = zN mo da f j := by
        rw [ro_isUp hR hL hM hj hw]
        unfold zN
        have h1 : decide (¬ (0 : Int32) = 0) = false := by decide
        rw [h1, Bool.false_and, Bool.or_false]
      unfold FX1_look_S9
      rw [hpu, if_neg (nI_ge hj (by omega)), e1, e0, gat_n (by omega) (by decide), htn]
      exact look_c (yN mo da f q w j) (zN mo da f j) (by omega) j ha _
    · show FX1_look_S9 pu mood tn lt nd ld (nI w) (nI P) _ = _
      unfold FX1_look_S9
      rw [hpu, if_pos (nI_le (Nat.le_refl P) (by omega))]
  unfold FX1_look nmb
  rw [begin_n]
  dsimp only
  rw [hl]
  rfl
/-- one pupil joins the reference's row -/
def flW (W : Nat → Nat → Nat) (i : Nat) : Nat := W (i / 13) (i % 13)
def flV (W : Nat → Nat → Nat) (yes no K i : Nat) : Nat := (if no = 0 then flW W i * (10 - K) else if i < no then 0 else flW W (i - no) * (10 - K)) + (if i < yes then 0 else flW W (i - yes) * K)
theorem swp_l {cc : Nat → Int64} {W : Nat → Nat → Nat} {B : Nat → Int64} {n m : Nat} (h : m < n) (h2 : m < 169) : swp (lay cc W) B n m = lN (flW W m) := by
  rw [swp_a h, lay_i h2]
  rfl
theorem joint_n {cc : Nat → Int64} {W V : Nat → Nat → Nat} {yes no K : Nat} (hK : K ≤ 10) (hy : yes < 170) (hn : no < 170) (hV : ∀ i, i < 169 → V (i / 13) (i % 13) = flV W yes no K i) (x : Int32) : FX9_layJoint_J142L31 (nI yes) (nI K) x (nI no) (lay cc W) = some (.inl (x + (1 : Int32), lay cc V)) := by
  have ek : (nI K).toInt64 = lN K := nI_l (by omega)
  have e10 := ten_k hK
  have z : (0 : Int64) = lN 0 := rfl
  have hl : itr (fun v => FX9_layJoint_S149 (nI yes) (nI K) (nI no) v.1 v.2) fu ((168 : Int32), lay cc W) = some (lay cc V) := by
    refine itr_D (P := 169) (g := fun n => swp (lay cc W) (lay cc V) n) (by decide) 168 (by decide) _ (lay_top cc W V).symm (fun i hi => ?_) ?_
    · show FX9_layJoint_S149 (nI yes) (nI K) (nI no) (nI i) (swp (lay cc W) (lay cc V) (i + 1)) = _
      have ev : lay cc V i = lN (flV W yes no K i) := by rw [lay_i hi, hV i hi]
      have cn : (nI no = 0) ↔ no = 0 := nI_eq (b := 0) (by omega) (by decide)
      have ci : (nI i < nI no) ↔ i < no := nI_ltI (by omega) (by omega)
      have cy : (nI i < nI yes) ↔ i < yes := nI_ltI (by omega) (by omega)
      have gi : ¬ (nI i < 0 ∨ 169 ≤ i) := gd2 hi (by decide)
      have fin : ∀ v, v = flV W yes no K i → some (Sum.inl (nI i + (-1 : Int32), vp_updL (swp (lay cc W) (lay cc V) (i + 1)) i (lN v))) = (some (Sum.inl (nI i + (-1 : Int32), swp (lay cc W) (lay cc V) i)) : Option ((Int32 × (Nat → Int64)) ⊕ (Nat → Int64))) := fun v hv => by
        rw [hv, ← ev, swp_s]
      have e236 : ∀ a b : Nat, FX9_layJoint_J236L149 (nI i) (nI i) (lN a) (lN b) (swp (lay cc W) (lay cc V) (i + 1)) = some (.inl (nI i + (-1 : Int32), vp_updL (swp (lay cc W) (lay cc V) (i + 1)) i (lN (a + b)))) := fun a b => by
        unfold FX9_layJoint_J236L149
        rw [nI_clamp (by omega), if_neg gi, lN_add]
      have e202 : ∀ a : Nat, FX9_layJoint_J202L149 (nI yes) (nI K) (nI i) (lN a) (swp (lay cc W) (lay cc V) (i + 1)) = some (.inl (nI i + (-1 : Int32), vp_updL (swp (lay cc W) (lay cc V) (i + 1)) i (lN (a + (if i < yes then 0 else flW W (i - yes) * K))))) := fun a => by
        unfold FX9_layJoint_J202L149
        by_cases h : i < yes
        · rw [if_pos (cy.mpr h), if_pos h, z, e236]
        · rw [if_neg (fun y => h (cy.mp y)), if_neg h, pk_sub (by omega), gdI (by omega) (by decide), nI_clamp (by omega), swp_l (by omega) (by omega), ek, lN_mul, e236]
      unfold FX9_layJoint_S149
      rw [if_neg (nI_pos (by omega)), e10]
      by_cases h1 : no = 0
      · rw [if_pos (cn.mpr h1), gdI hi (by decide), nI_clamp (by omega), swp_l (by omega) hi, lN_mul, e202]
        exact fin _ (by unfold flV; rw [if_pos h1])
      · rw [if_neg (fun y => h1 (cn.mp y))]
        by_cases h2 : i < no
        · rw [if_pos (ci.mpr h2), z, e202]
          exact fin _ (by unfold flV; rw [if_neg h1, if_pos h2])
        · rw [if_neg (fun y => h2 (ci.mp y)), pk_sub (by omega), gdI (by omega) (by decide), nI_clamp (n := i - no) (by omega), swp_l (by omega) (by omega), lN_mul, e202]
          exact fin _ (by unfold flV; rw [if_neg h1, if_neg h2])
    · show FX9_layJoint_S149 (nI yes) (nI K) (nI no) (-1 : Int32) (swp (lay cc W) (lay cc V) 0) = _
      unfold FX9_layJoint_S149
      rw [if_pos (by decide), swp_0]
  unfold FX9_layJoint_J142L31
  rw [hl]
  rfl
/-- the three ways to join -/
theorem fl_a {W : Nat → Nat → Nat} {K : Nat} (h0 : ∀ a b, (12 ≤ a ∨ 12 ≤ b) → W a b = 0) (i : Nat) : jn W K (10 - K) 0 0 (i / 13) (i % 13) = flV W 14 13 K i := by
  unfold jn flV flW
  by_cases c1 : i < 13
  · have e1 : i / 13 = 0 := by omega
    rw [if_neg (show ¬ (13 : Nat) = 0 by decide), if_pos c1, if_pos (show i < 14 by omega), if_pos e1, if_pos e1]
    omega
  · have e1 : ¬ i / 13 = 0 := by omega
    have e2 : (i - 13) / 13 = i / 13 - 1 := by omega
    have e3 : (i - 13) % 13 = i % 13 := by omega
    rw [if_neg (show ¬ (13 : Nat) = 0 by decide), if_neg c1, if_neg e1, if_neg e1, e2, e3]
    by_cases c2 : i % 13 = 0
    · rw [if_pos c2, if_pos c2]
      by_cases c3 : i < 14
      · rw [if_pos c3]; omega
      · have h := h0 ((i - 14) / 13) ((i - 14) % 13) (by omega)
        rw [if_neg c3, h]; omega
    · have e4 : (i - 14) / 13 = i / 13 - 1 := by omega
      have e5 : (i - 14) % 13 = i % 13 - 1 := by omega
      rw [if_neg c2, if_neg c2, if_neg (show ¬ i < 14 by omega), e4, e5]
      omega
theorem fl_b {W : Nat → Nat → Nat} {K : Nat} (h0 : ∀ a b, (12 ≤ a ∨ 12 ≤ b) → W a b = 0) (i : Nat) : jn W K 0 0 (10 - K) (i / 13) (i % 13) = flV W 14 0 K i := by
  unfold jn flV flW
  rw [if_pos (show (0 : Nat) = 0 from rfl)]
  by_cases c1 : i < 13
  · have e1 : i / 13 = 0 := by omega
    rw [if_pos (show i < 14 by omega), if_pos e1, if_pos e1]
    omega
  · have e1 : ¬ i / 13 = 0 := by omega
    rw [if_neg e1, if_neg e1]
    by_cases c2 : i % 13 = 0
    · rw [if_pos c2, if_pos c2]
      by_cases c3 : i < 14
      · rw [if_pos c3]; omega
      · have h := h0 ((i - 14) / 13) ((i - 14) % 13) (by omega)
        rw [if_neg c3, h]; omega
    · have e4 : (i - 14) / 13 = i / 13 - 1 := by omega
      have e5 : (i - 14) % 13 = i % 13 - 1 := by omega
      rw [if_neg c2, if_neg c2, if_neg (show ¬ i < 14 by omega), e4, e5]
      omega
theorem fl_c {W : Nat → Nat → Nat} {K : Nat} (h0 : ∀ a b, (12 ≤ a ∨ 12 ≤ b) → W a b = 0) (i : Nat) : jn W 0 0 K (10 - K) (i / 13) (i % 13) = flV W 1 0 K i := by
  unfold jn flV flW
  rw [if_pos (show (0 : Nat) = 0 from rfl)]
  by_cases c2 : i % 13 = 0
  · rw [if_pos c2]
    by_cases c3 : i < 1
    · rw [if_pos c3]; omega
    · have h := h0 ((i - 1) / 13) ((i - 1) % 13) (by omega)
      rw [if_neg c3, h]; omega
  · have e4 : (i - 1) / 13 = i / 13 := by omega
    have e5 : (i - 1) % 13 = i % 13 - 1 := by omega
    rw [if_neg c2, if_neg (show ¬ i < 1 by omega), e4, e5]
    omega
theorem look9s (hR : RRos P r c k q d f lt rws cls tn nd td pu mpu mp) (hL : RLe N P da ti ld lti md mti) (hM : RMo mo mood mmood) {w j : Nat} (hw : w ≤ 9) (hj : j < P) (cc : Nat → Int64) {W : Nat → Nat → Nat} (h0 : ∀ a b, (12 ≤ a ∨ 12 ≤ b) → W a b = 0) : FX9_layJoint_S31 mpu mmood mp md (nI w) (nI j) (lay cc W) = some (.inl (nI (j + 1), lay cc (jn W (if yN mo da f q w j = true then k j else 0) (if zN mo da f j = true then 10 - k j else 0) (if yN mo da f q w j = true then 0 else k j) (if zN mo da f j = true then 0 else 10 - k j)))) := by
  obtain ⟨hP, hpu, hmpu, hro⟩ := hR
  obtain ⟨⟨b1, b2, b3, b4, b5, b6⟩, hlt, ⟨hrw, hcl, htn, hnd, htd⟩, q0, q1, q2, q3, q4, q5⟩ := hro j hj
  obtain ⟨hd9, -, hld, hmd, -, -⟩ := hL j hj
  have hmo := hM.1
  have e5 : (6 : Int32) * nI j + (5 : Int32) = nI (6 * j + 5) := x6 j 5
  have e3 : (6 : Int32) * nI j + (3 : Int32) = nI (6 * j + 3) := x6 j 3
  have e2 : (6 : Int32) * nI j + (2 : Int32) = nI (6 * j + 2) := x6 j 2
  have g5 : ¬ (nI (6 * j + 5) < 0 ∨ 72 ≤ 6 * j + 5) := gd2 (by omega) (by decide)
  have g3 : ¬ (nI (6 * j + 3) < 0 ∨ 72 ≤ 6 * j + 3) := gd2 (by omega) (by decide)
  have g2 : ¬ (nI (6 * j + 2) < 0 ∨ 72 ≤ 6 * j + 2) := gd2 (by omega) (by decide)
  have g1 : ¬ (nI j < 0 ∨ 12 ≤ j) := gd2 (by omega) (by decide)
  have c5 : (nI (f j) = (1 : Int32)) ↔ f j = 1 := nI_eq (by omega) (by decide)
  have cd : (nI (da j) < nI mo) ↔ da j < mo := nI_ltI (by omega) (by omega)
  have cq : (nI w < nI (q j)) ↔ w < q j := nI_ltI (by omega) (by omega)
  have z1 : ¬ (1 : Int32) = 0 := by decide
  have ja := joint_n (cc := cc) (W := W) (V := jn W (k j) (10 - k j) 0 0) (yes := 14) (no := 13) (K := k j) (by omega) (by decide) (by decide) (fun i _ => fl_a h0 i) (nI j)
  have jb := joint_n (cc := cc) (W := W) (V := jn W (k j) 0 0 (10 - k j)) (yes := 14) (no := 0) (K := k j) (by omega) (by decide) (by decide) (fun i _ => fl_b h0 i) (nI j)
  have jc := joint_n (cc := cc) (W := W) (V := jn W 0 0 (k j) (10 - k j)) (yes := 1) (no := 0) (K := k j) (by omega) (by decide) (by decide) (fun i _ => fl_c h0 i) (nI j)
  rw [nI_1] at ja jb jc
  have n14 : nI 14 = (14 : Int32) := rfl
  have n13 : nI 13 = (13 : Int32) := rfl
  have n1 : nI 1 = (1 : Int32) := rfl
  have n0 : nI 0 = (0 : Int32) := rfl
  rw [n14, n13] at ja
  rw [n14, n0] at jb
  rw [n1, n0] at jc
  have y1 : yN mo da f q w j = mayN mo (da j) (f j) (q j) w := rfl
  have y2 : zN mo da f j = (decide (mo ≤ da j) && decide (f j = 1)) := rfl
  unfold FX9_layJoint_S31 FX9_layJoint_J71L31 FX9_layJoint_J110L31 FX9_layJoint_J106L31 FX9_layJoint_J111L31 FX9_layJoint_J124L31 FX9_layJoint_J141L31
  rw [hmpu, if_neg (nI_ge hj (by omega)), e5, e3, e2, nI_clamp (n := 6 * j + 5) (by omega), nI_clamp (n := 6 * j + 3) (by omega), nI_clamp (n := 6 * j + 2) (by omega), nI_clamp (n := j) (by omega), hmd, hM.2.2, q5, q3, q2, y1, y2]
  simp only [c5, cd, cq, if_neg g5, if_neg g1, if_neg g3, if_neg g2, if_neg z1, if_true]
  unfold mayN
  by_cases c1 : mo ≤ da j
  · have c1' : ¬ da j < mo := by omega
    by_cases c2 : f j = 1
    · simp only [c1, c1', c2, if_true, if_false, decide_true, Bool.true_and, Bool.and_true, Bool.true_or, if_neg z1]
      exact ja
    · by_cases c3 : q j ≤ w
      · have c3' : ¬ w < q j := by omega
        simp only [c1, c1', c2, c3, c3', if_true, if_false, decide_true, decide_false, Bool.true_and, Bool.and_true, Bool.and_false, Bool.false_or, Bool.or_true, if_neg z1, Bool.false_eq_true]
        exact jb
      · have c3' : w < q j := by omega
        simp only [c1, c1', c2, c3, c3', if_true, if_false, decide_true, decide_false, Bool.true_and, Bool.and_true, Bool.and_false, Bool.false_or, Bool.or_false, if_neg z1, Bool.false_eq_true]
        exact jc
  · have c1' : da j < mo := by omega
    simp only [c1, c1', if_true, if_false, decide_false, Bool.false_and, Bool.false_eq_true, ite_self]
    exact jc
theorem look9 (hR : RRos P r c k q d f lt rws cls tn nd td pu mpu mp) (hL : RLe N P da ti ld lti md mti) (hM : RMo mo mood mmood) {w : Nat} (hw : w ≤ 9) (mj : Nat → Int64) : FX9_layJoint mpu mmood mj mp md (nI w) = some (lay mj (jW (yN mo da f q w) (zN mo da f) k P)) := by
  have hP := hR.1
  have hpu := hR.2.2.1
  have hz : itr (fun v => FX9_layJoint_S2 v.1 v.2) fu ((0 : Int32), mj) = some (gfillL mj 169 0) := by
    refine itr_Q (P := 169) (g := fun j => gfillL mj j 0) (by decide) mj (by funext i; simp [gfillL]) (fun j hj => ?_) ?_
    · show FX9_layJoint_S2 (nI j) (gfillL mj j 0) = _
      unfold FX9_layJoint_S2
      have e : vp_updL (gfillL mj j 0) j 0 = gfillL mj (j + 1) 0 := by
        funext i
        unfold vp_updL gfillL
        by_cases h1 : i = j
        · rw [if_pos h1, if_pos (by omega)]
        · rw [if_neg h1]
          by_cases h2 : i < j
          · rw [if_pos h2, if_pos (by omega)]
          · rw [if_neg h2, if_neg (by omega)]
      rw [if_neg (gl 169 hj (by decide)), gdI hj (by decide), nI_clamp (by omega), nI_1, e]
    · show FX9_layJoint_S2 (nI 169) _ = _
      unfold FX9_layJoint_S2
      rw [if_pos (by decide)]
  have hb : vp_updL (gfillL mj 169 0) (0 : Int32).toNatClampNeg (1 : Int64) = lay mj dl0 := by
    rw [← begin_n]
    show _ = vp_updL (gfillL mj 169 (0 : Int64)) (((0 : Int32) * (13 : Int32) + (0 : Int32)).toNatClampNeg) (1 : Int64)
    have e : ((0 : Int32) * (13 : Int32) + (0 : Int32)).toNatClampNeg = (0 : Int32).toNatClampNeg := by decide
    rw [e]
  have hl : itr (fun v => FX9_layJoint_S31 mpu mmood mp md (nI w) v.1 v.2) fu ((0 : Int32), lay mj dl0) = some (lay mj (jW (yN mo da f q w) (zN mo da f) k P)) := by
    refine itr_Q (P := P) (g := fun j => lay mj (jW (yN mo da f q w) (zN mo da f) k j)) (by omega) _ rfl (fun j hj => ?_) ?_
    · exact look9s hR hL hM hw hj mj (fun a b h => jW_0 j a b (by omega))
    · show FX9_layJoint_S31 mpu mmood mp md (nI w) (nI P) _ = _
      unfold FX9_layJoint_S31
      rw [hpu, if_pos (nI_le (Nat.le_refl P) (by omega))]
  unfold FX9_layJoint
  rw [hz, Option.bind_some, if_neg (by decide), hb, hl]
  rfl
end HA
def besL (E : Nat → Int64) : Nat → Nat
  | 0 => 0
  | n + 1 => if E (n + 1) ≤ E (besL E n) then besL E n else n + 1
theorem besL_le (E : Nat → Int64) : ∀ n, besL E n ≤ n
  | 0 => Nat.le_refl 0
  | n + 1 => by
    have h := besL_le E n
    simp only [besL]
    by_cases c : E (n + 1) ≤ E (besL E n)
    · rw [if_pos c]; omega
    · rw [if_neg c]; exact Nat.le_refl _
theorem besL_s (E : Nat → Int64) (n : Nat) : besL E (n + 1) = if E (n + 1) ≤ E (besL E n) then besL E n else n + 1 := rfl
theorem like8 {cc : Nat → Int64} {W : Nat → Nat → Nat} {h : Nat} (hh : h < 13) : FX1_likeliestKnowing (lay cc W) (nI h) = some (nI (besL (fun n => lN (W h n)) 12)) := by
  generalize hE : (fun n => lN (W h n)) = E
  have hat : ∀ n, n < 13 → lay cc W (13 * h + n) = E n := fun n hn => by rw [lay_at hh hn, ← hE]
  have hl : itr (fun v => FX1_likeliestKnowing_S4 (lay cc W) (nI h) v.1 v.2) fu ((0 : Int32), (1 : Int32)) = some (nI (besL E 12)) := by
    refine itr_cnt (g := fun j => (nI (besL E j), nI (j + 1))) (e := 12) (fu_le (by decide)) rfl (fun j hj => ?_) ?_
    · show FX1_likeliestKnowing_S4 (lay cc W) (nI h) (nI (besL E j)) (nI (j + 1)) = _
      have hb := besL_le E j
      unfold FX1_likeliestKnowing_S4
      rw [if_neg (nlL 12 (by omega) (by decide)), gget_n hh (by omega), gget_n hh (by omega), hat (j + 1) (by omega), hat (besL E j) (by omega), nI_1, besL_s]
      by_cases cx : E (j + 1) ≤ E (besL E j)
      · rw [if_pos cx, if_pos cx]
      · rw [if_neg cx, if_neg cx]
    · show FX1_likeliestKnowing_S4 (lay cc W) (nI h) _ (nI 13) = _
      unfold FX1_likeliestKnowing_S4
      rw [if_pos (by decide)]
  unfold FX1_likeliestKnowing
  rw [hl]
  rfl
theorem like9 {cc : Nat → Int64} {W : Nat → Nat → Nat} {h : Nat} (hh : h < 13) : itr (fun v => FX9_likely_S45 (nI h) (lay cc W) v.1 v.2) fu ((0 : Int32), (1 : Int32)) = some (nI (besL (fun n => lN (W h n)) 12)) := by
  generalize hE : (fun n => lN (W h n)) = E
  have hat : ∀ n, n < 13 → lay cc W (13 * h + n) = E n := fun n hn => by rw [lay_at hh hn, ← hE]
  refine itr_cnt (g := fun j => (nI (besL E j), nI (j + 1))) (e := 12) (fu_le (by decide)) rfl (fun j hj => ?_) ?_
  · show FX9_likely_S45 (nI h) (lay cc W) (nI (besL E j)) (nI (j + 1)) = _
    have hb := besL_le E j
    unfold FX9_likely_S45
    rw [if_neg (gl 13 (by omega) (by decide)), x13, x13, gdI (by omega) (by decide), gdI (by omega) (by decide), nI_clamp (by omega), nI_clamp (by omega), hat (j + 1) (by omega), hat (besL E j) (by omega), nI_1, besL_s]
    by_cases cx : E (j + 1) ≤ E (besL E j)
    · rw [if_pos cx, if_pos cx]
    · rw [if_neg cx, if_neg cx]
  · show FX9_likely_S45 (nI h) (lay cc W) _ (nI 13) = _
    unfold FX9_likely_S45
    rw [if_pos (by decide)]
/-! loops whose state is only known by a relation -/
theorem itr_ex {α β : Type} {f : α → Option (α ⊕ β)} {I : Nat → α → Prop} {Q : β → Prop} : ∀ (d n e k : Nat) (x : α), k + d = e → d < n → I k x → (∀ k x, k < e → I k x → ∃ y, f x = some (.inl y) ∧ I (k + 1) y) → (∀ x, I e x → ∃ r, f x = some (.inr r) ∧ Q r) → ∃ r, itr f n x = some r ∧ Q r := by
  intro d
  induction d with
  | zero =>
    intro n e k x hk hn h0 h1 h2
    obtain ⟨n, rfl⟩ : ∃ q, n = q + 1 := ⟨n - 1, by omega⟩
    have hk : k = e := by omega
    subst hk
    obtain ⟨r, hr, hq⟩ := h2 x h0
    exact ⟨r, itr_inr hr, hq⟩
  | succ d ih =>
    intro n e k x hk hn h0 h1 h2
    obtain ⟨n, rfl⟩ : ∃ q, n = q + 1 := ⟨n - 1, by omega⟩
    obtain ⟨y, hy, hI⟩ := h1 k x (by omega) h0
    obtain ⟨r, hr, hq⟩ := ih n e (k + 1) y (by omega) (by omega) hI h1 h2
    exact ⟨r, (itr_inl hy).trans hr, hq⟩
theorem itr_exP {α β : Type} {f : α → Option (α ⊕ β)} {I : Nat → α → Prop} {Q : β → Prop} {P : Nat} (hP : P < 3000) {x : α} (h0 : I 0 x) (h1 : ∀ k x, k < P → I k x → ∃ y, f x = some (.inl y) ∧ I (k + 1) y) (h2 : ∀ x, I P x → ∃ r, f x = some (.inr r) ∧ Q r) : ∃ r, itr f fu x = some r ∧ Q r :=
  itr_ex P fu P 0 x (by omega) (fu_le hP) h0 h1 h2
/-! sums -/
theorem sum_s (f : Nat → Nat) (n : Nat) : sumN f (n + 1) = sumN f n + f n := rfl
theorem sum_2 (A B : Nat → Nat) (x y : Nat) : ∀ n, sumN (fun b => A b * x + B b * y) n = sumN A n * x + sumN B n * y
  | 0 => by simp [sumN]
  | n + 1 => by
    have h := sum_2 A B x y n
    rw [sum_s, sum_s, sum_s, h, Nat.add_mul, Nat.add_mul]
    omega
theorem sum_x (u : Nat) (f : Nat → Nat) : ∀ n, sumN (fun b => u * f b) n = u * sumN f n
  | 0 => rfl
  | n + 1 => by
    have h := sum_x u f n
    rw [sum_s, sum_s, h, Nat.mul_add]
theorem sum_c {f g : Nat → Nat} : ∀ n, (∀ i, i < n → f i = g i) → sumN f n = sumN g n
  | 0, _ => rfl
  | n + 1, h => by
    rw [sum_s, sum_s, sum_c n (fun i hi => h i (by omega)), h n (by omega)]
theorem sum_mul_le {f g : Nat → Nat} {B : Nat} (h : ∀ i, g i ≤ B) : ∀ n, sumN (fun b => f b * g b) n ≤ sumN f n * B
  | 0 => by simp [sumN]
  | n + 1 => by
    have h1 := sum_mul_le (f := f) h n
    have h2 := Nat.mul_le_mul_left (f n) (h n)
    rw [sum_s, sum_s, Nat.add_mul]
    omega
theorem sum_up {f : Nat → Nat} {m : Nat} : ∀ d, sumN f m ≤ sumN f (m + d)
  | 0 => Nat.le_refl _
  | d + 1 => by
    have h := sum_up (f := f) (m := m) d
    have e : sumN f (m + (d + 1)) = sumN f (m + d) + f (m + d) := rfl
    omega
theorem sum_mono {f : Nat → Nat} {m n : Nat} (h : m ≤ n) : sumN f m ≤ sumN f n := by
  have h2 := sum_up (f := f) (m := m) (n - m)
  rw [show m + (n - m) = n by omega] at h2
  exact h2
theorem sum_cut {f : Nat → Nat} {P : Nat} (h : ∀ i, P ≤ i → f i = 0) : ∀ d, sumN f (P + d) = sumN f P
  | 0 => rfl
  | d + 1 => by
    have h1 := sum_cut h d
    have e : sumN f (P + (d + 1)) = sumN f (P + d) + f (P + d) := rfl
    rw [e, h1, h (P + d) (by omega), Nat.add_zero]
theorem sum_bd {f : Nat → Nat} {B P : Nat} : ∀ n, n ≤ P → (∀ i, i < P → f i ≤ B) → sumN f n ≤ n * B
  | 0, _, _ => by simp [sumN]
  | n + 1, hn, h => by
    have h1 := sum_bd n (by omega) h
    have h2 := h n (by omega)
    have h3 : (n + 1) * B = n * B + B := Nat.succ_mul n B
    rw [sum_s]
    omega
/-! by lot -/
def cj (V : Nat → Nat) (e g a : Nat) : Nat := V a * g + (if a = 0 then 0 else V (a - 1)) * e
def LV (e : Nat → Nat) (p : Nat) : Nat → Nat → Nat
  | 0 => fun a => if a = 0 then 1 else 0
  | o + 1 => if o = p then LV e p o else cj (LV e p o) (e o) (10 - e o)
def WL (e : Nat → Nat) (p : Nat) : Nat → Nat → Nat → Nat
  | 0 => dl0
  | o + 1 => if o = p then WL e p o else jn (WL e p o) 0 (e o) 0 (10 - e o)
theorem LV_s (e : Nat → Nat) (p o : Nat) : LV e p (o + 1) = if o = p then LV e p o else cj (LV e p o) (e o) (10 - e o) := rfl
theorem WL_s (e : Nat → Nat) (p o : Nat) : WL e p (o + 1) = if o = p then WL e p o else jn (WL e p o) 0 (e o) 0 (10 - e o) := rfl
theorem WL_0 (e : Nat → Nat) (p : Nat) : ∀ o a, WL e p o a 0 = LV e p o a
  | 0, a => by
    show dl0 a 0 = if a = 0 then 1 else 0
    unfold dl0
    by_cases c : a = 0 <;> simp [c]
  | o + 1, a => by
    have h := WL_0 e p o
    rw [WL_s, LV_s]
    by_cases c : o = p
    · rw [if_pos c, if_pos c]; exact h a
    · rw [if_neg c, if_neg c]
      unfold jn cj
      rw [h a, h (a - 1), Nat.mul_zero, Nat.mul_zero, Nat.add_zero, Nat.add_zero]
theorem LV_0 (e : Nat → Nat) (p : Nat) : ∀ o a, (p < o → o ≤ a → LV e p o a = 0) ∧ (o < a → LV e p o a = 0)
  | 0, a => ⟨fun h => by omega, fun h => by
    show (if a = 0 then 1 else 0) = 0
    rw [if_neg (by omega)]⟩
  | o + 1, a => by
    have h := LV_0 e p o
    rw [LV_s]
    by_cases c : o = p
    · rw [if_pos c]
      exact ⟨fun h1 h2 => (h a).2 (by omega), fun h1 => (h a).2 (by omega)⟩
    · rw [if_neg c]
      unfold cj
      refine ⟨fun h1 h2 => ?_, fun h1 => ?_⟩
      · rw [(h a).1 (by omega) (by omega), if_neg (by omega), (h (a - 1)).1 (by omega) (by omega)]; simp
      · rw [(h a).2 (by omega), if_neg (by omega), (h (a - 1)).2 (by omega)]; simp
theorem cj_sum {V : Nat → Nat} {T : Nat} (h : sumN V 13 ≤ T) (e g : Nat) : sumN (cj V e g) 13 ≤ T * (g + e) := by
  have e1 : sumN (cj V e g) 13 = sumN (fun a => V a * g + shf V a * e) 13 := rfl
  rw [e1, sum_2]
  have h2 := Nat.le_trans (sum_shf_le V 13) h
  have g1 := Nat.mul_le_mul_right g h
  have g2 := Nat.mul_le_mul_right e h2
  rw [Nat.mul_add]
  omega
theorem LV_le {e : Nat → Nat} {P : Nat} (he : ∀ o, o < P → e o ≤ 10) (p : Nat) : ∀ o, o ≤ P → sumN (LV e p o) 13 ≤ 10 ^ o ∧ (p < o → 10 * sumN (LV e p o) 13 ≤ 10 ^ o)
  | 0, _ => ⟨by
    have e1 : sumN (LV e p 0) 13 = 1 := rfl
    rw [e1]; decide, fun h => by omega⟩
  | o + 1, ho => by
    obtain ⟨h1, h2⟩ := LV_le he p o (by omega)
    have h10 : 10 ^ (o + 1) = 10 ^ o * 10 := Nat.pow_succ ..
    rw [LV_s, h10]
    by_cases c : o = p
    · rw [if_pos c]
      exact ⟨by omega, fun _ => by omega⟩
    · rw [if_neg c]
      have ho2 := he o (by omega)
      have h3 := cj_sum (Nat.le_refl (sumN (LV e p o) 13)) (e o) (10 - e o)
      rw [show 10 - e o + e o = 10 by omega] at h3
      exact ⟨by omega, fun hp => by have := h2 (by omega); omega⟩
def OL (e : Nat → Nat) (p P : Nat) : Nat := sumN (fun n => LV e p P n * (27720 / (n + 1))) P
theorem OL_le {e : Nat → Nat} {p P : Nat} (he : ∀ o, o < P → e o ≤ 10) (hP : P ≤ 12) (hp : p < P) : 10 * OL e p P ≤ 27720 * 10 ^ P := by
  have h1 := sum_mul_le (f := LV e p P) (g := fun n => 27720 / (n + 1)) (B := 27720) (fun i => Nat.div_le_self _ _) P
  have h2 := sum_mono (f := LV e p P) (m := P) (n := 13) (by omega)
  have h3 := (LV_le he p P (Nat.le_refl P)).2 hp
  have e1 : OL e p P = sumN (fun b => LV e p P b * (27720 / (b + 1))) P := rfl
  omega
theorem lot8 {e : Nat → Nat} {p P : Nat} {el : Nat → Int32} (he : ∀ o, o < P → e o ≤ 10) (hel : ∀ o, o < P → el o = nI (e o)) (hP : P ≤ 12) (hp : p < P) (c : Nat → Int64) : FX0_othersByLot (nI P) c el (nI p) = some (lN (OL e p P), lay c (WL e p P)) := by
  have hl : itr (fun v => FX0_othersByLot_S9 (nI P) el (nI p) v.1 v.2) fu ((0 : Int32), lay c dl0) = some (lay c (WL e p P)) := by
    refine itr_Q (P := P) (g := fun o => lay c (WL e p o)) (by omega) _ rfl (fun o ho => ?_) ?_
    · show FX0_othersByLot_S9 (nI P) el (nI p) (nI o) (lay c (WL e p o)) = _
      have co : (nI o = nI p) ↔ o = p := nI_eq (by omega) (by omega)
      have ho2 := he o ho
      unfold FX0_othersByLot_S9
      rw [if_neg (nI_ge ho (by omega)), nI_1, WL_s]
      by_cases h : o = p
      · rw [if_pos (co.mpr h), if_pos h]
      · rw [if_neg (fun y => h (co.mp y)), if_neg h, gat_n (by omega) (by decide), hel o ho, nI_l (by omega), ten_k ho2, show (0 : Int64) = lN 0 from rfl, join_n]
        rfl
    · show FX0_othersByLot_S9 (nI P) el (nI p) (nI P) _ = _
      unfold FX0_othersByLot_S9
      rw [if_pos (nI_le (Nat.le_refl P) (by omega))]
  have hs : itr (fun v => FX0_othersByLot_S63 (nI P) (lay c (WL e p P)) v.1 v.2) fu ((0 : Int64), (0 : Int32)) = some (lN (OL e p P)) := by
    refine itr_P (P := P) (g := fun j => lN (sumN (fun n => LV e p P n * (27720 / (n + 1))) j)) (by omega) 0 rfl (fun j hj => ?_) ?_
    · show FX0_othersByLot_S63 (nI P) (lay c (WL e p P)) (lN (sumN (fun n => LV e p P n * (27720 / (n + 1))) j)) (nI j) = _
      have hg : gget (lay c (WL e p P)) (nI j) (0 : Int32) = lN (LV e p P j) := by
        have h := gget_n (c := lay c (WL e p P)) (a := j) (b := 0) (by omega) (by decide)
        have h2 := lay_at (c := c) (W := WL e p P) (a := j) (b := 0) (by omega) (by decide)
        rw [← WL_0]
        exact h.trans h2
      unfold FX0_othersByLot_S63
      rw [if_neg (nI_ge hj (by omega)), hg, nI_1, share_n (by omega) (by omega), lN_mul, lN_add]
      rfl
    · show FX0_othersByLot_S63 (nI P) (lay c (WL e p P)) _ (nI P) = _
      unfold FX0_othersByLot_S63
      rw [if_pos (nI_le (Nat.le_refl P) (by omega))]
      rfl
  unfold FX0_othersByLot nmb
  rw [begin_n]
  dsimp only
  rw [hl, Option.bind_some, hs]
  rfl
/-- a row of 13 -/
def fil (V : Nat → Nat) (c : Nat → Int64) (n : Nat) : Nat → Int64 := fun i => if i < n then lN (V i) else c i
theorem fil_s (V : Nat → Nat) (c : Nat → Int64) (n : Nat) : vp_updL (fil V c n) n (lN (V n)) = fil V c (n + 1) := by
  funext i
  unfold vp_updL fil
  by_cases h1 : i = n
  · subst h1; rw [if_pos rfl, if_pos (by omega)]
  · rw [if_neg h1]
    by_cases h2 : i < n
    · rw [if_pos h2, if_pos (by omega)]
    · rw [if_neg h2, if_neg (by omega)]
theorem fil_0 (V : Nat → Nat) (c : Nat → Int64) : fil V c 0 = c := by
  funext i
  unfold fil
  rw [if_neg (by omega)]
theorem fil_at {V : Nat → Nat} {c : Nat → Int64} {n i : Nat} (h : i < n) : fil V c n i = lN (V i) := by
  unfold fil
  rw [if_pos h]
theorem fil_top (V U : Nat → Nat) (c : Nat → Int64) : swp (fil V c 13) (fil U c 13) 13 = fil V c 13 := by
  funext i
  unfold swp fil
  by_cases h : 13 ≤ i
  · rw [if_pos h, if_neg (by omega), if_neg (by omega)]
  · rw [if_neg h]
section LT
variable {e : Nat → Nat} {p P w : Nat} {mpu mmood : Int32} {mp md mt : Nat → Int32}
theorem lot9a (hup : FX9_upOf mmood mp md (nI p) (nI w) = some (nI (e p))) (he : e p ≤ 10) (c : Nat → Int64) : itr (fun v => FX9_takenOf_S105 mmood mp md (nI p) (nI w) v.1 v.2) fu ((0 : Int32), c) = some (fil (fun a => e p * LV e p 0 a) c 13) := by
  refine itr_Q (P := 13) (g := fun j => fil (fun a => e p * LV e p 0 a) c j) (by decide) _ (fil_0 _ _).symm (fun j hj => ?_) ?_
  · show FX9_takenOf_S105 mmood mp md (nI p) (nI w) (nI j) (fil (fun a => e p * LV e p 0 a) c j) = _
    have c0 : (nI j = 0) ↔ j = 0 := nI_eq (b := 0) (by omega) (by decide)
    have gi : ¬ (nI j < 0 ∨ 13 ≤ j) := gd2 hj (by decide)
    have fs := fil_s (fun a => e p * LV e p 0 a) c j
    unfold FX9_takenOf_S105 FX9_takenOf_J134L105
    rw [if_neg (gl 13 hj (by decide)), nI_clamp (by omega), if_neg gi, nI_1]
    by_cases h : j = 0
    · have ev : e p * LV e p 0 j = e p := by
        show e p * (if j = 0 then 1 else 0) = e p
        rw [if_pos h, Nat.mul_one]
      rw [ev] at fs
      rw [if_pos (c0.mpr h), hup, Option.bind_some, if_neg gi, nI_l (by omega), fs]
    · have ev : e p * LV e p 0 j = 0 := by
        show e p * (if j = 0 then 1 else 0) = 0
        rw [if_neg h, Nat.mul_zero]
      rw [ev] at fs
      rw [if_neg (fun y => h (c0.mp y)), show (0 : Int64) = lN 0 from rfl, fs]
  · show FX9_takenOf_S105 mmood mp md (nI p) (nI w) (nI 13) _ = _
    unfold FX9_takenOf_S105
    rw [if_pos (by decide)]
theorem lot9b {o : Nat} (hup : FX9_upOf mmood mp md (nI o) (nI w) = some (nI (e o))) (he : e o ≤ 10) (ho : o < 12) (hp : p < 12) (hne : ¬ o = p) (V : Nat → Nat) (c : Nat → Int64) : itr (fun v => FX9_takenOf_S157 mmood mp md (nI p) (nI w) (nI o) v.1 v.2) fu ((12 : Int32), fil V c 13) = some (fil (cj V (e o) (10 - e o)) c 13) := by
  refine itr_D (P := 13) (g := fun n => swp (fil V c 13) (fil (cj V (e o) (10 - e o)) c 13) n) (by decide) 12 (by decide) _ (fil_top _ _ _).symm (fun n hn => ?_) ?_
  · show FX9_takenOf_S157 mmood mp md (nI p) (nI w) (nI o) (nI n) (swp (fil V c 13) (fil (cj V (e o) (10 - e o)) c 13) (n + 1)) = _
    have co : ¬ nI o = nI p := fun y => hne ((nI_eq (by omega) (by omega)).mp y)
    have c0 : (nI n ≤ 0) ↔ n ≤ 0 := nI_leI (b := 0) (by omega) (by decide)
    have gi : ¬ (nI n < 0 ∨ 13 ≤ n) := gd2 hn (by decide)
    have ek : (nI (e o)).toInt64 = lN (e o) := nI_l (by omega)
    have ev : fil (cj V (e o) (10 - e o)) c 13 n = lN (V n * (10 - e o) + (if n = 0 then 0 else V (n - 1)) * e o) := fil_at hn
    have fs := swp_s (fil V c 13) (fil (cj V (e o) (10 - e o)) c 13) n
    rw [ev] at fs
    unfold FX9_takenOf_S157 FX9_takenOf_J220L157
    rw [if_neg (nI_pos (by omega)), if_neg co, nI_clamp (n := n) (by omega), if_neg gi, hup, Option.bind_some, Option.bind_some, ten_k he, ek, swp_a (by omega), fil_at hn, lN_mul, if_neg gi]
    cases n with
    | zero =>
      rw [if_pos (c0.mpr (Nat.le_refl 0)), show (0 : Int64) = lN 0 from rfl, lN_add]
      rw [if_pos rfl, Nat.zero_mul] at fs
      rw [fs]
    | succ n =>
      rw [if_neg (show ¬ n + 1 = 0 by omega), Nat.add_sub_cancel] at fs
      rw [if_neg (fun y => absurd (c0.mp y) (by omega)), nI_pred, gdI (by omega) (by decide), nI_clamp (n := n) (by omega), swp_a (by omega), fil_at (by omega), lN_mul, lN_add, if_neg gi, fs]
  · show FX9_takenOf_S157 mmood mp md (nI p) (nI w) (nI o) (-1 : Int32) (swp (fil V c 13) (fil (cj V (e o) (10 - e o)) c 13) 0) = _
    unfold FX9_takenOf_S157
    rw [if_pos (by decide), swp_0]
theorem cj_x (u : Nat) (V : Nat → Nat) (e g : Nat) : cj (fun a => u * V a) e g = fun a => u * cj V e g a := by
  funext a
  unfold cj
  by_cases h : a = 0
  · rw [if_pos h, if_pos h, Nat.mul_add, Nat.zero_mul, Nat.mul_assoc]; rfl
  · rw [if_neg h, if_neg h, Nat.mul_add, Nat.mul_assoc, Nat.mul_assoc]
theorem lot9c (hup : ∀ o, o < P → FX9_upOf mmood mp md (nI o) (nI w) = some (nI (e o))) (he : ∀ o, o < P → e o ≤ 10) (hP : P ≤ 12) (hp : p < P) (u : Nat) (c : Nat → Int64) : itr (fun v => FX9_takenOf_S144 (nI P) mmood mp md (nI p) (nI w) v.1 v.2) fu ((0 : Int32), fil (fun a => u * LV e p 0 a) c 13) = some (fil (fun a => u * LV e p P a) c 13) := by
  refine itr_Q (P := P) (g := fun o => fil (fun a => u * LV e p o a) c 13) (by omega) _ rfl (fun o ho => ?_) ?_
  · show FX9_takenOf_S144 (nI P) mmood mp md (nI p) (nI w) (nI o) (fil (fun a => u * LV e p o a) c 13) = _
    unfold FX9_takenOf_S144
    rw [if_neg (nI_ge ho (by omega)), nI_1, LV_s]
    by_cases h : o = p
    · have hi : itr (fun v => FX9_takenOf_S157 mmood mp md (nI p) (nI w) (nI o) v.1 v.2) fu ((12 : Int32), fil (fun a => u * LV e p o a) c 13) = some (fil (fun a => u * LV e p o a) c 13) := by
        refine itr_inr (n := 2999) ?_
        show FX9_takenOf_S157 mmood mp md (nI p) (nI w) (nI o) (12 : Int32) _ = _
        unfold FX9_takenOf_S157
        rw [if_neg (by decide), if_pos (by rw [h])]
      rw [hi, if_pos h]
      rfl
    · rw [lot9b (hup o ho) (he o ho) (by omega) (by omega) h, if_neg h, cj_x]
      rfl
  · show FX9_takenOf_S144 (nI P) mmood mp md (nI p) (nI w) (nI P) _ = _
    unfold FX9_takenOf_S144
    rw [if_pos (nI_le (Nat.le_refl P) (by omega))]
theorem lot9d (V : Nat → Nat) (c : Nat → Int64) : itr (fun v => FX9_takenOf_S240 (fil V c 13) v.1 v.2) fu ((0 : Int64), (0 : Int32)) = some (lN (sumN (fun n => V n * (27720 / (n + 1))) 12)) := by
  refine itr_P (P := 12) (g := fun j => lN (sumN (fun n => V n * (27720 / (n + 1))) j)) (by omega) 0 rfl (fun j hj => ?_) ?_
  · show FX9_takenOf_S240 (fil V c 13) (lN (sumN (fun n => V n * (27720 / (n + 1))) j)) (nI j) = _
    have hne : ¬ (nI (j + 1)).toInt64 = 0 := by
      rw [nI_l (by omega)]
      exact fun y => absurd ((pk_lEQ (b := 0) (by omega) (by decide)).mp y) (by omega)
    unfold FX9_takenOf_S240 nmb
    rw [if_neg (gl 12 hj (by decide)), gdI (by omega) (by decide), nI_1, if_neg hne, all_n (by omega) (by omega), nI_clamp (by omega), fil_at (by omega), lN_mul, lN_add]
    rfl
  · show FX9_takenOf_S240 (fil V c 13) _ (nI 12) = _
    unfold FX9_takenOf_S240
    rw [if_pos (by decide)]
theorem lot_eq (hP : P ≤ 12) (hp : p < P) (u : Nat) : sumN (fun n => u * LV e p P n * (27720 / (n + 1))) 12 = u * OL e p P := by
  have h1 := sum_x u (fun n => LV e p P n * (27720 / (n + 1))) 12
  have h2 : sumN (fun n => LV e p P n * (27720 / (n + 1))) 12 = OL e p P := by
    have h := sum_cut (f := fun n => LV e p P n * (27720 / (n + 1))) (P := P) (fun i hi => by
      show LV e p P i * (27720 / (i + 1)) = 0
      rw [(LV_0 e p P i).1 hp hi, Nat.zero_mul]) (12 - P)
    rw [show P + (12 - P) = 12 by omega] at h
    exact h
  rw [← h2, ← h1]
  exact sum_c 12 (fun i _ => Nat.mul_assoc _ _ _)
/-! by rank -/
def RV (e rk : Nat → Nat) (p : Nat) : Nat → Nat
  | 0 => 1
  | o + 1 => if o = p then RV e rk p o else RV e rk p o * (if rk o < rk p then 10 - e o else 10)
theorem RV_s (e rk : Nat → Nat) (p o : Nat) : RV e rk p (o + 1) = if o = p then RV e rk p o else RV e rk p o * (if rk o < rk p then 10 - e o else 10) := rfl
theorem RV_le (e rk : Nat → Nat) (p : Nat) : ∀ o, RV e rk p o ≤ 10 ^ o ∧ (p < o → 10 * RV e rk p o ≤ 10 ^ o)
  | 0 => ⟨Nat.le_refl 1, fun h => by omega⟩
  | o + 1 => by
    obtain ⟨h1, h2⟩ := RV_le e rk p o
    have h10 : 10 ^ (o + 1) = 10 ^ o * 10 := Nat.pow_succ ..
    rw [RV_s, h10]
    by_cases c : o = p
    · rw [if_pos c]
      exact ⟨by omega, fun _ => by omega⟩
    · rw [if_neg c]
      have h3 : RV e rk p o * (if rk o < rk p then 10 - e o else 10) ≤ RV e rk p o * 10 := Nat.mul_le_mul_left _ (by
        by_cases c2 : rk o < rk p
        · rw [if_pos c2]; omega
        · rw [if_neg c2]; exact Nat.le_refl _)
      exact ⟨by omega, fun hp => by have := h2 (by omega); omega⟩
theorem rank8 {rk : Nat → Nat} {el ranks : Nat → Int32} (he : ∀ o, o < P → e o ≤ 10) (hel : ∀ o, o < P → el o = nI (e o)) (hrk : ∀ o, o < P → rk o < 1000000 ∧ ranks o = nI (rk o)) (hP : P ≤ 12) (hp : p < P) : FX0_othersByRank (nI P) ranks el (nI p) = some (lN (RV e rk p P)) := by
  have hl : itr (fun v => FX0_othersByRank_S5 (nI P) ranks el (nI p) v.1 v.2) fu ((1 : Int64), (0 : Int32)) = some (lN (RV e rk p P)) := by
    refine itr_P (P := P) (g := fun o => lN (RV e rk p o)) (by omega) 1 rfl (fun o ho => ?_) ?_
    · show FX0_othersByRank_S5 (nI P) ranks el (nI p) (lN (RV e rk p o)) (nI o) = _
      have co : (nI o = nI p) ↔ o = p := nI_eq (by omega) (by omega)
      obtain ⟨k1, k2⟩ := hrk o ho
      obtain ⟨k3, k4⟩ := hrk p hp
      have cr : (nI (rk p) ≤ nI (rk o)) ↔ rk p ≤ rk o := nI_leI (by omega) (by omega)
      unfold FX0_othersByRank_S5 FX0_othersByRank_J45L5 FX0_othersByRank_J72L5
      rw [if_neg (nI_ge ho (by omega)), nI_1, RV_s]
      by_cases h : o = p
      · rw [if_pos (co.mpr h), if_pos h]
      · rw [if_neg (fun y => h (co.mp y)), if_neg h, gat_n (j := p) (by omega) (by decide), gat_n (f := ranks) (j := o) (by omega) (by decide), gat_n (f := el) (j := o) (by omega) (by decide), k2, k4, hel o ho, ten_k (he o ho)]
        by_cases h2 : rk o < rk p
        · rw [if_neg (fun y => absurd (cr.mp y) (by omega)), if_neg (show ¬ (1 : Int32) = 0 by decide), if_pos h2, lN_mul]
        · rw [if_pos (cr.mpr (by omega)), if_pos (show (0 : Int32) = 0 from rfl), if_neg h2, show (10 : Int64) = lN 10 from rfl, lN_mul]
    · show FX0_othersByRank_S5 (nI P) ranks el (nI p) _ (nI P) = _
      unfold FX0_othersByRank_S5
      rw [if_pos (nI_le (Nat.le_refl P) (by omega))]
  unfold FX0_othersByRank
  rw [hl]
  rfl
theorem rank9 {rk : Nat → Nat} {R : Int32} (hup : ∀ o, o < P → FX9_upOf mmood mp md (nI o) (nI w) = some (nI (e o))) (he : ∀ o, o < P → e o ≤ 10) (hA : ∀ o, o < P → FX9_isAhead mp mt (nI o) (nI p) R = some (decide (rk o < rk p))) (hP : P ≤ 12) (hp : p < P) (u : Nat) : itr (fun v => FX9_takenOf_S37 (nI P) mmood mp md mt (nI p) (nI w) R v.1 v.2) fu (lN u, (0 : Int32)) = some (lN (u * RV e rk p P)) := by
  refine itr_P (P := P) (g := fun o => lN (u * RV e rk p o)) (by omega) _ (by show lN u = lN (u * 1); rw [Nat.mul_one]) (fun o ho => ?_) ?_
  · show FX9_takenOf_S37 (nI P) mmood mp md mt (nI p) (nI w) R (lN (u * RV e rk p o)) (nI o) = _
    have co : (nI o = nI p) ↔ o = p := nI_eq (by omega) (by omega)
    unfold FX9_takenOf_S37 FX9_takenOf_J86L37
    rw [if_neg (nI_ge ho (by omega)), nI_1, RV_s]
    by_cases h : o = p
    · rw [if_pos (co.mpr h), if_pos h, show (1 : Int64) = lN 1 from rfl, lN_mul, Nat.mul_one]
    · rw [if_neg (fun y => h (co.mp y)), if_neg h, hA o ho, Option.bind_some, hup o ho, Option.bind_some, ten_k (he o ho), ← Nat.mul_assoc]
      by_cases h2 : rk o < rk p
      · rw [if_pos (decide_eq_true h2), if_pos h2, lN_mul]
      · rw [if_neg (by rw [decide_eq_false h2]; decide), if_neg h2, show (10 : Int64) = lN 10 from rfl, lN_mul]
  · show FX9_takenOf_S37 (nI P) mmood mp md mt (nI p) (nI w) R _ (nI P) = _
    unfold FX9_takenOf_S37
    rw [if_pos (nI_le (Nat.le_refl P) (by omega))]
end LT
/-! who is ahead -/
def ab (c : Nat) : Nat := if 5 ≤ 2 * c then 2 * c - 5 else 5 - 2 * c
def plc (c : Nat) : Nat := 10 * ab c + c
theorem ab_n : ∀ c, c < 6 → ((0 ≤ (2 : Int32) * nI c - (5 : Int32) ∧ (2 : Int32) * nI c - (5 : Int32) = nI (ab c)) ∨ (¬ 0 ≤ (2 : Int32) * nI c - (5 : Int32) ∧ -((2 : Int32) * nI c - (5 : Int32)) = nI (ab c) ∧ 0 - ((2 : Int32) * nI c - (5 : Int32)) = nI (ab c))) ∧ ab c ≤ 5 := by decide +kernel
theorem row_n {c : Nat} (hc : c < 6) : FX3_rankInRow (nI c) = nI (plc c) := by
  obtain ⟨h, -⟩ := ab_n c hc
  unfold FX3_rankInRow plc
  rcases h with ⟨h1, h2⟩ | ⟨h1, -, h2⟩
  · rw [if_pos h1, h2, Int32.mul_comm, nmul 10, nI_add]
  · rw [if_neg h1, h2, Int32.mul_comm, nmul 10, nI_add]
def rb (R : Nat) (r c q ti : Nat → Nat) (p : Nat) : Nat := if R = 0 then 100 * r p + plc (c p) else if R = 1 then q p else if R = 4 then ti p else 0
def rkN (R : Nat) (r c q ti : Nat → Nat) (p : Nat) : Nat := rb R r c q ti p * 12 + p
theorem j78 {A B o p : Nat} (hA : A < 100000) (hB : B < 100000) (ho : o < 12) (hp : p < 12) : FX9_isAhead_J78 (nI o) (nI p) (nI A) (nI B) = some (decide (A * 12 + o < B * 12 + p)) := by
  have c1 : (nI A < nI B) ↔ A < B := nI_ltI (by omega) (by omega)
  have c2 : (nI A = nI B) ↔ A = B := nI_eq (by omega) (by omega)
  have c3 : (nI p ≤ nI o) ↔ p ≤ o := nI_leI (by omega) (by omega)
  unfold FX9_isAhead_J78
  by_cases h1 : A < B
  · rw [if_pos (c1.mpr h1), decide_eq_true (show A * 12 + o < B * 12 + p by omega)]
  · rw [if_neg (fun y => h1 (c1.mp y))]
    by_cases h2 : A = B
    · rw [if_pos (c2.mpr h2)]
      by_cases h3 : p ≤ o
      · rw [if_pos (c3.mpr h3), decide_eq_false (show ¬ A * 12 + o < B * 12 + p by omega)]
      · rw [if_neg (fun y => h3 (c3.mp y)), decide_eq_true (show A * 12 + o < B * 12 + p by omega)]
    · rw [if_neg (fun y => h2 (c2.mp y)), decide_eq_false (show ¬ A * 12 + o < B * 12 + p by omega)]
section AH
variable {N P mo : Nat} {r c k q d f da ti : Nat → Nat} {lt rws cls tn nd td ld lti md mti mp : Nat → Int32} {pu mpu mood mmood : Int32}
theorem rb_lt (hR : RRos P r c k q d f lt rws cls tn nd td pu mpu mp) (hL : RLe N P da ti ld lti md mti) (hN : N < 4000) {p : Nat} (hp : p < P) (R : Nat) : rb R r c q ti p < 4000 := by
  obtain ⟨b1, b2, b3, b4, b5, b6⟩ := (hR.2.2.2 p hp).1
  have ht := (hL p hp).2.1
  have ha := (ab_n (c p) b2).2
  unfold rb plc
  by_cases h0 : R = 0
  · rw [if_pos h0]; omega
  · rw [if_neg h0]
    by_cases h1 : R = 1
    · rw [if_pos h1]; omega
    · rw [if_neg h1]
      by_cases h4 : R = 4
      · rw [if_pos h4]; omega
      · rw [if_neg h4]; decide
theorem rank_n (hR : RRos P r c k q d f lt rws cls tn nd td pu mpu mp) (hL : RLe N P da ti ld lti md mti) {p R : Nat} (hp : p < P) (hr : R ≤ 4) : FX3_rank rws cls nd lti (nI p) (nI R) = nI (rkN R r c q ti p) := by
  obtain ⟨⟨b1, b2, b3, b4, b5, b6⟩, -, ⟨hrw, hcl, -, hnd, -⟩, -⟩ := hR.2.2.2 p hp
  have hlt := (hL p hp).2.2.2.2.1
  have hP := hR.1
  have fin : ∀ x : Nat, nI x * (12 : Int32) + nI p = nI (x * 12 + p) := fun x => by rw [Int32.mul_comm, nmul 12, nI_add, Nat.mul_comm]
  unfold FX3_rank FX3_rankByRule rkN rb
  rw [gat_n (by omega) (by decide), gat_n (by omega) (by decide), gat_n (by omega) (by decide), gat_n (by omega) (by decide), hrw, hcl, hnd, hlt, row_n b2]
  have e0 : nI (r p) * (100 : Int32) + nI (plc (c p)) = nI (100 * r p + plc (c p)) := by rw [Int32.mul_comm, nmul 100, nI_add]
  rw [e0]
  rcases (show R = 0 ∨ R = 1 ∨ R = 2 ∨ R = 3 ∨ R = 4 by omega) with rfl | rfl | rfl | rfl | rfl
  · rw [if_pos (show nI 0 = (0 : Int32) from rfl), if_pos (show (0 : Nat) = 0 from rfl), fin]
  · rw [if_neg (show ¬ nI 1 = (0 : Int32) by decide), if_pos (show nI 1 = (1 : Int32) from rfl), if_neg (show ¬ (1 : Nat) = 0 by decide), if_pos (show (1 : Nat) = 1 from rfl), fin]
  · rw [if_neg (show ¬ nI 2 = (0 : Int32) by decide), if_neg (show ¬ nI 2 = (1 : Int32) by decide), if_pos (show nI 2 = (2 : Int32) from rfl), if_neg (show ¬ (2 : Nat) = 0 by decide), if_neg (show ¬ (2 : Nat) = 1 by decide), if_neg (show ¬ (2 : Nat) = 4 by decide)]
    exact fin 0
  · rw [if_neg (show ¬ nI 3 = (0 : Int32) by decide), if_neg (show ¬ nI 3 = (1 : Int32) by decide), if_neg (show ¬ nI 3 = (2 : Int32) by decide), if_pos (show nI 3 = (3 : Int32) from rfl), if_neg (show ¬ (3 : Nat) = 0 by decide), if_neg (show ¬ (3 : Nat) = 1 by decide), if_neg (show ¬ (3 : Nat) = 4 by decide)]
    exact fin 0
  · rw [if_neg (show ¬ nI 4 = (0 : Int32) by decide), if_neg (show ¬ nI 4 = (1 : Int32) by decide), if_neg (show ¬ nI 4 = (2 : Int32) by decide), if_neg (show ¬ nI 4 = (3 : Int32) by decide), if_pos (show nI 4 = (4 : Int32) from rfl), if_neg (show ¬ (4 : Nat) = 0 by decide), if_neg (show ¬ (4 : Nat) = 1 by decide), if_pos (show (4 : Nat) = 4 from rfl), fin]
theorem place_n (hR : RRos P r c k q d f lt rws cls tn nd td pu mpu mp) {p : Nat} (hp : p < P) : FX9_placeOf mp (nI p) = some (nI (100 * r p + plc (c p))) := by
  obtain ⟨⟨b1, b2, b3, b4, b5, b6⟩, -, -, q0, q1, -⟩ := hR.2.2.2 p hp
  have hP := hR.1
  obtain ⟨h, -⟩ := ab_n (c p) b2
  have e1 : (6 : Int32) * nI p + (1 : Int32) = nI (6 * p + 1) := x6 p 1
  have e0 : (6 : Int32) * nI p = nI (6 * p) := x6z p
  have g1 : ¬ (nI (6 * p + 1) < 0 ∨ 72 ≤ 6 * p + 1) := gd2 (by omega) (by decide)
  have g0 : ¬ (nI (6 * p) < 0 ∨ 72 ≤ 6 * p) := gd2 (by omega) (by decide)
  have fin : (100 : Int32) * nI (r p) + (10 : Int32) * nI (ab (c p)) + nI (c p) = nI (100 * r p + plc (c p)) := by
    rw [nmul 100, nmul 10, nI_add, nI_add]
    unfold plc
    rw [Nat.add_assoc]
  unfold FX9_placeOf FX9_placeOf_J40 nmb
  rw [e1, e0, nI_clamp (n := 6 * p + 1) (by omega), nI_clamp (n := 6 * p) (by omega), if_neg g1, if_neg g0, if_neg g1, if_neg g1, q0, q1]
  rcases h with ⟨h1, h2⟩ | ⟨h1, h2, -⟩
  · rw [if_pos h1, h2, fin]
  · rw [if_neg h1, h2, fin]
theorem ahead_n (hR : RRos P r c k q d f lt rws cls tn nd td pu mpu mp) (hL : RLe N P da ti ld lti md mti) (hN : N < 4000) {o p R : Nat} (ho : o < P) (hp : p < P) (hr : R = 0 ∨ R = 1 ∨ R = 4) : FX9_isAhead mp mti (nI o) (nI p) (nI R) = some (decide (rkN R r c q ti o < rkN R r c q ti p)) := by
  have hP := hR.1
  have k1 := rb_lt hR hL hN ho R
  have k2 := rb_lt hR hL hN hp R
  obtain ⟨-, -, -, -, -, -, q3, -, -⟩ := hR.2.2.2 o ho
  obtain ⟨-, -, -, -, -, -, t3, -, -⟩ := hR.2.2.2 p hp
  have mo1 := (hL o ho).2.2.2.2.2
  have mo2 := (hL p hp).2.2.2.2.2
  have e3 : (6 : Int32) * nI o + (3 : Int32) = nI (6 * o + 3) := x6 o 3
  have d3 : (6 : Int32) * nI p + (3 : Int32) = nI (6 * p + 3) := x6 p 3
  have h := j78 (A := rb R r c q ti o) (B := rb R r c q ti p) (o := o) (p := p) (by omega) (by omega) (by omega) (by omega)
  unfold FX9_isAhead FX9_isAhead_J38
  rcases hr with rfl | rfl | rfl
  · rw [if_neg (show ¬ nI 0 = (1 : Int32) by decide), if_neg (show ¬ nI 0 = (4 : Int32) by decide), place_n hR ho, Option.bind_some, if_neg (show ¬ nI 0 = (1 : Int32) by decide), if_neg (show ¬ nI 0 = (4 : Int32) by decide), place_n hR hp, Option.bind_some]
    exact h
  · rw [if_pos (show nI 1 = (1 : Int32) from rfl), e3, gdI (by omega) (by decide), if_pos (show nI 1 = (1 : Int32) from rfl), d3, gdI (by omega) (by decide), nI_clamp (by omega), nI_clamp (by omega), q3, t3]
    exact h
  · rw [if_neg (show ¬ nI 4 = (1 : Int32) by decide), if_pos (show nI 4 = (4 : Int32) from rfl), gdI (by omega) (by decide), if_neg (show ¬ nI 4 = (1 : Int32) by decide), if_pos (show nI 4 = (4 : Int32) from rfl), gdI (by omega) (by decide), nI_clamp (by omega), nI_clamp (by omega), mo1, mo2]
    exact h
end AH
set_option maxHeartbeats 1000000 in
set_option maxRecDepth 10000 in
theorem P_hands (N : Nat) (hN : N < 4000) (tx_length : Int32) (tx_bytes : Nat → Int32) (ro_pupils : Int32) (ro_mood : Int32) (ro_letters : Nat → Int32) (ro_rows : Nat → Int32) (ro_columns : Nat → Int32) (ro_tenths : Nat → Int32) (ro_needs : Nat → Int32) (ro_toldDares : Nat → Int32) (le_seed : Int64) (le_questions : Int32) (le_rightOnes : Int32) (le_wrongOnes : Int32) (le_isKept : Int32) (le_dares : Nat → Int32) (le_times : Nat → Int32) (ha_cells : Nat → Int64) (ch_pupils : Int32) (ch_rule : Int32) (ch_ranks : Nat → Int32) (ch_eligible : Nat → Int32) (ch_eligibleAndRight : Nat → Int32) (ch_cells : Nat → Int64) (s1_seed : Int64) (s1_questions : Int32) (s1_rightOnes : Int32) (s1_wrongOnes : Int32) (s1_isKept : Int32) (s1_dares : Nat → Int32) (s1_times : Nat → Int32) (s2_seed : Int64) (s2_questions : Int32) (s2_rightOnes : Int32) (s2_wrongOnes : Int32) (s2_isKept : Int32) (s2_dares : Nat → Int32) (s2_times : Nat → Int32) (ta_size : Int32) (ta_hands : Nat → Int32) (ta_ones : Nat → Int32) (ta_cells : Nat → Int64) (tr_waited : Int32) (tr_size : Int32) (tr_hands : Nat → Int32) (m_readMany : Int32) (m_pupils : Int32) (m_mood : Int32) (m_length : Int32) (m_at : Int32) (m_faultAt : Int32) (m_drawn : Int64) (m_questions : Int32) (m_rights : Int32) (m_wrongs : Int32) (m_tapes : Int32) (m_trials : Int32) (m_read : Nat → Int32) (m_pupil : Nat → Int32) (m_dares : Nat → Int32) (m_times : Nat → Int32) (m_text : Nat → Int32) (m_joint : Nat → Int64) (m_others : Nat → Int64) (m_tapeHands : Nat → Int32) (m_tapeTaken : Nat → Int32) (m_trialHands : Nat → Int32) (m_trialWaited : Nat → Int32) (m_isKept : Nat → Int32) (m_keptDares : Nat → Int32) (m_keptTimes : Nat → Int32) (m_keptDrawn : Nat → Int64) (m_keptLesson : Nat → Int32) (p1 : Int32) (p2 : Int32) (p3 : Int32) (hb3 : p3 = 0 ∨ p3 = 1) (hR : Rel N tx_length tx_bytes ro_pupils ro_mood ro_letters ro_rows ro_columns ro_tenths ro_needs ro_toldDares le_seed le_questions le_rightOnes le_wrongOnes le_dares le_times s1_seed s1_questions s1_rightOnes s1_wrongOnes s1_isKept s1_dares s1_times s2_seed s2_questions s2_rightOnes s2_wrongOnes s2_isKept s2_dares s2_times ta_size ta_hands ta_ones tr_waited tr_size tr_hands m_pupils m_mood m_length m_drawn m_questions m_rights m_wrongs m_tapes m_trials m_pupil m_dares m_times m_text m_tapeHands m_tapeTaken m_trialHands m_trialWaited m_isKept m_keptDares m_keptTimes m_keptDrawn m_keptLesson) : ∃ (u : Int64 × (Nat → Int64)) (v : Int64 × (Nat → Int64)), FX8_hands ro_pupils ro_mood ro_letters ro_tenths ro_needs le_dares ha_cells p1 p2 p3 = some u ∧ FX9_hands m_pupils m_mood m_pupil m_dares m_joint p1 p2 p3 = some v ∧ u.1 = v.1 ∧ Rel (N + 1) tx_length tx_bytes ro_pupils ro_mood ro_letters ro_rows ro_columns ro_tenths ro_needs ro_toldDares le_seed le_questions le_rightOnes le_wrongOnes le_dares le_times s1_seed s1_questions s1_rightOnes s1_wrongOnes s1_isKept s1_dares s1_times s2_seed s2_questions s2_rightOnes s2_wrongOnes s2_isKept s2_dares s2_times ta_size ta_hands ta_ones tr_waited tr_size tr_hands m_pupils m_mood m_length m_drawn m_questions m_rights m_wrongs m_tapes m_trials m_pupil m_dares m_times m_text m_tapeHands m_tapeTaken m_trialHands m_trialWaited m_isKept m_keptDares m_keptTimes m_keptDrawn m_keptLesson := by
  have hR' := Rel_mono hR (Nat.le_succ N)
  obtain ⟨-, ⟨mo, hMo⟩, ⟨P, r, c, k, q, d, f, da, ti, hRo, hle, -, -⟩, -, -, -⟩ := hR
  have hP := hRo.1
  have key : ∃ (u v : Int64 × (Nat → Int64)), FX8_hands ro_pupils ro_mood ro_letters ro_tenths ro_needs le_dares ha_cells p1 p2 p3 = some u ∧ FX9_hands m_pupils m_mood m_pupil m_dares m_joint p1 p2 p3 = some v ∧ u.1 = v.1 := by
    unfold FX8_hands FX9_hands FX8_noSeconds FX9_isWait
    rcases rng p1 0 9 0 9 0 9 rfl rfl rfl rfl (by decide) (by decide) with ⟨g8, g9⟩ | ⟨w, -, hw, rfl, g8, g9⟩
    · rw [if_pos g8, if_neg g9]; exact ⟨_, _, rfl, rfl, rfl⟩
    · rw [if_neg g8, if_pos g9]
      rcases rng p2 0 12 0 12 0 12 rfl rfl rfl rfl (by decide) (by decide) with ⟨e8, e9⟩ | ⟨h, -, hh, rfl, e8, e9⟩
      · rw [if_pos e8, if_neg e9]; exact ⟨_, _, rfl, rfl, rfl⟩
      · rw [if_neg e8, if_pos e9, look8 hRo hle hMo hw, look9 hRo hle hMo hw, Option.bind_some, Option.bind_some, allOf_n (by omega), handsOf_n (by omega), Option.bind_some, Option.bind_some, hRo.2.1, hRo.2.2.1, ten_n hP, whole_n hP, Option.bind_some, Option.bind_some]
        have b1 := jW_le (y := yN mo da f q w) (z := zN mo da f) (k := k) (P := P) (fun p hp => Nat.le_of_lt (hRo.2.2.2 p hp).1.2.2.1) P (Nat.le_refl P) h
        have b2 := ten12 hP
        have b3 : 0 < 10 ^ P := Nat.pow_pos (by decide)
        rw [fr8 p3 (by omega) (by omega) b3, fr9 p3 (by omega) (by omega) b3]
        exact ⟨_, _, rfl, rfl, rfl⟩
  obtain ⟨u, v, a, b, e⟩ := key
  exact ⟨u, v, a, b, e, hR'⟩
set_option maxHeartbeats 1000000 in
set_option maxRecDepth 10000 in
theorem P_given (N : Nat) (hN : N < 4000) (tx_length : Int32) (tx_bytes : Nat → Int32) (ro_pupils : Int32) (ro_mood : Int32) (ro_letters : Nat → Int32) (ro_rows : Nat → Int32) (ro_columns : Nat → Int32) (ro_tenths : Nat → Int32) (ro_needs : Nat → Int32) (ro_toldDares : Nat → Int32) (le_seed : Int64) (le_questions : Int32) (le_rightOnes : Int32) (le_wrongOnes : Int32) (le_isKept : Int32) (le_dares : Nat → Int32) (le_times : Nat → Int32) (ha_cells : Nat → Int64) (ch_pupils : Int32) (ch_rule : Int32) (ch_ranks : Nat → Int32) (ch_eligible : Nat → Int32) (ch_eligibleAndRight : Nat → Int32) (ch_cells : Nat → Int64) (s1_seed : Int64) (s1_questions : Int32) (s1_rightOnes : Int32) (s1_wrongOnes : Int32) (s1_isKept : Int32) (s1_dares : Nat → Int32) (s1_times : Nat → Int32) (s2_seed : Int64) (s2_questions : Int32) (s2_rightOnes : Int32) (s2_wrongOnes : Int32) (s2_isKept : Int32) (s2_dares : Nat → Int32) (s2_times : Nat → Int32) (ta_size : Int32) (ta_hands : Nat → Int32) (ta_ones : Nat → Int32) (ta_cells : Nat → Int64) (tr_waited : Int32) (tr_size : Int32) (tr_hands : Nat → Int32) (m_readMany : Int32) (m_pupils : Int32) (m_mood : Int32) (m_length : Int32) (m_at : Int32) (m_faultAt : Int32) (m_drawn : Int64) (m_questions : Int32) (m_rights : Int32) (m_wrongs : Int32) (m_tapes : Int32) (m_trials : Int32) (m_read : Nat → Int32) (m_pupil : Nat → Int32) (m_dares : Nat → Int32) (m_times : Nat → Int32) (m_text : Nat → Int32) (m_joint : Nat → Int64) (m_others : Nat → Int64) (m_tapeHands : Nat → Int32) (m_tapeTaken : Nat → Int32) (m_trialHands : Nat → Int32) (m_trialWaited : Nat → Int32) (m_isKept : Nat → Int32) (m_keptDares : Nat → Int32) (m_keptTimes : Nat → Int32) (m_keptDrawn : Nat → Int64) (m_keptLesson : Nat → Int32) (p1 : Int32) (p2 : Int32) (p3 : Int32) (p4 : Int32) (hb4 : p4 = 0 ∨ p4 = 1) (hR : Rel N tx_length tx_bytes ro_pupils ro_mood ro_letters ro_rows ro_columns ro_tenths ro_needs ro_toldDares le_seed le_questions le_rightOnes le_wrongOnes le_dares le_times s1_seed s1_questions s1_rightOnes s1_wrongOnes s1_isKept s1_dares s1_times s2_seed s2_questions s2_rightOnes s2_wrongOnes s2_isKept s2_dares s2_times ta_size ta_hands ta_ones tr_waited tr_size tr_hands m_pupils m_mood m_length m_drawn m_questions m_rights m_wrongs m_tapes m_trials m_pupil m_dares m_times m_text m_tapeHands m_tapeTaken m_trialHands m_trialWaited m_isKept m_keptDares m_keptTimes m_keptDrawn m_keptLesson) : ∃ (u : Int64 × (Nat → Int64)) (v : Int64 × (Nat → Int64)), FX8_given ro_pupils ro_mood ro_letters ro_tenths ro_needs le_dares ha_cells p1 p2 p3 p4 = some u ∧ FX9_given m_pupils m_mood m_pupil m_dares m_joint p1 p2 p3 p4 = some v ∧ u.1 = v.1 ∧ Rel (N + 1) tx_length tx_bytes ro_pupils ro_mood ro_letters ro_rows ro_columns ro_tenths ro_needs ro_toldDares le_seed le_questions le_rightOnes le_wrongOnes le_dares le_times s1_seed s1_questions s1_rightOnes s1_wrongOnes s1_isKept s1_dares s1_times s2_seed s2_questions s2_rightOnes s2_wrongOnes s2_isKept s2_dares s2_times ta_size ta_hands ta_ones tr_waited tr_size tr_hands m_pupils m_mood m_length m_drawn m_questions m_rights m_wrongs m_tapes m_trials m_pupil m_dares m_times m_text m_tapeHands m_tapeTaken m_trialHands m_trialWaited m_isKept m_keptDares m_keptTimes m_keptDrawn m_keptLesson := by
  have hR' := Rel_mono hR (Nat.le_succ N)
  obtain ⟨-, ⟨mo, hMo⟩, ⟨P, r, c, k, q, d, f, da, ti, hRo, hle, -, -⟩, -, -, -⟩ := hR
  have hP := hRo.1
  have key : ∃ (u v : Int64 × (Nat → Int64)), FX8_given ro_pupils ro_mood ro_letters ro_tenths ro_needs le_dares ha_cells p1 p2 p3 p4 = some u ∧ FX9_given m_pupils m_mood m_pupil m_dares m_joint p1 p2 p3 p4 = some v ∧ u.1 = v.1 := by
    unfold FX8_given FX9_given FX8_noSeconds FX9_isWait
    rcases rng p1 0 9 0 9 0 9 rfl rfl rfl rfl (by decide) (by decide) with ⟨g8, g9⟩ | ⟨w, -, hw, rfl, g8, g9⟩
    · rw [if_pos g8, if_neg g9]; exact ⟨_, _, rfl, rfl, rfl⟩
    · rw [if_neg g8, if_pos g9]
      rcases rng p2 0 12 0 12 0 12 rfl rfl rfl rfl (by decide) (by decide) with ⟨e8, e9⟩ | ⟨h, -, hh, rfl, e8, e9⟩
      · rw [if_pos e8, if_neg e9]; exact ⟨_, _, rfl, rfl, rfl⟩
      · rw [if_neg e8, if_pos e9]
        rcases rng p3 0 12 0 12 0 12 rfl rfl rfl rfl (by decide) (by decide) with ⟨f8, f9⟩ | ⟨n, -, hn, rfl, f8, f9⟩
        · rw [if_pos f8, if_neg f9]; exact ⟨_, _, rfl, rfl, rfl⟩
        · have b1 := jW_le (y := yN mo da f q w) (z := zN mo da f) (k := k) (P := P) (fun p hp => Nat.le_of_lt (hRo.2.2.2 p hp).1.2.2.1) P (Nat.le_refl P) h
          have b2 := ten12 hP
          have b4 := sum_ge (f := jW (yN mo da f q w) (zN mo da f) k P h) (i := n) 13 (by omega)
          rw [if_neg f8, if_pos f9, look8 hRo hle hMo hw, look9 hRo hle hMo hw, Option.bind_some, Option.bind_some, allOf_n (by omega), handsOf_n (by omega), Option.bind_some, Option.bind_some]
          generalize hA : sumN (jW (yN mo da f q w) (zN mo da f) k P h) 13 = A at b1 b4
          by_cases c0 : A = 0
          · have z1 : ¬ (1 : Int64) ≤ lN A := by rw [c0]; decide
            have z2 : lN A = (0 : Int64) := by rw [c0]; rfl
            rw [if_neg z1, if_pos z2]
            exact ⟨_, _, rfl, rfl, rfl⟩
          · have z1 : (1 : Int64) ≤ lN A := (pk_lLE (a := 1) (by decide) (by omega)).mpr (by omega)
            have z2 : ¬ lN A = (0 : Int64) := fun y => c0 ((pk_lEQ (b := 0) (by omega) (by decide)).mp y)
            rw [if_pos z1, if_neg z2, gget_n (by omega) (by omega), x13, gdI (by omega) (by decide), nI_clamp (by omega), lay_at (by omega) (by omega), lay_at (by omega) (by omega), Option.bind_some, fr8 p4 (by omega) (by omega) (by omega), fr9 p4 (by omega) (by omega) (by omega)]
            exact ⟨_, _, rfl, rfl, rfl⟩
  obtain ⟨u, v, a, b, e⟩ := key
  exact ⟨u, v, a, b, e, hR'⟩
set_option maxHeartbeats 1000000 in
set_option maxRecDepth 10000 in
theorem P_likely (N : Nat) (hN : N < 4000) (tx_length : Int32) (tx_bytes : Nat → Int32) (ro_pupils : Int32) (ro_mood : Int32) (ro_letters : Nat → Int32) (ro_rows : Nat → Int32) (ro_columns : Nat → Int32) (ro_tenths : Nat → Int32) (ro_needs : Nat → Int32) (ro_toldDares : Nat → Int32) (le_seed : Int64) (le_questions : Int32) (le_rightOnes : Int32) (le_wrongOnes : Int32) (le_isKept : Int32) (le_dares : Nat → Int32) (le_times : Nat → Int32) (ha_cells : Nat → Int64) (ch_pupils : Int32) (ch_rule : Int32) (ch_ranks : Nat → Int32) (ch_eligible : Nat → Int32) (ch_eligibleAndRight : Nat → Int32) (ch_cells : Nat → Int64) (s1_seed : Int64) (s1_questions : Int32) (s1_rightOnes : Int32) (s1_wrongOnes : Int32) (s1_isKept : Int32) (s1_dares : Nat → Int32) (s1_times : Nat → Int32) (s2_seed : Int64) (s2_questions : Int32) (s2_rightOnes : Int32) (s2_wrongOnes : Int32) (s2_isKept : Int32) (s2_dares : Nat → Int32) (s2_times : Nat → Int32) (ta_size : Int32) (ta_hands : Nat → Int32) (ta_ones : Nat → Int32) (ta_cells : Nat → Int64) (tr_waited : Int32) (tr_size : Int32) (tr_hands : Nat → Int32) (m_readMany : Int32) (m_pupils : Int32) (m_mood : Int32) (m_length : Int32) (m_at : Int32) (m_faultAt : Int32) (m_drawn : Int64) (m_questions : Int32) (m_rights : Int32) (m_wrongs : Int32) (m_tapes : Int32) (m_trials : Int32) (m_read : Nat → Int32) (m_pupil : Nat → Int32) (m_dares : Nat → Int32) (m_times : Nat → Int32) (m_text : Nat → Int32) (m_joint : Nat → Int64) (m_others : Nat → Int64) (m_tapeHands : Nat → Int32) (m_tapeTaken : Nat → Int32) (m_trialHands : Nat → Int32) (m_trialWaited : Nat → Int32) (m_isKept : Nat → Int32) (m_keptDares : Nat → Int32) (m_keptTimes : Nat → Int32) (m_keptDrawn : Nat → Int64) (m_keptLesson : Nat → Int32) (p1 : Int32) (p2 : Int32) (hR : Rel N tx_length tx_bytes ro_pupils ro_mood ro_letters ro_rows ro_columns ro_tenths ro_needs ro_toldDares le_seed le_questions le_rightOnes le_wrongOnes le_dares le_times s1_seed s1_questions s1_rightOnes s1_wrongOnes s1_isKept s1_dares s1_times s2_seed s2_questions s2_rightOnes s2_wrongOnes s2_isKept s2_dares s2_times ta_size ta_hands ta_ones tr_waited tr_size tr_hands m_pupils m_mood m_length m_drawn m_questions m_rights m_wrongs m_tapes m_trials m_pupil m_dares m_times m_text m_tapeHands m_tapeTaken m_trialHands m_trialWaited m_isKept m_keptDares m_keptTimes m_keptDrawn m_keptLesson) : ∃ (u : Int32 × (Nat → Int64)) (v : Int32 × (Nat → Int64)), FX8_likely ro_pupils ro_mood ro_letters ro_tenths ro_needs le_dares ha_cells p1 p2 = some u ∧ FX9_likely m_pupils m_mood m_pupil m_dares m_joint p1 p2 = some v ∧ u.1 = v.1 ∧ Rel (N + 1) tx_length tx_bytes ro_pupils ro_mood ro_letters ro_rows ro_columns ro_tenths ro_needs ro_toldDares le_seed le_questions le_rightOnes le_wrongOnes le_dares le_times s1_seed s1_questions s1_rightOnes s1_wrongOnes s1_isKept s1_dares s1_times s2_seed s2_questions s2_rightOnes s2_wrongOnes s2_isKept s2_dares s2_times ta_size ta_hands ta_ones tr_waited tr_size tr_hands m_pupils m_mood m_length m_drawn m_questions m_rights m_wrongs m_tapes m_trials m_pupil m_dares m_times m_text m_tapeHands m_tapeTaken m_trialHands m_trialWaited m_isKept m_keptDares m_keptTimes m_keptDrawn m_keptLesson := by
  have hR' := Rel_mono hR (Nat.le_succ N)
  obtain ⟨-, ⟨mo, hMo⟩, ⟨P, r, c, k, q, d, f, da, ti, hRo, hle, -, -⟩, -, -, -⟩ := hR
  have hP := hRo.1
  have key : ∃ (u v : Int32 × (Nat → Int64)), FX8_likely ro_pupils ro_mood ro_letters ro_tenths ro_needs le_dares ha_cells p1 p2 = some u ∧ FX9_likely m_pupils m_mood m_pupil m_dares m_joint p1 p2 = some v ∧ u.1 = v.1 := by
    unfold FX8_likely FX9_likely FX8_noSeconds FX9_isWait
    rcases rng p1 0 9 0 9 0 9 rfl rfl rfl rfl (by decide) (by decide) with ⟨g8, g9⟩ | ⟨w, -, hw, rfl, g8, g9⟩
    · rw [if_pos g8, if_neg g9]; exact ⟨_, _, rfl, rfl, rfl⟩
    · rw [if_neg g8, if_pos g9]
      rcases rng p2 0 12 0 12 0 12 rfl rfl rfl rfl (by decide) (by decide) with ⟨e8, e9⟩ | ⟨h, -, hh, rfl, e8, e9⟩
      · rw [if_pos e8, if_neg e9]; exact ⟨_, _, rfl, rfl, rfl⟩
      · have b1 := jW_le (y := yN mo da f q w) (z := zN mo da f) (k := k) (P := P) (fun p hp => Nat.le_of_lt (hRo.2.2.2 p hp).1.2.2.1) P (Nat.le_refl P) h
        have b2 := ten12 hP
        rw [if_neg e8, if_pos e9, look8 hRo hle hMo hw, look9 hRo hle hMo hw, Option.bind_some, Option.bind_some, allOf_n (by omega), handsOf_n (by omega), Option.bind_some, Option.bind_some]
        generalize hA : sumN (jW (yN mo da f q w) (zN mo da f) k P h) 13 = A at b1
        by_cases c0 : A = 0
        · have z1 : ¬ (1 : Int64) ≤ lN A := by rw [c0]; decide
          have z2 : lN A = (0 : Int64) := by rw [c0]; rfl
          rw [if_neg z1, if_pos z2]
          exact ⟨_, _, rfl, rfl, rfl⟩
        · have z1 : (1 : Int64) ≤ lN A := (pk_lLE (a := 1) (by decide) (by omega)).mpr (by omega)
          have z2 : ¬ lN A = (0 : Int64) := fun y => c0 ((pk_lEQ (b := 0) (by omega) (by decide)).mp y)
          rw [if_pos z1, if_neg z2, like8 (by omega), like9 (by omega)]
          exact ⟨_, _, rfl, rfl, rfl⟩
  obtain ⟨u, v, a, b, e⟩ := key
  exact ⟨u, v, a, b, e, hR'⟩
set_option maxHeartbeats 1000000 in
set_option maxRecDepth 10000 in
theorem P_again (N : Nat) (hN : N < 4000) (tx_length : Int32) (tx_bytes : Nat → Int32) (ro_pupils : Int32) (ro_mood : Int32) (ro_letters : Nat → Int32) (ro_rows : Nat → Int32) (ro_columns : Nat → Int32) (ro_tenths : Nat → Int32) (ro_needs : Nat → Int32) (ro_toldDares : Nat → Int32) (le_seed : Int64) (le_questions : Int32) (le_rightOnes : Int32) (le_wrongOnes : Int32) (le_isKept : Int32) (le_dares : Nat → Int32) (le_times : Nat → Int32) (ha_cells : Nat → Int64) (ch_pupils : Int32) (ch_rule : Int32) (ch_ranks : Nat → Int32) (ch_eligible : Nat → Int32) (ch_eligibleAndRight : Nat → Int32) (ch_cells : Nat → Int64) (s1_seed : Int64) (s1_questions : Int32) (s1_rightOnes : Int32) (s1_wrongOnes : Int32) (s1_isKept : Int32) (s1_dares : Nat → Int32) (s1_times : Nat → Int32) (s2_seed : Int64) (s2_questions : Int32) (s2_rightOnes : Int32) (s2_wrongOnes : Int32) (s2_isKept : Int32) (s2_dares : Nat → Int32) (s2_times : Nat → Int32) (ta_size : Int32) (ta_hands : Nat → Int32) (ta_ones : Nat → Int32) (ta_cells : Nat → Int64) (tr_waited : Int32) (tr_size : Int32) (tr_hands : Nat → Int32) (m_readMany : Int32) (m_pupils : Int32) (m_mood : Int32) (m_length : Int32) (m_at : Int32) (m_faultAt : Int32) (m_drawn : Int64) (m_questions : Int32) (m_rights : Int32) (m_wrongs : Int32) (m_tapes : Int32) (m_trials : Int32) (m_read : Nat → Int32) (m_pupil : Nat → Int32) (m_dares : Nat → Int32) (m_times : Nat → Int32) (m_text : Nat → Int32) (m_joint : Nat → Int64) (m_others : Nat → Int64) (m_tapeHands : Nat → Int32) (m_tapeTaken : Nat → Int32) (m_trialHands : Nat → Int32) (m_trialWaited : Nat → Int32) (m_isKept : Nat → Int32) (m_keptDares : Nat → Int32) (m_keptTimes : Nat → Int32) (m_keptDrawn : Nat → Int64) (m_keptLesson : Nat → Int32) (p1 : Int32) (hR : Rel N tx_length tx_bytes ro_pupils ro_mood ro_letters ro_rows ro_columns ro_tenths ro_needs ro_toldDares le_seed le_questions le_rightOnes le_wrongOnes le_dares le_times s1_seed s1_questions s1_rightOnes s1_wrongOnes s1_isKept s1_dares s1_times s2_seed s2_questions s2_rightOnes s2_wrongOnes s2_isKept s2_dares s2_times ta_size ta_hands ta_ones tr_waited tr_size tr_hands m_pupils m_mood m_length m_drawn m_questions m_rights m_wrongs m_tapes m_trials m_pupil m_dares m_times m_text m_tapeHands m_tapeTaken m_trialHands m_trialWaited m_isKept m_keptDares m_keptTimes m_keptDrawn m_keptLesson) : ∃ (u : Int32 × (Nat → Int32) × (Nat → Int32) × Int64 × Int32 × Int32 × Int32) (v : Int32 × (Nat → Int32) × (Nat → Int32) × Int64 × Int32 × Int32 × Int32), FX8_again s1_seed s1_questions s1_rightOnes s1_wrongOnes s1_isKept s1_dares s1_times le_seed le_questions le_rightOnes le_wrongOnes le_dares le_times s2_seed s2_questions s2_rightOnes s2_wrongOnes s2_isKept s2_dares s2_times p1 = some u ∧ FX9_again m_drawn m_questions m_rights m_wrongs m_isKept m_keptDares m_dares m_keptTimes m_times m_keptDrawn m_keptLesson p1 = some v ∧ u.1 = v.1 ∧ Rel (N + 1) tx_length tx_bytes ro_pupils ro_mood ro_letters ro_rows ro_columns ro_tenths ro_needs ro_toldDares u.2.2.2.1 u.2.2.2.2.1 u.2.2.2.2.2.1 u.2.2.2.2.2.2 u.2.1 u.2.2.1 s1_seed s1_questions s1_rightOnes s1_wrongOnes s1_isKept s1_dares s1_times s2_seed s2_questions s2_rightOnes s2_wrongOnes s2_isKept s2_dares s2_times ta_size ta_hands ta_ones tr_waited tr_size tr_hands m_pupils m_mood m_length v.2.2.2.1 v.2.2.2.2.1 v.2.2.2.2.2.1 v.2.2.2.2.2.2 m_tapes m_trials m_pupil v.2.1 v.2.2.1 m_text m_tapeHands m_tapeTaken m_trialHands m_trialWaited m_isKept m_keptDares m_keptTimes m_keptDrawn m_keptLesson := by
  obtain ⟨hTx, hM, ⟨P, r, c, k, q, d, f, da, ti, hRo, hle, hs1, hs2⟩, hL, hTa, hTr⟩ := Rel_mono hR (Nat.le_succ N)
  have hP := hRo.1
  rcases rng p1 0 1 0 1 0 1 rfl rfl rfl rfl (by decide) (by decide) with ⟨g8, g9⟩ | ⟨s, -, hs, rfl, g8, g9⟩
  · exact ⟨(-1, le_dares, le_times, le_seed, le_questions, le_rightOnes, le_wrongOnes), (-1, m_dares, m_times, m_drawn, m_questions, m_rights, m_wrongs), by unfold FX8_again; rw [if_pos g8], by unfold FX9_again; rw [if_neg g9], rfl, hTx, hM, ⟨P, r, c, k, q, d, f, da, ti, hRo, hle, hs1, hs2⟩, hL, hTa, hTr⟩
  · rcases (show s = 0 ∨ s = 1 by omega) with rfl | rfl
    · have hs0 := hs1
      obtain ⟨e1, e2, e3⟩ := hs0
      rcases e2 with e2 | e2
      · have k9 : m_isKept 0 = 0 := by rw [← e1]; exact e2
        refine ⟨(-3, le_dares, le_times, le_seed, le_questions, le_rightOnes, le_wrongOnes), (-3, m_dares, m_times, m_drawn, m_questions, m_rights, m_wrongs), ?_, ?_, rfl, hTx, hM, ⟨P, r, c, k, q, d, f, da, ti, hRo, hle, hs1, hs2⟩, hL, hTa, hTr⟩
        · unfold FX8_again
          rw [if_neg g8, if_pos (show nI 0 = (0 : Int32) from rfl), if_pos e2]
        · unfold FX9_again
          rw [if_pos g9, gdI (by omega) (by decide), nI_clamp (n := 0) (by omega), if_pos k9]
      · have k8 : ¬ s1_isKept = 0 := by rw [e2]; decide
        have k9 : ¬ m_isKept 0 = 0 := by rw [← e1]; exact k8
        obtain ⟨⟨da2, ti2, h4⟩, h5, h6, h7, h8⟩ := e3 e2
        refine ⟨(s1_questions, cpN 12 s1_dares le_dares, cpN 12 s1_times le_times, s1_seed, s1_questions, s1_rightOnes, s1_wrongOnes), _, ?_, ag9 (by omega) g9 k9, ?_, hTx, hM, ⟨P, r, c, k, q, d, f, da2, ti2, hRo, RLe_cp hP h4, hs1, hs2⟩, ⟨h5, h6, h7, h8⟩, hTa, hTr⟩
        · unfold FX8_again
          rw [if_neg g8, if_pos (show nI 0 = (0 : Int32) from rfl), if_neg k8, become_n]
          rfl
        · exact h6
    · have hs0 := hs2
      obtain ⟨e1, e2, e3⟩ := hs0
      rcases e2 with e2 | e2
      · have k9 : m_isKept 1 = 0 := by rw [← e1]; exact e2
        refine ⟨(-3, le_dares, le_times, le_seed, le_questions, le_rightOnes, le_wrongOnes), (-3, m_dares, m_times, m_drawn, m_questions, m_rights, m_wrongs), ?_, ?_, rfl, hTx, hM, ⟨P, r, c, k, q, d, f, da, ti, hRo, hle, hs1, hs2⟩, hL, hTa, hTr⟩
        · unfold FX8_again
          rw [if_neg g8, if_neg (show ¬ nI 1 = (0 : Int32) by decide), if_pos e2]
        · unfold FX9_again
          rw [if_pos g9, gdI (by omega) (by decide), nI_clamp (n := 1) (by omega), if_pos k9]
      · have k8 : ¬ s2_isKept = 0 := by rw [e2]; decide
        have k9 : ¬ m_isKept 1 = 0 := by rw [← e1]; exact k8
        obtain ⟨⟨da2, ti2, h4⟩, h5, h6, h7, h8⟩ := e3 e2
        refine ⟨(s2_questions, cpN 12 s2_dares le_dares, cpN 12 s2_times le_times, s2_seed, s2_questions, s2_rightOnes, s2_wrongOnes), _, ?_, ag9 (by omega) g9 k9, ?_, hTx, hM, ⟨P, r, c, k, q, d, f, da2, ti2, hRo, RLe_cp hP h4, hs1, hs2⟩, ⟨h5, h6, h7, h8⟩, hTa, hTr⟩
        · unfold FX8_again
          rw [if_neg g8, if_neg (show ¬ nI 1 = (0 : Int32) by decide), if_neg k8, become_n]
          rfl
        · exact h6
