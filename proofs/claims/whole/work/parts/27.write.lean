/-! again: the slot's rows come back -/
theorem cpN_in {o p : Nat → Int32} {j : Nat} (h : j < 12) : cpN 12 o p j = o j := by
  unfold cpN
  rw [if_pos h]
theorem RLe_cp {N P : Nat} {da ti : Nat → Nat} {a b c d x y z w : Nat → Int32} (hP : P ≤ 12) (h : RLe N P da ti a b c d) : RLe N P da ti (cpN 12 a x) (cpN 12 b y) (cpN 12 c z) (cpN 12 d w) := fun p hp => by
  obtain ⟨h1, h2, h3, h4, h5, h6⟩ := h p hp
  rw [cpN_in (by omega), cpN_in (by omega), cpN_in (by omega), cpN_in (by omega)]
  exact ⟨h1, h2, h3, h4, h5, h6⟩
theorem ag9 {s : Nat} (hs : s < 2) {md : Int64} {mq mr mw : Int32} {mk kd kt da ti : Nat → Int32} {kx : Nat → Int64} {kl : Nat → Int32} (g9 : FX9_in (nI s).toInt64 (0 : Int64) (1 : Int64) = true) (hk : ¬ mk s = 0) : FX9_again md mq mr mw mk kd da kt ti kx kl (nI s) = some (kl (3 * s), cpN 12 (fun j => kd (12 * s + j)) da, cpN 12 (fun j => kt (12 * s + j)) ti, kx s, kl (3 * s), kl (3 * s + 1), kl (3 * s + 2)) := by
  unfold FX9_again
  have e1 : (3 : Int32) * nI s + (1 : Int32) = nI (3 * s + 1) := x3 s 1
  have e2 : (3 : Int32) * nI s + (2 : Int32) = nI (3 * s + 2) := x3 s 2
  have e0 : (3 : Int32) * nI s = nI (3 * s) := nmul 3 s
  rw [if_pos g9, e1, e2, e0, nI_clamp (n := s) (by omega), nI_clamp (n := 3 * s) (by omega), nI_clamp (n := 3 * s + 1) (by omega), nI_clamp (n := 3 * s + 2) (by omega), if_neg (gd2 hs (by decide)), if_neg hk, again9 hs, Option.bind_some, if_neg (gd2 hs (by decide)), if_neg (gd2 (by omega) (by decide)), if_neg (gd2 (by omega) (by decide)), if_neg (gd2 (by omega) (by decide))]
/-! write: the bytes of a long -/
theorem wb_byte {n k : Nat} (hk : k ≤ 56) : (lN n >>> ((nI k).toInt64 &&& 63)) &&& (255 : Int64) = lN (n / 2 ^ k % 256) := by
  rw [wb_c k (by omega)]
  apply wb_inj
  apply BitVec.eq_of_getLsbD_eq
  intro i hi
  have e1 : (lN n >>> lN k).toBitVec = (BitVec.ofNat 64 n).sshiftRight k := by
    rw [Int64.toBitVec_shiftRight, wb_tb, wb_tb, wb_sm k (by omega)]
    show BitVec.sshiftRight _ (BitVec.ofNat 64 k).toNat = _
    rw [BitVec.toNat_ofNat, Nat.mod_eq_of_lt (by omega)]
  have e2 : (255 : Int64).toBitVec = BitVec.ofNat 64 (2 ^ 8 - 1) := by decide
  have e3 : n / 2 ^ k % 256 = n / 2 ^ k % 2 ^ 8 := rfl
  rw [Int64.toBitVec_and, e1, e2, wb_tb, e3, BitVec.getLsbD_and, BitVec.getLsbD_sshiftRight, BitVec.getLsbD_ofNat, BitVec.getLsbD_ofNat, BitVec.getLsbD_ofNat, Nat.testBit_two_pow_sub_one, Nat.testBit_mod_two_pow, Nat.testBit_div_two_pow]
  by_cases c : i < 8
  · have h1 : k + i < 64 := by omega
    have h3 : i + k < 64 := by omega
    have h2 : ¬ 64 ≤ i := by omega
    simp [c, h1, h2, h3, hi, Nat.add_comm]
  · simp [c]
theorem by8 {X r : Nat} (hX : X < 2 ^ 64) (hr : r < 8) : (((((lN X).toUInt64 >>> (((8 : Int32) * nI r).toInt64.toUInt64 &&& Int64.toUInt64 63)).toInt64).toInt32) &&& (255 : Int32)) = nI (X / 2 ^ (8 * r) % 256) := by
  rw [nmul 8 r, wb_shr hX (by omega), lN_i, pk_and (nI (X / 2 ^ (8 * r))) (m := 255) 8 (by decide)]
  have e : (nI (X / 2 ^ (8 * r))).toBitVec.toNat = X / 2 ^ (8 * r) % 2 ^ 32 := by
    show (BitVec.ofNat 32 (X / 2 ^ (8 * r))).toNat = _
    rw [BitVec.toNat_ofNat]
  rw [e]
  congr 1
  generalize X / 2 ^ (8 * r) = Y
  omega
theorem by9 {X r : Nat} (hr : r < 8) : (((lN X >>> (((8 : Int32) * nI r).toInt64 &&& 63)) &&& (255 : Int64)).toInt32) = nI (X / 2 ^ (8 * r) % 256) := by
  rw [nmul 8 r, wb_byte (by omega), lN_i]
def wrB (X n k : Nat) (tb : Nat → Int32) (r : Nat) : Nat → Int32 := fun j => if n ≤ j ∧ j < n + (k - r) then nI (X / 2 ^ (8 * (k - 1 - (j - n))) % 256) else tb j
theorem wrB_s {X n k r : Nat} (hr : r < k) (tb : Nat → Int32) : upd (wrB X n k tb (r + 1)) (n + (k - (r + 1))) (nI (X / 2 ^ (8 * r) % 256)) = wrB X n k tb r := by
  funext j
  unfold upd wrB
  by_cases c : j = n + (k - (r + 1))
  · have e : k - 1 - (j - n) = r := by omega
    rw [if_pos c, if_pos (by omega), e]
  · rw [if_neg c]
    by_cases c2 : n ≤ j ∧ j < n + (k - (r + 1))
    · rw [if_pos c2, if_pos (by omega)]
    · rw [if_neg c2, if_neg (by omega)]
theorem wrB_k (X n k : Nat) (tb : Nat → Int32) : wrB X n k tb k = tb := by
  funext j
  unfold wrB
  rw [if_neg (by omega)]
theorem wr8 {X n k : Nat} (hX : X < 2 ^ 64) (hk : k ≤ 8) (hn : n + k ≤ 72) (tb : Nat → Int32) : itr (fun v => FX6_append_S19 (lN X) v.1 v.2.1 v.2.2) fu (nI k - 1, tb, nI n) = some (wrB X n k tb 0, nI (n + k)) := by
  refine itr_D (P := k) (g := fun r => (wrB X n k tb r, nI (n + (k - r)))) (by omega) _ rfl (tb, nI n) (by rw [wrB_k, Nat.sub_self]; rfl) (fun r hr => ?_) ?_
  · show FX6_append_S19 (lN X) (nI r) (wrB X n k tb (r + 1)) (nI (n + (k - (r + 1)))) = _
    unfold FX6_append_S19 nmb
    have e : n + (k - (r + 1)) + 1 = n + (k - r) := by omega
    rw [if_neg (nI_pos (by omega)), by8 hX (by omega), gput_n (by omega) (by decide), nI_1, e, wrB_s hr]
  · show FX6_append_S19 (lN X) (-1 : Int32) (wrB X n k tb 0) (nI (n + (k - 0))) = _
    unfold FX6_append_S19
    rw [if_pos (by decide)]
    rfl
theorem wr9 {X n k : Nat} (hk : k ≤ 8) (hn : n + k ≤ 72) (tb : Nat → Int32) : itr (fun v => FX9_write_S34 (lN X) v.1 v.2.1 v.2.2) fu (nI k - 1, tb, nI n) = some (wrB X n k tb 0, nI (n + k)) := by
  refine itr_D (P := k) (g := fun r => (wrB X n k tb r, nI (n + (k - r)))) (by omega) _ rfl (tb, nI n) (by rw [wrB_k, Nat.sub_self]; rfl) (fun r hr => ?_) ?_
  · show FX9_write_S34 (lN X) (nI r) (wrB X n k tb (r + 1)) (nI (n + (k - (r + 1)))) = _
    unfold FX9_write_S34
    have e : n + (k - (r + 1)) + 1 = n + (k - r) := by omega
    rw [if_neg (nI_pos (by omega)), by9 (by omega), gdI (by omega) (by decide), nI_clamp (by omega), nI_1, e, wrB_s hr]
  · show FX9_write_S34 (lN X) (-1 : Int32) (wrB X n k tb 0) (nI (n + (k - 0))) = _
    unfold FX9_write_S34
    rw [if_pos (by decide)]
    rfl
