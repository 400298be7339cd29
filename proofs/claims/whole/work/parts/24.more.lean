/-! waiting, hands up, lessons told -/
def bestN (E : Nat → Int32) : Nat → Nat
  | 0 => 0
  | n + 1 => if E (n + 1) ≤ E (bestN E n) then bestN E n else n + 1
theorem bestN_le (E : Nat → Int32) : ∀ n, bestN E n ≤ n
  | 0 => Nat.le_refl 0
  | n + 1 => by
    have h := bestN_le E n
    simp only [bestN]
    by_cases c : E (n + 1) ≤ E (bestN E n)
    · rw [if_pos c]; omega
    · rw [if_neg c]; exact Nat.le_refl _
theorem bestN_s (E : Nat → Int32) (n : Nat) : bestN E (n + 1) = if E (n + 1) ≤ E (bestN E n) then bestN E n else n + 1 := rfl
section RW
variable {N P mo : Nat} {r c k q d f da ti : Nat → Nat} {lt rws cls tn nd td ld lti md mti mp : Nat → Int32} {pu mpu mood mmood : Int32}
def woN (v cc : Nat) (A : Nat → Nat) (w : Nat) : Int32 := nI v * nI (A w) - ((10 : Int32) * nI cc) * nI w
theorem ro_wait (hR : RRos P r c k q d f lt rws cls tn nd td pu mpu mp) (hL : RLe N P da ti ld lti md mti) (hM : RMo mo mood mmood) (v cc : Nat) : FX3_bestWait pu mood lt tn nd ld (nI v) (nI cc) = some (nI (bestN (woN v cc (fun w => sumN (fun p => upN mo (da p) (f p) (q p) (k p) w) P)) 9)) := by
  generalize hA : (fun w => sumN (fun p => upN mo (da p) (f p) (q p) (k p) w) P) = A
  have all : ∀ w, w ≤ 9 → FX3_allUpTenths pu mood lt tn nd ld (nI w) = some (nI (A w)) := fun w hw => by rw [← hA]; exact ro_all hR hL hM hw
  have h0 : FX3_allUpTenths pu mood lt tn nd ld (0 : Int32) = some (nI (A 0)) := all 0 (by decide)
  have hi : nI v * nI (A 0) = woN v cc A 0 := by
    unfold woN
    rw [nI_0, Int32.mul_zero, Int32.sub_zero]
  have hl : itr (fun x => FX3_bestWait_S14 pu mood lt tn nd ld (nI v) (nI cc) x.1 x.2.1 x.2.2) fu ((0 : Int32), nI v * nI (A 0), (1 : Int32)) = some (nI (bestN (woN v cc A) 9)) := by
    refine itr_cnt (g := fun j => (nI (bestN (woN v cc A) j), woN v cc A (bestN (woN v cc A) j), nI (j + 1))) (e := 9) (fu_le (by decide)) (by rw [hi]; rfl) (fun j hj => ?_) ?_
    · show FX3_bestWait_S14 pu mood lt tn nd ld (nI v) (nI cc) _ _ (nI (j + 1)) = _
      unfold FX3_bestWait_S14
      rw [if_neg (nlL 9 (by omega) (by decide)), all (j + 1) (by omega), Option.bind_some, nI_1]
      show (if woN v cc A (j + 1) ≤ _ then _ else some (Sum.inl (nI (j + 1), woN v cc A (j + 1), nI (j + 1 + 1)))) = _
      rw [bestN_s]
      by_cases cx : woN v cc A (j + 1) ≤ woN v cc A (bestN (woN v cc A) j)
      · rw [if_pos cx, if_pos cx]
      · rw [if_neg cx, if_neg cx]
    · show FX3_bestWait_S14 pu mood lt tn nd ld (nI v) (nI cc) _ _ (nI 10) = _
      unfold FX3_bestWait_S14
      rw [if_pos (by decide)]
  unfold FX3_bestWait
  rw [h0, Option.bind_some, hl]
  rfl
theorem mo_wait (hR : RRos P r c k q d f lt rws cls tn nd td pu mpu mp) (hL : RLe N P da ti ld lti md mti) (hM : RMo mo mood mmood) (v cc : Nat) : itr (fun x => FX9_await_S32 mpu mmood mp md (nI v) (nI cc) x.1 x.2) fu ((0 : Int32), (1 : Int32)) = some (nI (bestN (woN v cc (fun w => sumN (fun p => upN mo (da p) (f p) (q p) (k p) w) P)) 9)) := by
  generalize hA : (fun w => sumN (fun p => upN mo (da p) (f p) (q p) (k p) w) P) = A
  have all : ∀ w, w ≤ 9 → FX9_meanOf mpu mmood mp md (nI w) = some (nI (A w)) := fun w hw => by rw [← hA]; exact mo_all hR hL hM hw
  refine itr_cnt (g := fun j => (nI (bestN (woN v cc A) j), nI (j + 1))) (e := 9) (fu_le (by decide)) rfl (fun j hj => ?_) ?_
  · show FX9_await_S32 mpu mmood mp md (nI v) (nI cc) (nI (bestN (woN v cc A) j)) (nI (j + 1)) = _
    have hb := bestN_le (woN v cc A) j
    unfold FX9_await_S32
    rw [if_neg (gl 10 (by omega) (by decide)), all (j + 1) (by omega), Option.bind_some, all (bestN (woN v cc A) j) (by omega), Option.bind_some, nI_1]
    show (if woN v cc A (j + 1) ≤ woN v cc A (bestN (woN v cc A) j) then _ else _) = _
    rw [bestN_s]
    by_cases cx : woN v cc A (j + 1) ≤ woN v cc A (bestN (woN v cc A) j)
    · rw [if_pos cx, if_pos cx]
    · rw [if_neg cx, if_neg cx]
  · show FX9_await_S32 mpu mmood mp md (nI v) (nI cc) _ (nI 10) = _
    unfold FX9_await_S32
    rw [if_pos (by decide)]
/-- who is up, when these know -/
def whoN (mo : Nat) (da f q : Nat → Nat) (x w : Nat) (p : Nat) : Bool := decide (mo ≤ da p) && (decide (f p = 1) || (x.testBit p && decide (q p ≤ w)))
theorem ro_bits (hR : RRos P r c k q d f lt rws cls tn nd td pu mpu mp) (hL : RLe N P da ti ld lti md mti) (hM : RMo mo mood mmood) {x w : Nat} (hx : x < 2147483648) (hw : w ≤ 9) : FX3_upBits pu mood lt nd ld (nI x) (nI w) = some (nI (bN (whoN mo da f q x w) P)) := by
  have hP := hR.1
  have hpu := hR.2.1
  have hl : itr (fun v => FX3_upBits_S5 pu mood lt nd ld (nI x) (nI w) v.1 v.2) fu ((0 : Int32), (0 : Int32)) = some (nI (bN (whoN mo da f q x w) P)) := by
    refine itr_P (P := P) (g := fun j => nI (bN (whoN mo da f q x w) j)) (by omega) 0 rfl (fun j hj => ?_) ?_
    · show FX3_upBits_S5 pu mood lt nd ld (nI x) (nI w) _ (nI j) = _
      unfold FX3_upBits_S5
      have e : FX3_isUp mood ld lt nd (nI j) (bi (FX8_isIn (nI x) (nI j))) (nI w) = whoN mo da f q x w j := by
        rw [ro_isUp hR hL hM hj hw, isIn_n hx (by omega)]
        unfold whoN
        cases x.testBit j <;> simp [bi]
      rw [hpu, if_neg (nI_ge hj (by omega)), e, nI_1, ← bN_step (U := whoN mo da f q x w) (k := j) (by omega)]
      by_cases cx : whoN mo da f q x w j = true
      · rw [if_pos cx, if_pos cx]
      · rw [if_neg cx, if_neg cx]
    · show FX3_upBits_S5 pu mood lt nd ld (nI x) (nI w) _ (nI P) = _
      unfold FX3_upBits_S5
      rw [hpu, if_pos (nI_le (Nat.le_refl P) (by omega))]
  unfold FX3_upBits
  rw [hl]
  rfl
theorem mo_bitStep (hR : RRos P r c k q d f lt rws cls tn nd td pu mpu mp) (hL : RLe N P da ti ld lti md mti) (hM : RMo mo mood mmood) {x w j s : Nat} (hx : x < 2147483648) (hw : w ≤ 9) (hj : j < P) : FX9_raisedOf_S5 mpu mmood mp md (nI x) (nI w) (nI s) (nI j) = some (.inl (if whoN mo da f q x w j = true then nI s ||| ((1 : Int32) <<< (nI j &&& 31)) else nI s, nI (j + 1))) := by
  obtain ⟨hP, hpu, hmpu, hro⟩ := hR
  obtain ⟨⟨b1, b2, b3, b4, b5, b6⟩, hlt, ⟨hrw, hcl, htn, hnd, htd⟩, q0, q1, q2, q3, q4, q5⟩ := hro j hj
  obtain ⟨hd9, -, hld, hmd, -, -⟩ := hL j hj
  have hmo := hM.1
  unfold FX9_raisedOf_S5 FX9_raisedOf_J56L5 FX9_raisedOf_J60L5 FX9_raisedOf_J61L5 FX9_raisedOf_J90L5 FX9_raisedOf_J91L5
  have e5 : (6 : Int32) * nI j + (5 : Int32) = nI (6 * j + 5) := x6 j 5
  have e3 : (6 : Int32) * nI j + (3 : Int32) = nI (6 * j + 3) := x6 j 3
  rw [hmpu, if_neg (nI_ge hj (by omega)), e5, e3, gdI (by omega) (by decide), nI_clamp (n := 6 * j + 5) (by omega), nI_clamp (n := 6 * j + 3) (by omega), nI_clamp (n := j) (by omega), hmd, hM.2.2, q5, q3, bit_n hx (by omega), bit_t]
  have c5 : (nI (f j) = (1 : Int32)) ↔ f j = 1 := nI_eq (by omega) (by decide)
  have cd : (nI (da j) < nI mo) ↔ da j < mo := nI_ltI (by omega) (by omega)
  have cq : (nI w < nI (q j)) ↔ w < q j := nI_ltI (by omega) (by omega)
  have g3 : ¬ (nI (6 * j + 3) < 0 ∨ 72 ≤ 6 * j + 3) := by
    have h := vp_in_nI (n := 6 * j + 3) (N := 72) (by omega) (by decide)
    unfold vp_in at h
    rw [nI_clamp (by omega)] at h
    exact h
  have g1 : ¬ (nI j < 0 ∨ 12 ≤ j) := by
    have h := vp_in_nI (n := j) (N := 12) (by omega) (by decide)
    unfold vp_in at h
    rw [nI_clamp (by omega)] at h
    exact h
  have z1 : ¬ (1 : Int32) = 0 := by decide
  have o0 : nI s ||| (0 : Int32) = nI s := Int32.or_zero
  have n1 : nI 1 = (1 : Int32) := rfl
  have n0 : ¬ nI 0 = (1 : Int32) := by decide
  simp only [c5, cd, cq, if_neg g3, if_neg g1, nI_1, if_neg z1, o0]
  unfold whoN
  by_cases c1 : mo ≤ da j
  · have c1' : ¬ da j < mo := by omega
    by_cases c2 : f j = 1
    · simp [c1, c1', c2]
    · by_cases c4 : x.testBit j = true
      · by_cases c3 : q j ≤ w
        · have c3' : ¬ w < q j := by omega
          simp [c1, c1', c2, c3, c3', c4, n1]
        · have c3' : w < q j := by omega
          simp [c1, c1', c2, c3, c3', c4, n1]
      · simp [c1, c1', c2, c4, n0]
  · have c1' : da j < mo := by omega
    by_cases c2 : f j = 1
    · simp [c1, c1', c2]
    · by_cases c4 : x.testBit j = true
      · by_cases c3 : q j ≤ w
        · have c3' : ¬ w < q j := by omega
          simp [c1, c1', c2, c3, c3', c4, n1]
        · have c3' : w < q j := by omega
          simp [c1, c1', c2, c3, c3', c4, n1]
      · simp [c1, c1', c2, c4, n0]
theorem mo_bits (hR : RRos P r c k q d f lt rws cls tn nd td pu mpu mp) (hL : RLe N P da ti ld lti md mti) (hM : RMo mo mood mmood) {x w : Nat} (hx : x < 2147483648) (hw : w ≤ 9) : FX9_raisedOf mpu mmood mp md (nI x) (nI w) = some (nI (bN (whoN mo da f q x w) P)) := by
  have hP := hR.1
  have hpu := hR.2.2.1
  have hl : itr (fun v => FX9_raisedOf_S5 mpu mmood mp md (nI x) (nI w) v.1 v.2) fu ((0 : Int32), (0 : Int32)) = some (nI (bN (whoN mo da f q x w) P)) := by
    refine itr_P (P := P) (g := fun j => nI (bN (whoN mo da f q x w) j)) (by omega) 0 rfl (fun j hj => ?_) ?_
    · show FX9_raisedOf_S5 mpu mmood mp md (nI x) (nI w) (nI (bN (whoN mo da f q x w) j)) (nI j) = _
      rw [mo_bitStep hR hL hM hx hw hj, bN_step (U := whoN mo da f q x w) (k := j) (by omega)]
    · show FX9_raisedOf_S5 mpu mmood mp md (nI x) (nI w) _ (nI P) = _
      unfold FX9_raisedOf_S5
      rw [hpu, if_pos (nI_le (Nat.le_refl P) (by omega))]
  unfold FX9_raisedOf
  rw [hl]
  rfl
end RW
theorem every_n {P : Nat} (hP : P ≤ 12) : ((1 : Int32) <<< (nI P &&& 31)) - (1 : Int32) = nI (2 ^ P - 1) := by
  rw [shl1 (by omega), show (1 : Int32) = nI 1 from rfl, pk_sub (Nat.one_le_two_pow)]
theorem pow12 {P : Nat} (hP : P ≤ 12) : 2 ^ P ≤ 4096 := by
  have h : 2 ^ P ≤ 2 ^ 12 := Nat.pow_le_pow_right (by decide) hP
  exact h
/-- what is known: bits of pupils -/
theorem rngK (p : Int32) (P : Nat) (hP : P ≤ 12) : (FX3_noBits (nI P) p = true ∧ ¬ FX9_isKnown (nI P) p = true) ∨ (∃ x : Nat, x < 2 ^ P ∧ p = nI x ∧ ¬ FX3_noBits (nI P) p = true ∧ FX9_isKnown (nI P) p = true) := by
  unfold FX3_noBits FX9_isKnown FX3_everyone
  rw [every_n hP]
  have h12 := pow12 hP
  have h1 : 1 ≤ 2 ^ P := Nat.one_le_two_pow
  rcases rngI p (0 : Int32) (nI (2 ^ P - 1)) (0 : Int64) (nI (2 ^ P - 1)).toInt64 rfl (Int32.toInt_toInt64 _) with h | ⟨c1, c2, c3, c4⟩
  · exact Or.inl h
  · obtain ⟨j, hj, rfl⟩ := nI_of2 (nI_toInt (by omega)) c3 c4
    exact Or.inr ⟨j, by omega, rfl, c1, c2⟩
