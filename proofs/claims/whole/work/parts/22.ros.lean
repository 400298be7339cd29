/-! small words: numbers against literals, one round of a loop -/
theorem gl (b : Nat) {a : Nat} (h : a < b) (hb : b < 2147483648) : ¬ (OfNat.ofNat b : Int32) ≤ nI a := nI_ge h hb
theorem nlL (a : Nat) {b : Nat} (h : b ≤ a) (ha : a < 2147483648) : ¬ (OfNat.ofNat a : Int32) < nI b := nI_nlt h ha
theorem lL (a : Nat) {b : Nat} (h : a ≤ b) (hb : b < 2147483648) : (OfNat.ofNat a : Int32) ≤ nI b := nI_le h hb
theorem ltL (b : Nat) {a : Nat} (h : a < b) (hb : b < 2147483648) : nI a < (OfNat.ofNat b : Int32) := nI_lt h hb
theorem leL (b : Nat) {a : Nat} (h : a ≤ b) (hb : b < 2147483648) : nI a ≤ (OfNat.ofNat b : Int32) := nI_le h hb
theorem gd2 {i N : Nat} (h : i < N) (hN : N < 2147483648) : ¬ (nI i < 0 ∨ N ≤ i) := fun q => q.elim (nI_pos (by omega)) (by omega)
theorem itr_inr {α β : Type} {f : α → Option (α ⊕ β)} {n : Nat} {x : α} {r : β} (h : f x = some (.inr r)) : itr f (n + 1) x = some r := by
  simp only [itr, h]
theorem itr_inl {α β : Type} {f : α → Option (α ⊕ β)} {n : Nat} {x y : α} (h : f x = some (.inl y)) : itr f (n + 1) x = itr f n y := by
  simp only [itr, h]
/-- loops that count down from n - 1 to 0: g k is the state with k rounds before it -/
theorem itr_D {β : Type} {σ : Type} {f : Int32 × σ → Option ((Int32 × σ) ⊕ β)} {g : Nat → σ} {P : Nat} {r : β} (hP : P < 3000) (i0 : Int32) (hi : i0 = nI P - 1) (x : σ) (hx : x = g P) (h1 : ∀ k, k < P → f (nI k, g (k + 1)) = some (.inl (nI k + (-1 : Int32), g k))) (h2 : f ((-1 : Int32), g 0) = some (.inr r)) : itr f fu (i0, x) = some r := by
  refine itr_cnt (g := fun k => (nI (P - k) - 1, g (P - k))) (e := P) (fu_le hP) (by rw [hi, hx]; rfl) (fun k hk => ?_) ?_
  · obtain ⟨m, hm⟩ : ∃ m, P - k = m + 1 := ⟨P - k - 1, by omega⟩
    have hm2 : P - (k + 1) = m := by omega
    show f (nI (P - k) - 1, g (P - k)) = some (.inl (nI (P - (k + 1)) - 1, g (P - (k + 1))))
    rw [hm, hm2, nI_pred, h1 m (by omega), Int32.sub_eq_add_neg]
  · show f (nI (P - P) - 1, g (P - P)) = _
    rw [Nat.sub_self]
    exact h2
section RO
variable {N P mo : Nat} {r c k q d f da ti : Nat → Nat} {lt rws cls tn nd td ld lti md mti mp : Nat → Int32} {pu mpu mood mmood : Int32}
theorem ro_up (hR : RRos P r c k q d f lt rws cls tn nd td pu mpu mp) (hL : RLe N P da ti ld lti md mti) (hM : RMo mo mood mmood) {p w : Nat} (hp : p < P) (hw : w ≤ 9) : FX3_upTenths mood lt nd ld tn (nI p) (nI w) = nI (upN mo (da p) (f p) (q p) (k p) w) := by
  obtain ⟨hP, hpu, hmpu, hro⟩ := hR
  obtain ⟨⟨b1, b2, b3, b4, b5, b6⟩, hlt, ⟨hrw, hcl, htn, hnd, htd⟩, q0, q1, q2, q3, q4, q5⟩ := hro p hp
  obtain ⟨hd9, -, hld, hmd, -, -⟩ := hL p hp
  exact upTenths_n (by omega) hM.2.1 hM.1 hld hd9 hlt hnd b4 htn b3 hw
theorem mo_up (hR : RRos P r c k q d f lt rws cls tn nd td pu mpu mp) (hL : RLe N P da ti ld lti md mti) (hM : RMo mo mood mmood) {p w : Nat} (hp : p < P) (hw : w ≤ 9) : FX9_upOf mmood mp md (nI p) (nI w) = some (nI (upN mo (da p) (f p) (q p) (k p) w)) := by
  obtain ⟨hP, hpu, hmpu, hro⟩ := hR
  obtain ⟨⟨b1, b2, b3, b4, b5, b6⟩, hlt, ⟨hrw, hcl, htn, hnd, htd⟩, q0, q1, q2, q3, q4, q5⟩ := hro p hp
  obtain ⟨hd9, -, hld, hmd, -, -⟩ := hL p hp
  exact upOf_n (by omega) hM.2.2 hM.1 hmd hd9 q5 b6 q3 b4 q2 hw
theorem ro_isUp (hR : RRos P r c k q d f lt rws cls tn nd td pu mpu mp) (hL : RLe N P da ti ld lti md mti) (hM : RMo mo mood mmood) {p w : Nat} {b : Int32} (hp : p < P) (hw : w ≤ 9) : FX3_isUp mood ld lt nd (nI p) b (nI w) = (decide (mo ≤ da p) && (decide (f p = 1) || (decide (¬ b = 0) && decide (q p ≤ w)))) := by
  obtain ⟨hP, hpu, hmpu, hro⟩ := hR
  obtain ⟨⟨b1, b2, b3, b4, b5, b6⟩, hlt, ⟨hrw, hcl, htn, hnd, htd⟩, -⟩ := hro p hp
  obtain ⟨hd9, -, hld, -, -, -⟩ := hL p hp
  exact isUp_n (by omega) hM.2.1 hM.1 hld hd9 hlt hnd b4 hw
theorem ro_all (hR : RRos P r c k q d f lt rws cls tn nd td pu mpu mp) (hL : RLe N P da ti ld lti md mti) (hM : RMo mo mood mmood) {w : Nat} (hw : w ≤ 9) : FX3_allUpTenths pu mood lt tn nd ld (nI w) = some (nI (sumN (fun p => upN mo (da p) (f p) (q p) (k p) w) P)) := by
  have hP := hR.1
  have hpu := hR.2.1
  unfold FX3_allUpTenths
  suffices hloop : itr (fun v => FX3_allUpTenths_S4 pu mood lt tn nd ld (nI w) v.1 v.2) fu ((0 : Int32), (0 : Int32)) = some (nI (sumN (fun p => upN mo (da p) (f p) (q p) (k p) w) P)) by
    rw [hloop]; rfl
  refine itr_P (P := P) (g := fun j => nI (sumN (fun p => upN mo (da p) (f p) (q p) (k p) w) j)) (by omega) 0 rfl (fun j hj => ?_) ?_
  · show FX3_allUpTenths_S4 pu mood lt tn nd ld (nI w) _ (nI j) = _
    unfold FX3_allUpTenths_S4
    rw [hpu, if_neg (nI_ge hj (by omega)), ro_up hR hL hM hj hw]
    show some (Sum.inl (nI _ + nI _, nI j + (1 : Int32))) = _
    rw [nI_add, nI_1]
    rfl
  · show FX3_allUpTenths_S4 pu mood lt tn nd ld (nI w) _ (nI P) = _
    unfold FX3_allUpTenths_S4
    rw [hpu, if_pos (nI_le (Nat.le_refl P) (by omega))]
theorem mo_all (hR : RRos P r c k q d f lt rws cls tn nd td pu mpu mp) (hL : RLe N P da ti ld lti md mti) (hM : RMo mo mood mmood) {w : Nat} (hw : w ≤ 9) : FX9_meanOf mpu mmood mp md (nI w) = some (nI (sumN (fun p => upN mo (da p) (f p) (q p) (k p) w) P)) := by
  have hP := hR.1
  have hpu := hR.2.2.1
  unfold FX9_meanOf
  suffices hloop : itr (fun v => FX9_meanOf_S4 mpu mmood mp md (nI w) v.1 v.2) fu ((0 : Int32), (0 : Int32)) = some (nI (sumN (fun p => upN mo (da p) (f p) (q p) (k p) w) P)) by
    rw [hloop]; rfl
  refine itr_P (P := P) (g := fun j => nI (sumN (fun p => upN mo (da p) (f p) (q p) (k p) w) j)) (by omega) 0 rfl (fun j hj => ?_) ?_
  · show FX9_meanOf_S4 mpu mmood mp md (nI w) _ (nI j) = _
    unfold FX9_meanOf_S4
    rw [hpu, if_neg (nI_ge hj (by omega)), mo_up hR hL hM hj hw]
    show some (Sum.inl (nI _ + nI _, nI j + (1 : Int32))) = _
    rw [nI_add, nI_1]
    rfl
  · show FX9_meanOf_S4 mpu mmood mp md (nI w) _ (nI P) = _
    unfold FX9_meanOf_S4
    rw [hpu, if_pos (nI_le (Nat.le_refl P) (by omega))]
theorem ro_silent (hR : RRos P r c k q d f lt rws cls tn nd td pu mpu mp) (hL : RLe N P da ti ld lti md mti) (hM : RMo mo mood mmood) {w : Nat} (hw : w ≤ 9) : FX3_allSilentTenths pu mood lt nd ld tn (nI w) = some (nI (sumN (fun p => if mayN mo (da p) (f p) (q p) w = true then 0 else k p) P)) := by
  have hP := hR.1
  have hpu := hR.2.1
  unfold FX3_allSilentTenths
  suffices hloop : itr (fun v => FX3_allSilentTenths_S4 pu mood lt nd ld tn (nI w) v.1 v.2) fu ((0 : Int32), (0 : Int32)) = some (nI (sumN (fun p => if mayN mo (da p) (f p) (q p) w = true then 0 else k p) P)) by
    rw [hloop]; rfl
  refine itr_P (P := P) (g := fun j => nI (sumN (fun p => if mayN mo (da p) (f p) (q p) w = true then 0 else k p) j)) (by omega) 0 rfl (fun j hj => ?_) ?_
  · show FX3_allSilentTenths_S4 pu mood lt nd ld tn (nI w) _ (nI j) = _
    unfold FX3_allSilentTenths_S4 FX3_allSilentTenths_J35L4
    have htn : tn j = nI (k j) := (hR.2.2.2 j hj).2.2.1.2.2.1
    rw [hpu, if_neg (nI_ge hj (by omega)), ro_isUp hR hL hM hj hw, gat_n (by omega) (by decide), htn]
    have e : (decide (mo ≤ da j) && (decide (f j = 1) || (decide (¬ (1 : Int32) = 0) && decide (q j ≤ w)))) = mayN mo (da j) (f j) (q j) w := by
      unfold mayN
      have h1 : decide (¬ (1 : Int32) = 0) = true := by decide
      rw [h1, Bool.true_and]
    rw [e]
    by_cases cm : mayN mo (da j) (f j) (q j) w = true
    · rw [if_pos cm, nI_1]
      simp only [sumN, cm, if_true]
      rw [show (0 : Int32) = nI 0 from rfl, nI_add]
    · rw [if_neg cm, nI_1, nI_add]
      simp only [sumN, if_neg cm]
  · show FX3_allSilentTenths_S4 pu mood lt nd ld tn (nI w) _ (nI P) = _
    unfold FX3_allSilentTenths_S4
    rw [hpu, if_pos (nI_le (Nat.le_refl P) (by omega))]
theorem mo_silentStep (hR : RRos P r c k q d f lt rws cls tn nd td pu mpu mp) (hL : RLe N P da ti ld lti md mti) (hM : RMo mo mood mmood) {w j s : Nat} (hw : w ≤ 9) (hj : j < P) : FX9_quiet_S14 mpu mmood md mp (nI w) (nI s) (nI j) = some (.inl (nI (s + (if mayN mo (da j) (f j) (q j) w = true then 0 else k j)), nI (j + 1))) := by
  obtain ⟨hP, hpu, hmpu, hro⟩ := hR
  obtain ⟨⟨b1, b2, b3, b4, b5, b6⟩, hlt, ⟨hrw, hcl, htn, hnd, htd⟩, q0, q1, q2, q3, q4, q5⟩ := hro j hj
  obtain ⟨hd9, -, hld, hmd, -, -⟩ := hL j hj
  unfold FX9_quiet_S14 FX9_quiet_J69L14 FX9_quiet_J65L14 FX9_quiet_J70L14 FX9_quiet_J93L14
  have e5 : (6 : Int32) * nI j + (5 : Int32) = nI (6 * j + 5) := x6 j 5
  have e3 : (6 : Int32) * nI j + (3 : Int32) = nI (6 * j + 3) := x6 j 3
  have e2 : (6 : Int32) * nI j + (2 : Int32) = nI (6 * j + 2) := x6 j 2
  have g5 : ¬ (nI (6 * j + 5) < 0 ∨ 72 ≤ 6 * j + 5) := gd2 (by omega) (by decide)
  have g1 : ¬ (nI j < 0 ∨ 12 ≤ j) := gd2 (by omega) (by decide)
  rw [hmpu, if_neg (nI_ge hj (by omega)), e5, e3, e2, nI_clamp (n := 6 * j + 5) (by omega), nI_clamp (n := 6 * j + 3) (by omega), nI_clamp (n := 6 * j + 2) (by omega), nI_clamp (n := j) (by omega), hmd, hM.2.2, q5, q3, q2]
  have c5 : (nI (f j) = (1 : Int32)) ↔ f j = 1 := nI_eq (by omega) (by decide)
  have hmo := hM.1
  have cd : (nI (da j) < nI mo) ↔ da j < mo := nI_ltI (by omega) (by omega)
  have cq : (nI w < nI (q j)) ↔ w < q j := nI_ltI (by omega) (by omega)
  have g3 : ¬ (nI (6 * j + 3) < 0 ∨ 72 ≤ 6 * j + 3) := by
    have h := vp_in_nI (n := 6 * j + 3) (N := 72) (by omega) (by decide)
    unfold vp_in at h
    rw [nI_clamp (by omega)] at h
    exact h
  have g2 : ¬ (nI (6 * j + 2) < 0 ∨ 72 ≤ 6 * j + 2) := by
    have h := vp_in_nI (n := 6 * j + 2) (N := 72) (by omega) (by decide)
    unfold vp_in at h
    rw [nI_clamp (by omega)] at h
    exact h
  have z1 : ¬ (1 : Int32) = 0 := by decide
  have s0 : nI s + (0 : Int32) = nI s := nadd s 0
  simp only [c5, cd, cq, if_neg g5, if_neg g1, if_neg g3, if_neg g2, nI_1, if_neg z1, if_true, nI_add, s0]
  unfold mayN
  by_cases c1 : mo ≤ da j
  · have c1' : ¬ da j < mo := by omega
    by_cases c2 : f j = 1
    · simp [c1, c1', c2]
    · by_cases c3 : q j ≤ w
      · have c3' : ¬ w < q j := by omega
        simp [c1, c1', c2, c3, c3']
      · have c3' : w < q j := by omega
        simp [c1, c1', c2, c3, c3']
  · have c1' : da j < mo := by omega
    simp [c1, c1']
theorem mo_silent (hR : RRos P r c k q d f lt rws cls tn nd td pu mpu mp) (hL : RLe N P da ti ld lti md mti) (hM : RMo mo mood mmood) {w : Nat} (hw : w ≤ 9) : itr (fun v => FX9_quiet_S14 mpu mmood md mp (nI w) v.1 v.2) fu ((0 : Int32), (0 : Int32)) = some (nI (sumN (fun p => if mayN mo (da p) (f p) (q p) w = true then 0 else k p) P)) := by
  have hP := hR.1
  have hpu := hR.2.2.1
  refine itr_P (P := P) (g := fun j => nI (sumN (fun p => if mayN mo (da p) (f p) (q p) w = true then 0 else k p) j)) (by omega) 0 rfl (fun j hj => ?_) ?_
  · exact mo_silentStep hR hL hM hw hj
  · show FX9_quiet_S14 mpu mmood md mp (nI w) _ (nI P) = _
    unfold FX9_quiet_S14
    rw [hpu, if_pos (nI_le (Nat.le_refl P) (by omega))]
end RO
theorem sum12 {f : Nat → Nat} {P : Nat} (hP : P ≤ 12) (h : ∀ i, f i ≤ 10) : sumN f P ≤ 120 := by
  have h1 := sumN_le h P
  have h2 : P * 10 ≤ 120 := by omega
  omega
