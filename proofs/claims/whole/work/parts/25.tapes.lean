/-! tapes, lessons, sticks, boards, trials -/
def mxN (t : Nat → Nat) : Nat → Nat
  | 0 => 0
  | n + 1 => if mxN t n < t n then t n else mxN t n
theorem mxN_le {t : Nat → Nat} {B P : Nat} (h : ∀ p, p < P → t p ≤ B) : ∀ n, n ≤ P → mxN t n ≤ B
  | 0, _ => Nat.zero_le _
  | n + 1, hn => by
    have h1 := mxN_le h n (by omega)
    have h2 := h n (by omega)
    simp only [mxN]
    by_cases c : mxN t n < t n
    · rw [if_pos c]; exact h2
    · rw [if_neg c]; exact h1
def zeN (t : Nat → Nat) : Nat → Nat := sumN (fun p => if t p = 0 then 1 else 0)
theorem never_n {N P : Nat} {da ti : Nat → Nat} {ld lti md mti : Nat → Int32} {pu : Int32} (hP : P ≤ 12) (hpu : pu = nI P) (hL : RLe N P da ti ld lti md mti) (hN : N < 4000) : FX3_neverTaken pu lti = some (nI (zeN ti P)) := by
  have hl : itr (fun v => FX3_neverTaken_S4 pu lti v.1 v.2) fu ((0 : Int32), (0 : Int32)) = some (nI (zeN ti P)) := by
    refine itr_P (P := P) (g := fun j => nI (zeN ti j)) (by omega) 0 rfl (fun j hj => ?_) ?_
    · show FX3_neverTaken_S4 pu lti (nI (zeN ti j)) (nI j) = _
      obtain ⟨-, ht, -, -, hlt, -⟩ := hL j hj
      unfold FX3_neverTaken_S4
      have c0 : (nI (ti j) = 0) ↔ ti j = 0 := nI_eq (b := 0) (by omega) (by decide)
      have ez : zeN ti (j + 1) = zeN ti j + (if ti j = 0 then 1 else 0) := rfl
      rw [hpu, if_neg (nI_ge hj (by omega)), gat_n (by omega) (by decide), hlt, nI_1, ez]
      by_cases c : ti j = 0
      · rw [if_pos (c0.mpr c), if_pos c, nI_1]
      · rw [if_neg (fun q => c (c0.mp q)), if_neg c, Nat.add_zero, nI_1]
    · show FX3_neverTaken_S4 pu lti _ (nI P) = _
      unfold FX3_neverTaken_S4
      rw [hpu, if_pos (nI_le (Nat.le_refl P) (by omega))]
  unfold FX3_neverTaken
  rw [hl]
  rfl
theorem most_n {N P : Nat} {da ti : Nat → Nat} {ld lti md mti : Nat → Int32} {pu : Int32} (hP : P ≤ 12) (hpu : pu = nI P) (hL : RLe N P da ti ld lti md mti) (hN : N < 4000) : FX3_mostTimes pu lti = some (nI (mxN ti P)) := by
  have hl : itr (fun v => FX3_mostTimes_S4 pu lti v.1 v.2) fu ((0 : Int32), (0 : Int32)) = some (nI (mxN ti P)) := by
    refine itr_P (P := P) (g := fun j => nI (mxN ti j)) (by omega) 0 rfl (fun j hj => ?_) ?_
    · show FX3_mostTimes_S4 pu lti (nI (mxN ti j)) (nI j) = _
      obtain ⟨-, ht, -, -, hlt, -⟩ := hL j hj
      have hm := mxN_le (t := ti) (fun p hp => (hL p hp).2.1) j (by omega)
      unfold FX3_mostTimes_S4
      have c0 : (nI (mxN ti j) < nI (ti j)) ↔ mxN ti j < ti j := nI_ltI (by omega) (by omega)
      have ez : mxN ti (j + 1) = if mxN ti j < ti j then ti j else mxN ti j := rfl
      rw [hpu, if_neg (nI_ge hj (by omega)), gat_n (by omega) (by decide), hlt, nI_1, ez]
      by_cases c : mxN ti j < ti j
      · rw [if_pos (c0.mpr c), if_pos c]
      · rw [if_neg (fun q => c (c0.mp q)), if_neg c]
    · show FX3_mostTimes_S4 pu lti _ (nI P) = _
      unfold FX3_mostTimes_S4
      rw [hpu, if_pos (nI_le (Nat.le_refl P) (by omega))]
  unfold FX3_mostTimes
  rw [hl]
  rfl
theorem lesson_n {N P : Nat} {da ti : Nat → Nat} {ld lti md mti : Nat → Int32} {pu : Int32} (hP : P ≤ 12) (hpu : pu = nI P) (hL : RLe N P da ti ld lti md mti) (hN : N < 4000) : itr (fun v => FX9_lesson_S7 pu mti v.1 v.2.1 v.2.2) fu ((0 : Int32), (0 : Int32), (0 : Int32)) = some (nI (zeN ti P), nI (mxN ti P)) := by
  refine itr_cnt (g := fun j => (nI (zeN ti j), nI (mxN ti j), nI j)) (e := P) (fu_le (by omega)) rfl (fun j hj => ?_) ?_
  · show FX9_lesson_S7 pu mti (nI (zeN ti j)) (nI (mxN ti j)) (nI j) = _
    obtain ⟨-, ht, -, -, -, hmt⟩ := hL j hj
    have hm := mxN_le (t := ti) (fun p hp => (hL p hp).2.1) j (by omega)
    unfold FX9_lesson_S7 FX9_lesson_J32L7
    have c0 : (nI (ti j) = 0) ↔ ti j = 0 := nI_eq (b := 0) (by omega) (by decide)
    have c1 : (nI (ti j) ≤ nI (mxN ti j)) ↔ ti j ≤ mxN ti j := nI_leI (by omega) (by omega)
    have ez : zeN ti (j + 1) = zeN ti j + (if ti j = 0 then 1 else 0) := rfl
    have em : mxN ti (j + 1) = if mxN ti j < ti j then ti j else mxN ti j := rfl
    have z0 : nI (zeN ti j) + (0 : Int32) = nI (zeN ti j) := nadd _ 0
    rw [hpu, if_neg (nI_ge hj (by omega)), gdI (by omega) (by decide), gdI (by omega) (by decide), gdI (by omega) (by decide), gdI (by omega) (by decide), gdI (by omega) (by decide), nI_clamp (by omega), hmt, nI_1, ez, em, nI_1, z0]
    by_cases c : ti j = 0
    · rw [if_pos (c0.mpr c), if_pos c]
      by_cases c2 : mxN ti j < ti j
      · rw [if_neg (fun q => absurd (c1.mp q) (by omega)), if_pos c2]
      · rw [if_pos (c1.mpr (by omega)), if_neg c2]
    · rw [if_neg (fun q => c (c0.mp q)), if_neg c]
      by_cases c2 : mxN ti j < ti j
      · rw [if_neg (fun q => absurd (c1.mp q) (by omega)), if_pos c2]
        rfl
      · rw [if_pos (c1.mpr (by omega)), if_neg c2]
        rfl
  · show FX9_lesson_S7 pu mti _ _ (nI P) = _
    unfold FX9_lesson_S7
    rw [hpu, if_pos (nI_le (Nat.le_refl P) (by omega))]
section TA
variable {T : Nat} {h o : Nat → Nat} {ts mT : Int32} {th to mh mto : Nat → Int32}
def caN (o : Nat → Nat) (G : Nat) : Nat → Nat := sumN (fun i => if G.testBit (o i) = true then 1 else 0)
theorem taken8 (hT : T ≤ 12) (hts : ts = nI T) (ho : ∀ i, i < T → o i < 12 ∧ to i = nI (o i)) {G : Nat} (hG : G < 4096) : FX5_takenOf ts to (nI G) = some (nI (caN o G T)) := by
  have hl : itr (fun v => FX5_takenOf_S4 ts to (nI G) v.1 v.2) fu ((0 : Int32), (0 : Int32)) = some (nI (caN o G T)) := by
    refine itr_P (P := T) (g := fun j => nI (caN o G j)) (by omega) 0 rfl (fun j hj => ?_) ?_
    · show FX5_takenOf_S4 ts to (nI G) (nI (caN o G j)) (nI j) = _
      obtain ⟨h1, h2⟩ := ho j hj
      unfold FX5_takenOf_S4
      have ez : caN o G (j + 1) = caN o G j + (if G.testBit (o j) = true then 1 else 0) := rfl
      rw [hts, if_neg (nI_ge hj (by omega)), gat_n (by omega) (by decide), h2, isIn_n (by omega) h1, nI_1, nI_1, ez]
      by_cases c : G.testBit (o j) = true
      · rw [if_pos c, if_pos c]
      · rw [if_neg c, if_neg c]
        rfl
    · show FX5_takenOf_S4 ts to (nI G) _ (nI T) = _
      unfold FX5_takenOf_S4
      rw [hts, if_pos (nI_le (Nat.le_refl T) (by omega))]
  unfold FX5_takenOf
  rw [hl]
  rfl
theorem taken9 (hT : T ≤ 12) (hts : mT = nI T) (ho : ∀ i, i < T → o i < 12 ∧ mto i = nI (o i)) {G : Nat} (hG : G < 4096) : FX9_cameOf mT mto (nI G) = some (nI (caN o G T)) := by
  have hl : itr (fun v => FX9_cameOf_S4 mT mto (nI G) v.1 v.2) fu ((0 : Int32), (0 : Int32)) = some (nI (caN o G T)) := by
    refine itr_P (P := T) (g := fun j => nI (caN o G j)) (by omega) 0 rfl (fun j hj => ?_) ?_
    · show FX9_cameOf_S4 mT mto (nI G) (nI (caN o G j)) (nI j) = _
      obtain ⟨h1, h2⟩ := ho j hj
      unfold FX9_cameOf_S4 nmb
      have ez : caN o G (j + 1) = caN o G j + (if G.testBit (o j) = true then 1 else 0) := rfl
      rw [hts, if_neg (nI_ge hj (by omega)), gdI (by omega) (by decide), nI_clamp (by omega), h2, bit_n (by omega) (by omega), bit_t, nI_add, nI_1, ez]
    · show FX9_cameOf_S4 mT mto (nI G) _ (nI T) = _
      unfold FX9_cameOf_S4
      rw [hts, if_pos (nI_le (Nat.le_refl T) (by omega))]
  unfold FX9_cameOf
  rw [hl]
  rfl
theorem pop_pos {x k n : Nat} (hk : k < n) (hx : x.testBit k = true) : 1 ≤ popN x n := by
  induction n with
  | zero => omega
  | succ n ih =>
    have e : popN x (n + 1) = popN x n + x / 2 ^ n % 2 := rfl
    by_cases c : k = n
    · subst c
      have h := bit_t x k
      rw [if_pos hx] at h
      omega
    · have h := ih (by omega)
      omega
def shN (h : Nat → Nat) (G : Nat) : Nat → Nat := sumN (fun i => popN (h i &&& G) 12 * (27720 / popN (h i) 12))
theorem shN_le (h : Nat → Nat) (G T : Nat) (hT : T ≤ 12) : shN h G T ≤ 3991680 := by
  have h1 := sumN_le (f := fun i => popN (h i &&& G) 12 * (27720 / popN (h i) 12)) (B := 332640) (fun i => by
    have a := popN_le (h i &&& G) 12
    have b : 27720 / popN (h i) 12 ≤ 27720 := Nat.div_le_self _ _
    have c := Nat.mul_le_mul a b
    omega) T
  have h2 : T * 332640 ≤ 12 * 332640 := Nat.mul_le_mul_right _ hT
  have e : shN h G T = sumN (fun i => popN (h i &&& G) 12 * (27720 / popN (h i) 12)) T := rfl
  omega
theorem due8 (hT : T ≤ 12) (hts : ts = nI T) (ho : ∀ i, i < T → 1 ≤ h i ∧ h i ≤ 4095 ∧ o i < 12 ∧ (h i).testBit (o i) = true ∧ th i = nI (h i)) {G : Nat} (hG : G < 4096) : FX5_sharesOf ts th (nI G) = some (lN (shN h G T)) := by
  have hl : itr (fun v => FX5_sharesOf_S5 ts th (nI G) v.1 v.2) fu ((0 : Int64), (0 : Int32)) = some (lN (shN h G T)) := by
    refine itr_P (P := T) (g := fun j => lN (shN h G j)) (by omega) 0 rfl (fun j hj => ?_) ?_
    · show FX5_sharesOf_S5 ts th (nI G) (lN (shN h G j)) (nI j) = _
      obtain ⟨h1, h2, h3, h4, h5⟩ := ho j hj
      have hpos := pop_pos h3 h4
      have hple := popN_le (h j) 12
      have hple2 := popN_le (h j &&& G) 12
      have hand : h j &&& G ≤ h j := Nat.and_le_left
      unfold FX5_sharesOf_S5 nmb
      have ez : shN h G (j + 1) = shN h G j + popN (h j &&& G) 12 * (27720 / popN (h j) 12) := rfl
      rw [hts, if_neg (nI_ge hj (by omega)), gat_n (by omega) (by decide), h5, and_n, bitCount_n (by omega), bitCount_n (by omega), share_n hpos hple, nI_l (by omega), lN_mul, lN_add, nI_1, ez]
    · show FX5_sharesOf_S5 ts th (nI G) _ (nI T) = _
      unfold FX5_sharesOf_S5
      rw [hts, if_pos (nI_le (Nat.le_refl T) (by omega))]
  unfold FX5_sharesOf
  rw [hl]
  rfl
theorem due9 (hT : T ≤ 12) (hts : mT = nI T) (ho : ∀ i, i < T → 1 ≤ h i ∧ h i ≤ 4095 ∧ o i < 12 ∧ (h i).testBit (o i) = true ∧ mh i = nI (h i)) {G : Nat} (hG : G < 4096) : itr (fun v => FX9_due_S16 mT mh (nI G) v.1 v.2) fu ((0 : Int64), (0 : Int32)) = some (lN (shN h G T)) := by
  refine itr_P (P := T) (g := fun j => lN (shN h G j)) (by omega) 0 rfl (fun j hj => ?_) ?_
  · show FX9_due_S16 mT mh (nI G) (lN (shN h G j)) (nI j) = _
    obtain ⟨h1, h2, h3, h4, h5⟩ := ho j hj
    have hpos := pop_pos h3 h4
    have hple := popN_le (h j) 12
    have hple2 := popN_le (h j &&& G) 12
    have hand : h j &&& G ≤ h j := Nat.and_le_left
    have hne : ¬ lN (popN (h j) 12) = (0 : Int64) := fun q => absurd ((pk_lEQ (b := 0) (by omega) (by decide)).mp q) (by omega)
    unfold FX9_due_S16
    have ez : shN h G (j + 1) = shN h G j + popN (h j &&& G) 12 * (27720 / popN (h j) 12) := rfl
    rw [hts, if_neg (nI_ge hj (by omega)), gdI (by omega) (by decide), nI_clamp (by omega), h5, and_n, ones_n (by omega), Option.bind_some, if_neg (gd2 (N := 12) (by omega) (by decide)), ones_n (by omega), Option.bind_some, all_n hpos (by omega), nI_l (n := popN (h j) 12) (by omega), nI_l (by omega), if_neg hne, lN_mul, lN_add, nI_1, ez]
  · show FX9_due_S16 mT mh (nI G) _ (nI T) = _
    unfold FX9_due_S16
    rw [hts, if_pos (nI_le (Nat.le_refl T) (by omega))]
end TA
/-- sticks -/
def stN (n : Nat) : Nat → Nat := sumN (fun i => n * (27720 / (i + 1)))
theorem stN_le (n T : Nat) (hn : n ≤ 12) (hT : T ≤ 12) : stN n T ≤ 3991680 := by
  have h1 := sumN_le (f := fun i => n * (27720 / (i + 1))) (B := 332640) (fun i => by
    have b : 27720 / (i + 1) ≤ 27720 := Nat.div_le_self _ _
    have c := Nat.mul_le_mul hn b
    omega) T
  have h2 : T * 332640 ≤ 12 * 332640 := Nat.mul_le_mul_right _ hT
  have e : stN n T = sumN (fun i => n * (27720 / (i + 1))) T := rfl
  omega
theorem until8 {n : Nat} (hn : n ≤ 12) : itr (fun v => FX8_until_S19 (nI n) v.1 v.2) fu ((0 : Int64), (1 : Int32)) = some (lN (stN n n)) := by
  refine itr_cnt (g := fun j => (lN (stN n j), nI (j + 1))) (e := n) (fu_le (by omega)) rfl (fun j hj => ?_) ?_
  · show FX8_until_S19 (nI n) (lN (stN n j)) (nI (j + 1)) = _
    unfold FX8_until_S19
    have ez : stN n (j + 1) = stN n j + n * (27720 / (j + 1)) := rfl
    rw [if_neg (nI_nlt (b := j + 1) (a := n) (by omega) (by omega)), share_n (by omega) (by omega), nI_l (by omega), lN_mul, lN_add, nI_1, ez]
  · show FX8_until_S19 (nI n) _ (nI (n + 1)) = _
    unfold FX8_until_S19
    rw [if_pos (nI_lt (by omega) (by omega))]
theorem until9 {n : Nat} (hn : n ≤ 12) : itr (fun v => FX9_until_S21 (nI n) v.1 v.2) fu ((0 : Int64), (1 : Int32)) = some (lN (stN n n)) := by
  refine itr_cnt (g := fun j => (lN (stN n j), nI (j + 1))) (e := n) (fu_le (by omega)) rfl (fun j hj => ?_) ?_
  · show FX9_until_S21 (nI n) (lN (stN n j)) (nI (j + 1)) = _
    unfold FX9_until_S21
    have ez : stN n (j + 1) = stN n j + n * (27720 / (j + 1)) := rfl
    have hne : ¬ (nI (j + 1)).toInt64 = 0 := by
      rw [nI_l (by omega)]
      exact fun q => absurd ((pk_lEQ (b := 0) (by omega) (by decide)).mp q) (by omega)
    rw [if_neg (nI_nlt (b := j + 1) (a := n) (by omega) (by omega)), if_neg hne, all_n (by omega) (by omega), nI_l (by omega), lN_mul, lN_add, nI_1, ez]
  · show FX9_until_S21 (nI n) _ (nI (n + 1)) = _
    unfold FX9_until_S21
    rw [if_pos (nI_lt (by omega) (by omega))]
/-- binomials -/
def bin : Nat → Nat → Nat
  | _, 0 => 1
  | 0, _ + 1 => 0
  | n + 1, k + 1 => bin n k + bin n (k + 1)
theorem bin_0 (n : Nat) : bin n 0 = 1 := by cases n <;> rfl
theorem bin_s (n k : Nat) : bin (n + 1) (k + 1) = bin n k + bin n (k + 1) := rfl
theorem bin_m : ∀ (n k : Nat), bin (n + 1) (k + 1) * (k + 1) = (n + 1) * bin n k
  | 0, 0 => rfl
  | 0, k + 1 => by simp [bin]
  | n + 1, 0 => by
    have h := bin_m n 0
    rw [bin_s (n + 1) 0, Nat.add_mul, h, bin_0, bin_0]
    omega
  | n + 1, k + 1 => by
    have h1 := bin_m n (k + 1)
    have h2 := bin_m n k
    have e := bin_s n k
    have e2 : bin (n + 1) (k + 1) * (k + 1 + 1) = bin (n + 1) (k + 1) * (k + 1) + bin (n + 1) (k + 1) := Nat.mul_succ _ _
    have e3 : (n + 1 + 1) * bin (n + 1) (k + 1) = (n + 1) * bin (n + 1) (k + 1) + bin (n + 1) (k + 1) := Nat.succ_mul _ _
    have e4 : (n + 1) * bin (n + 1) (k + 1) = (n + 1) * bin n k + (n + 1) * bin n (k + 1) := by rw [e, Nat.mul_add]
    rw [bin_s (n + 1) (k + 1), Nat.add_mul, h1, e2, h2, e3, e4]
    omega
theorem bin_d (n i : Nat) (h : i ≤ n) : bin n (i + 1) * (i + 1) = bin n i * (n - i) := by
  have h1 := bin_m n i
  rw [bin_s, Nat.add_mul] at h1
  have e : (n + 1) * bin n i = bin n i * (n - i) + bin n i * (i + 1) := by
    rw [← Nat.mul_add, Nat.mul_comm]
    congr 1
    omega
  omega
theorem bin_le : ∀ (n k : Nat), bin n k ≤ 2 ^ n
  | n, 0 => by rw [bin_0]; exact Nat.one_le_two_pow
  | 0, k + 1 => by simp [bin]
  | n + 1, k + 1 => by
    have h1 := bin_le n k
    have h2 := bin_le n (k + 1)
    rw [bin_s, Nat.pow_succ]
    omega
theorem bin_pos : ∀ (n k : Nat), k ≤ n → 0 < bin n k
  | n, 0, _ => by rw [bin_0]; decide
  | 0, k + 1, h => by omega
  | n + 1, k + 1, h => by
    have h1 := bin_pos n k (by omega)
    rw [bin_s]
    omega
theorem bin_30 {n k : Nat} (hn : n ≤ 30) : bin n k ≤ 1073741824 := by
  have h1 := bin_le n k
  have h2 : 2 ^ n ≤ 2 ^ 30 := Nat.pow_le_pow_right (by decide) hn
  omega
theorem ch8 {n k : Nat} (hn : n ≤ 30) (hk : k ≤ n) : FX8_choices (nI n) (nI k) = some (lN (bin n k)) := by
  have hl : itr (fun v => FX8_choices_S16 (nI n) (nI k) v.1 v.2) fu ((1 : Int64), (1 : Int32)) = some (lN (bin n k)) := by
    refine itr_cnt (g := fun j => (lN (bin (n - k + j) j), nI (j + 1))) (e := k) (fu_le (by omega)) (by show ((1 : Int64), (1 : Int32)) = (lN (bin (n - k + 0) 0), nI 1); rw [bin_0]; rfl) (fun j hj => ?_) ?_
    · show FX8_choices_S16 (nI n) (nI k) (lN (bin (n - k + j) j)) (nI (j + 1)) = _
      unfold FX8_choices_S16
      have hb := bin_30 (n := n - k + j) (k := j) (by omega)
      have hm := bin_m (n - k + j) j
      have hne : ¬ (nI (j + 1)).toInt64 = 0 := by
        rw [nI_l (by omega)]
        exact fun q => absurd ((pk_lEQ (b := 0) (by omega) (by decide)).mp q) (by omega)
      have hmul : bin (n - k + j) j * (n - k + (j + 1)) ≤ 1073741824 * 31 := Nat.mul_le_mul hb (by omega)
      have hdiv : bin (n - k + j) j * (n - k + (j + 1)) / (j + 1) = bin (n - k + (j + 1)) (j + 1) := by
        have e : bin (n - k + j) j * (n - k + (j + 1)) = bin (n - k + (j + 1)) (j + 1) * (j + 1) := by
          rw [show n - k + (j + 1) = n - k + j + 1 from rfl, hm, Nat.mul_comm]
        rw [e, Nat.mul_div_cancel _ (by omega)]
      rw [if_neg (nI_nlt (b := j + 1) (a := k) (by omega) (by omega)), if_neg hne, pk_sub hk, nI_add, nI_l (by omega), nI_l (by omega), lN_mul, pk_lDiv (by omega) (by omega) (by omega), hdiv, nI_1]
    · show FX8_choices_S16 (nI n) (nI k) (lN (bin (n - k + k) k)) (nI (k + 1)) = _
      unfold FX8_choices_S16
      rw [if_pos (nI_lt (by omega) (by omega)), Nat.sub_add_cancel hk]
  unfold FX8_choices
  rw [if_neg (nI_pos (by omega)), if_pos (nI_le hk (by omega)), hl]
  rfl
theorem ch9 {n k : Nat} (hn : n ≤ 30) (hk : k ≤ n) : FX9_choose (nI n) (nI k) = some (lN (bin n k)) := by
  have hl : itr (fun v => FX9_choose_S16 (nI n) (nI k) v.1 v.2) fu ((1 : Int64), (0 : Int32)) = some (lN (bin n k)) := by
    refine itr_cnt (g := fun j => (lN (bin n j), nI j)) (e := k) (fu_le (by omega)) (by show ((1 : Int64), (0 : Int32)) = (lN (bin n 0), nI 0); rw [bin_0]; rfl) (fun j hj => ?_) ?_
    · show FX9_choose_S16 (nI n) (nI k) (lN (bin n j)) (nI j) = _
      unfold FX9_choose_S16
      have hb := bin_30 (n := n) (k := j) hn
      have hm := bin_d n j (by omega)
      have hne : ¬ (nI (j + 1)).toInt64 = 0 := by
        rw [nI_l (by omega)]
        exact fun q => absurd ((pk_lEQ (b := 0) (by omega) (by decide)).mp q) (by omega)
      have hmul : bin n j * (n - j) ≤ 1073741824 * 31 := Nat.mul_le_mul hb (by omega)
      have hdiv : bin n j * (n - j) / (j + 1) = bin n (j + 1) := by
        rw [← hm, Nat.mul_div_cancel _ (by omega)]
      rw [if_neg (nI_ge hj (by omega)), nI_1, if_neg hne, pk_sub (by omega), nI_l (by omega), nI_l (by omega), lN_mul, pk_lDiv (by omega) (by omega) (by omega), hdiv]
    · show FX9_choose_S16 (nI n) (nI k) _ (nI k) = _
      unfold FX9_choose_S16
      rw [if_pos (nI_le (Nat.le_refl k) (by omega))]
  unfold FX9_choose
  rw [if_neg (nI_pos (by omega)), if_pos (nI_le hk (by omega)), hl]
  rfl
/-- chosen out of fewer: none -/
theorem ch8o {n k : Nat} (hk : n < k) (hk2 : k < 2147483648) : FX8_choices (nI n) (nI k) = some (lN 0) := by
  unfold FX8_choices
  rw [if_neg (nI_pos (by omega)), if_neg (nI_ge hk (by omega))]
  rfl
theorem ch9o {n k : Nat} (hk : n < k) (hk2 : k < 2147483648) : FX9_choose (nI n) (nI k) = some (lN 0) := by
  unfold FX9_choose
  rw [if_neg (nI_pos (by omega)), if_neg (nI_ge hk (by omega))]
  rfl
def cho (n k : Nat) : Nat := if k ≤ n then bin n k else 0
theorem cho_le {n k : Nat} (hn : n ≤ 30) : cho n k ≤ 1073741824 := by
  unfold cho
  by_cases c : k ≤ n
  · rw [if_pos c]; exact bin_30 hn
  · rw [if_neg c]; omega
theorem cho_pow (n k : Nat) : cho n k ≤ 2 ^ n := by
  unfold cho
  by_cases c : k ≤ n
  · rw [if_pos c]; exact bin_le n k
  · rw [if_neg c]; exact Nat.zero_le _
theorem cho_two {n m k l : Nat} (hn : n ≤ 30) (hm : m ≤ n) : cho m k * cho (n - m) l ≤ 1073741824 := by
  have h1 := Nat.mul_le_mul (cho_pow m k) (cho_pow (n - m) l)
  have h2 : 2 ^ m * 2 ^ (n - m) = 2 ^ n := by rw [← Nat.pow_add, Nat.add_sub_cancel' hm]
  have h3 : 2 ^ n ≤ 2 ^ 30 := Nat.pow_le_pow_right (by decide) hn
  omega
theorem c8 {n k : Nat} (hn : n ≤ 30) (hk : k < 2147483648) : FX8_choices (nI n) (nI k) = some (lN (cho n k)) := by
  unfold cho
  by_cases c : k ≤ n
  · rw [if_pos c]; exact ch8 hn c
  · rw [if_neg c]; exact ch8o (by omega) hk
theorem c9 {n k : Nat} (hn : n ≤ 30) (hk : k < 2147483648) : FX9_choose (nI n) (nI k) = some (lN (cho n k)) := by
  unfold cho
  by_cases c : k ≤ n
  · rw [if_pos c]; exact ch9 hn c
  · rw [if_neg c]; exact ch9o (by omega) hk
theorem see8 {n m s r : Nat} (hn : n ≤ 30) (hm : m ≤ n) (hs : s ≤ n) (hr : r ≤ s) : FX8_waysToSee (nI n) (nI m) (nI s) (nI r) = some (lN (cho m r * cho (n - m) (s - r))) := by
  unfold FX8_waysToSee
  rw [pk_sub hm, pk_sub hr, c8 (by omega) (by omega), Option.bind_some, c8 (by omega) (by omega), Option.bind_some, lN_mul]
def spF (p4 : Int32) (n s r : Nat) : Nat → Int32
  | 0 => -9
  | m + 1 => if bin n s ≤ 20 * (cho m r * cho (n - m) (s - r)) then (if p4 = 0 then (if spF p4 n s r m = -9 then nI m else spF p4 n s r m) else nI m) else spF p4 n s r m
theorem spF_s (p4 : Int32) (n s r m : Nat) : spF p4 n s r (m + 1) = if bin n s ≤ 20 * (cho m r * cho (n - m) (s - r)) then (if p4 = 0 then (if spF p4 n s r m = -9 then nI m else spF p4 n s r m) else nI m) else spF p4 n s r m := rfl
theorem span8 {n s r : Nat} {p4 : Int32} (hn : n ≤ 30) (hs : s ≤ n) (hr : r ≤ s) : itr (fun v => FX8_span_S45 (nI n) (nI s) (nI r) p4 (lN (bin n s)) v.1 v.2) fu ((-9 : Int32), (0 : Int32)) = some (spF p4 n s r (n + 1)) := by
  refine itr_P (P := n + 1) (g := fun j => spF p4 n s r j) (by omega) (-9) rfl (fun m hm => ?_) ?_
  · show FX8_span_S45 (nI n) (nI s) (nI r) p4 (lN (bin n s)) (spF p4 n s r m) (nI m) = _
    unfold FX8_span_S45 FX8_span_J74L45 FX8_span_J93L45
    have b1 := cho_le (n := m) (k := r) (by omega)
    have b2 := cho_le (n := n - m) (k := s - r) (by omega)
    have b3 := cho_two (k := r) (l := s - r) hn (show m ≤ n by omega)
    have b4 := bin_30 (n := n) (k := s) hn
    have c1 : (lN (20 * (cho m r * cho (n - m) (s - r))) < lN (bin n s)) ↔ 20 * (cho m r * cho (n - m) (s - r)) < bin n s := pk_lLT (by omega) (by omega)
    rw [if_neg (nI_nlt (b := m) (a := n) (by omega) (by omega)), see8 hn (by omega) hs hr, Option.bind_some, show (20 : Int64) = lN 20 from rfl, lN_mul, nI_1, spF_s]
    by_cases c : bin n s ≤ 20 * (cho m r * cho (n - m) (s - r))
    · rw [if_neg (fun q => absurd (c1.mp q) (by omega)), if_pos c, if_neg (by decide)]
      by_cases c4 : p4 = 0
      · rw [if_pos c4, if_pos c4]
        by_cases c5 : spF p4 n s r m = -9
        · rw [if_pos c5, if_pos c5]
        · rw [if_neg c5, if_neg c5]
      · rw [if_neg c4, if_neg c4]
    · rw [if_pos (c1.mpr (by omega)), if_neg c, if_pos rfl]
  · show FX8_span_S45 (nI n) (nI s) (nI r) p4 (lN (bin n s)) _ (nI (n + 1)) = _
    unfold FX8_span_S45
    rw [if_pos (nI_lt (by omega) (by omega))]
theorem span9 {n s r : Nat} {p4 : Int32} (hn : n ≤ 30) (hs : s ≤ n) (hr : r ≤ s) : itr (fun v => FX9_span_S44 (nI n) (nI s) (nI r) p4 v.1 v.2) fu ((-9 : Int32), (0 : Int32)) = some (spF p4 n s r (n + 1)) := by
  refine itr_P (P := n + 1) (g := fun j => spF p4 n s r j) (by omega) (-9) rfl (fun m hm => ?_) ?_
  · show FX9_span_S44 (nI n) (nI s) (nI r) p4 (spF p4 n s r m) (nI m) = _
    unfold FX9_span_S44 FX9_span_J85L44 FX9_span_J104L44 FX9_span_J109L44
    have b1 := cho_le (n := m) (k := r) (by omega)
    have b2 := cho_le (n := n - m) (k := s - r) (by omega)
    have b3 := cho_two (k := r) (l := s - r) hn (show m ≤ n by omega)
    have b4 := bin_30 (n := n) (k := s) hn
    have c1 : (lN (20 * (cho m r * cho (n - m) (s - r))) < lN (bin n s)) ↔ 20 * (cho m r * cho (n - m) (s - r)) < bin n s := pk_lLT (by omega) (by omega)
    rw [if_neg (nI_nlt (b := m) (a := n) (by omega) (by omega)), pk_sub (by omega), pk_sub hr, c9 (n := m) (by omega) (by omega), Option.bind_some, c9 (n := n - m) (by omega) (by omega), Option.bind_some, ch9 hn hs, Option.bind_some, show (20 : Int64) = lN 20 from rfl, lN_mul, lN_mul, Nat.mul_assoc, nI_1, spF_s]
    by_cases c : bin n s ≤ 20 * (cho m r * cho (n - m) (s - r))
    · rw [if_neg (fun q => absurd (c1.mp q) (by omega)), if_pos c, if_neg (by decide)]
      by_cases c4 : p4 = 0
      · rw [if_pos c4, if_pos c4]
        by_cases c5 : spF p4 n s r m = -9
        · rw [if_pos c5, if_pos c5]
        · rw [if_neg c5, if_neg c5]
      · rw [if_neg c4, if_neg c4]
    · rw [if_pos (c1.mpr (by omega)), if_neg c, if_pos rfl]
  · show FX9_span_S44 (nI n) (nI s) (nI r) p4 _ (nI (n + 1)) = _
    unfold FX9_span_S44
    rw [if_pos (nI_lt (by omega) (by omega))]
