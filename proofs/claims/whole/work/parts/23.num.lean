/-! bits, counts, fractions -/
theorem sh_l : ∀ n, n < 32 → ((nI n &&& 31).toBitVec.smod 32).toNat = n := by decide +kernel
theorem or_n (a b : Nat) : nI a ||| nI b = nI (a ||| b) := by
  apply Int32.toBitVec_inj.1
  show BitVec.ofNat 32 a ||| BitVec.ofNat 32 b = BitVec.ofNat 32 (a ||| b)
  apply BitVec.eq_of_getLsbD_eq
  intro i hi
  simp [hi]
theorem and_n (a b : Nat) : nI a &&& nI b = nI (a &&& b) := by
  apply Int32.toBitVec_inj.1
  show BitVec.ofNat 32 a &&& BitVec.ofNat 32 b = BitVec.ofNat 32 (a &&& b)
  apply BitVec.eq_of_getLsbD_eq
  intro i hi
  simp [hi]
theorem shl1 {k : Nat} (hk : k < 31) : (1 : Int32) <<< (nI k &&& 31) = nI (2 ^ k) := by
  have h1 : (2 : Nat) ^ k ≤ 2 ^ 30 := Nat.pow_le_pow_right (by decide) (by omega)
  have h := pk_shlN (n := 1) (nI k &&& 31) k (sh_l k (by omega)) (by omega)
  rw [Nat.one_mul] at h
  exact h
theorem or_pow {x k : Nat} (hx : x < 2 ^ k) (hk : k < 31) : nI x ||| ((1 : Int32) <<< (nI k &&& 31)) = nI (x + 2 ^ k) := by
  rw [shl1 hk, or_n]
  congr 1
  have h := Nat.two_pow_add_eq_or_of_lt hx 1
  rw [Nat.mul_one] at h
  rw [Nat.or_comm, ← h, Nat.add_comm]
theorem bit_n {x k : Nat} (hx : x < 2147483648) (hk : k < 32) : (nI x >>> (nI k &&& 31)) &&& (1 : Int32) = nI (x / 2 ^ k % 2) := by
  rw [pk_shrN hx (nI k &&& 31) k (sh_l k hk)]
  have h1 : x / 2 ^ k ≤ x := Nat.div_le_self _ _
  exact pk_andN (n := x / 2 ^ k) (by omega) (m := 1) 1 (by decide)
theorem bit_t (x k : Nat) : x / 2 ^ k % 2 = if x.testBit k = true then 1 else 0 := by
  rw [Nat.testBit_eq_decide_div_mod_eq]
  have h : x / 2 ^ k % 2 < 2 := Nat.mod_lt _ (by decide)
  by_cases c : x / 2 ^ k % 2 = 1
  · rw [decide_eq_true c, c]; rfl
  · rw [decide_eq_false c]
    have h2 : x / 2 ^ k % 2 = 0 := by omega
    rw [h2]; rfl
theorem isIn_n {x k : Nat} (hx : x < 2147483648) (hk : k < 12) : FX8_isIn (nI x) (nI k) = x.testBit k := by
  unfold FX8_isIn
  rw [if_neg (nI_pos (by omega)), if_neg (gl 12 hk (by decide)), bit_n hx (by omega), bit_t]
  cases x.testBit k <;> rfl
theorem isIn_out {x p : Int32} (h : p < 0 ∨ (12 : Int32) ≤ p) : FX8_isIn x p = false := by
  unfold FX8_isIn
  by_cases c : p < 0
  · rw [if_pos c]
  · rw [if_neg c, if_pos (h.resolve_left c)]
/-- a set of bits by who is in it -/
def bN (U : Nat → Bool) : Nat → Nat
  | 0 => 0
  | n + 1 => if U n = true then bN U n + 2 ^ n else bN U n
theorem bN_lt (U : Nat → Bool) : ∀ n, bN U n < 2 ^ n
  | 0 => by simp [bN]
  | n + 1 => by
    have h := bN_lt U n
    have h2 : 2 ^ (n + 1) = 2 ^ n + 2 ^ n := by rw [Nat.pow_succ]; omega
    simp only [bN]
    by_cases c : U n = true
    · rw [if_pos c]; omega
    · rw [if_neg c]; omega
theorem bN_step {U : Nat → Bool} {k : Nat} (hk : k < 31) : (if U k = true then nI (bN U k) ||| ((1 : Int32) <<< (nI k &&& 31)) else nI (bN U k)) = nI (bN U (k + 1)) := by
  simp only [bN]
  by_cases c : U k = true
  · rw [if_pos c, if_pos c, or_pow (bN_lt U k) hk]
  · rw [if_neg c, if_neg c]
theorem bN_bit (U : Nat → Bool) : ∀ (n i : Nat), (bN U n).testBit i = (decide (i < n) && U i)
  | 0, i => by simp [bN]
  | n + 1, i => by
    have h := bN_bit U n i
    have hl := bN_lt U n
    simp only [bN]
    by_cases c : U n = true
    · rw [if_pos c]
      have e : bN U n + 2 ^ n = bN U n ||| 2 ^ n := by
        have h := Nat.two_pow_add_eq_or_of_lt hl 1
        rw [Nat.mul_one] at h
        rw [Nat.or_comm, ← h, Nat.add_comm]
      rw [e, Nat.testBit_or, h, Nat.testBit_two_pow]
      by_cases c2 : n = i
      · subst c2; simp [c]
      · by_cases c3 : i < n
        · have c4 : i < n + 1 := by omega
          simp [c2, c3, c4]
        · have c4 : ¬ i < n + 1 := by omega
          simp [c2, c3, c4]
    · rw [if_neg c, h]
      by_cases c3 : i < n
      · have c4 : i < n + 1 := by omega
        simp [c3, c4]
      · by_cases c2 : i = n
        · subst c2
          have c5 : U i = false := by cases hU : U i <;> simp_all
          simp [c5]
        · have c4 : ¬ i < n + 1 := by omega
          simp [c3, c4]
/-- how many bits -/
def popN (x : Nat) : Nat → Nat := sumN (fun i => x / 2 ^ i % 2)
theorem popN_le (x : Nat) : ∀ n, popN x n ≤ n
  | 0 => Nat.le_refl 0
  | n + 1 => by
    have h := popN_le x n
    have h2 : x / 2 ^ n % 2 < 2 := Nat.mod_lt _ (by decide)
    have e : popN x (n + 1) = popN x n + x / 2 ^ n % 2 := rfl
    omega
theorem bitCount_all : (List.range 4096).all (fun x => decide (FJ6_bitCount_0f7a4 (nI x) = nI (popN x 12))) = true := by decide +kernel
theorem bitCount_n {x : Nat} (hx : x < 4096) : FJ6_bitCount_0f7a4 (nI x) = nI (popN x 12) := by
  have h := List.all_eq_true.mp bitCount_all x (List.mem_range.mpr hx)
  exact of_decide_eq_true h
theorem ones_n {x : Nat} (hx : x < 2147483648) : FX9_ones (nI x) = some (nI (popN x 12)) := by
  have h : itr (fun v => FX9_ones_S4 (nI x) v.1 v.2) fu ((0 : Int32), (0 : Int32)) = some (nI (popN x 12)) := by
    refine itr_P (P := 12) (g := fun j => nI (popN x j)) (by decide) 0 rfl (fun j hj => ?_) ?_
    · show FX9_ones_S4 (nI x) _ (nI j) = _
      unfold FX9_ones_S4
      rw [if_neg (gl 12 hj (by decide)), bit_n hx (by omega), nI_add, nI_1]
      rfl
    · show FX9_ones_S4 (nI x) _ (nI 12) = _
      unfold FX9_ones_S4
      rw [if_pos (by decide)]
  unfold FX9_ones
  rw [h]
  rfl
/-- Euclid -/
def fibN : Nat → Nat
  | 0 => 0
  | 1 => 1
  | n + 2 => fibN n + fibN (n + 1)
theorem eu8 : ∀ (n a b st m : Nat), b ≤ a → a < 9223372036854775808 → (b < fibN (n + 1) ∨ a < fibN (n + 2)) → st + n < 100 → n < m → itr (fun v => FX8_commonDivisor_S9 v.1 v.2.1 v.2.2) m (lN a, lN b, nI st) = some (lN (Nat.gcd a b)) := by
  intro n
  induction n with
  | zero =>
    intro a b st m hba ha hF hst hm
    obtain ⟨m, rfl⟩ : ∃ q, m = q + 1 := ⟨m - 1, by omega⟩
    have hb : b = 0 := by
      rcases hF with h | h
      · have e : fibN 1 = 1 := rfl
        have h' : b < fibN 1 := h
        omega
      · have e : fibN 2 = 1 := rfl
        have h' : a < fibN 2 := h
        omega
    subst hb
    have e : FX8_commonDivisor_S9 (lN a) (lN 0) (nI st) = some (.inr (lN a)) := by
      unfold FX8_commonDivisor_S9
      rw [if_neg (gl 100 (by omega) (by decide)), if_pos (show lN 0 = (0 : Int64) from rfl)]
    rw [Nat.gcd_zero_right]
    exact itr_inr e
  | succ n ih =>
    intro a b st m hba ha hF hst hm
    obtain ⟨m, rfl⟩ : ∃ q, m = q + 1 := ⟨m - 1, by omega⟩
    by_cases hb : b = 0
    · subst hb
      have e : FX8_commonDivisor_S9 (lN a) (lN 0) (nI st) = some (.inr (lN a)) := by
        unfold FX8_commonDivisor_S9
        rw [if_neg (gl 100 (by omega) (by decide)), if_pos (show lN 0 = (0 : Int64) from rfl)]
      rw [Nat.gcd_zero_right]
      exact itr_inr e
    · have hb0 : ¬ lN b = (0 : Int64) := fun q => hb ((pk_lEQ (b := 0) (by omega) (by decide)).mp q)
      have hr : a % b < b := Nat.mod_lt _ (by omega)
      have hr2 : a % b + b ≤ a := by
        have h1 : a % b + b * (a / b) = a := Nat.mod_add_div a b
        have h2 : 1 ≤ a / b := (Nat.one_le_div_iff (by omega)).mpr hba
        have h3 : b * 1 ≤ b * (a / b) := Nat.mul_le_mul_left b h2
        omega
      have e : FX8_commonDivisor_S9 (lN a) (lN b) (nI st) = some (.inl (lN b, lN (a % b), nI (st + 1))) := by
        unfold FX8_commonDivisor_S9
        rw [if_neg (gl 100 (by omega) (by decide)), if_neg hb0, if_neg hb0, pk_lRem ha (by omega) (by omega), nI_1]
      have hF2 : a % b < fibN (n + 1) ∨ b < fibN (n + 2) := by
        have ef : fibN (n + 3) = fibN (n + 1) + fibN (n + 2) := rfl
        by_cases c : b < fibN (n + 2)
        · exact Or.inr c
        · rcases hF with h | h
          · exact Or.inr h
          · have h' : a < fibN (n + 3) := h
            exact Or.inl (by omega)
      have h := ih b (a % b) (st + 1) m (by omega) (by omega) hF2 (by omega) (by omega)
      rw [Nat.gcd_comm a b, Nat.gcd_rec b a]
      exact (itr_inl e).trans (h.trans (by rw [Nat.gcd_comm b (a % b)]))
theorem eu9 : ∀ (n a b m : Nat), b ≤ a → a < 9223372036854775808 → (b < fibN (n + 1) ∨ a < fibN (n + 2)) → n < m → itr (fun v => FX9_part_S6 v.1 v.2) m (lN a, lN b) = some (lN (Nat.gcd a b)) := by
  intro n
  induction n with
  | zero =>
    intro a b m hba ha hF hm
    obtain ⟨m, rfl⟩ : ∃ q, m = q + 1 := ⟨m - 1, by omega⟩
    have hb : b = 0 := by
      rcases hF with h | h
      · have e : fibN 1 = 1 := rfl
        have h' : b < fibN 1 := h
        omega
      · have e : fibN 2 = 1 := rfl
        have h' : a < fibN 2 := h
        omega
    subst hb
    have e : FX9_part_S6 (lN a) (lN 0) = some (.inr (lN a)) := by
      unfold FX9_part_S6
      rw [if_pos (show lN 0 = (0 : Int64) from rfl)]
    rw [Nat.gcd_zero_right]
    exact itr_inr e
  | succ n ih =>
    intro a b m hba ha hF hm
    obtain ⟨m, rfl⟩ : ∃ q, m = q + 1 := ⟨m - 1, by omega⟩
    by_cases hb : b = 0
    · subst hb
      have e : FX9_part_S6 (lN a) (lN 0) = some (.inr (lN a)) := by
        unfold FX9_part_S6
        rw [if_pos (show lN 0 = (0 : Int64) from rfl)]
      rw [Nat.gcd_zero_right]
      exact itr_inr e
    · have hb0 : ¬ lN b = (0 : Int64) := fun q => hb ((pk_lEQ (b := 0) (by omega) (by decide)).mp q)
      have hr : a % b < b := Nat.mod_lt _ (by omega)
      have hr2 : a % b + b ≤ a := by
        have h1 : a % b + b * (a / b) = a := Nat.mod_add_div a b
        have h2 : 1 ≤ a / b := (Nat.one_le_div_iff (by omega)).mpr hba
        have h3 : b * 1 ≤ b * (a / b) := Nat.mul_le_mul_left b h2
        omega
      have e : FX9_part_S6 (lN a) (lN b) = some (.inl (lN b, lN (a % b))) := by
        unfold FX9_part_S6
        rw [if_neg hb0, if_neg hb0, pk_lRem ha (by omega) (by omega)]
      have hF2 : a % b < fibN (n + 1) ∨ b < fibN (n + 2) := by
        have ef : fibN (n + 3) = fibN (n + 1) + fibN (n + 2) := rfl
        by_cases c : b < fibN (n + 2)
        · exact Or.inr c
        · rcases hF with h | h
          · exact Or.inr h
          · have h' : a < fibN (n + 3) := h
            exact Or.inl (by omega)
      have h := ih b (a % b) m (by omega) (by omega) hF2 (by omega)
      rw [Nat.gcd_comm a b, Nat.gcd_rec b a]
      exact (itr_inl e).trans (h.trans (by rw [Nat.gcd_comm b (a % b)]))
def fibP : Nat → Nat × Nat
  | 0 => (0, 1)
  | n + 1 => ((fibP n).2, (fibP n).1 + (fibP n).2)
theorem fibP_eq : ∀ n, fibP n = (fibN n, fibN (n + 1))
  | 0 => rfl
  | n + 1 => by
    have h := fibP_eq n
    simp only [fibP, h]
    rfl
theorem fib93 : 9223372036854775808 ≤ fibN 93 := by
  have h := fibP_eq 93
  have e : fibN 93 = (fibP 93).1 := by rw [h]
  rw [e]
  decide +kernel
theorem cd_n {a b : Nat} (ha : a < 9223372036854775808) (hb : b < 9223372036854775808) : FX8_commonDivisor (lN a) (lN b) = some (lN (Nat.gcd a b)) := by
  have h : itr (fun v => FX8_commonDivisor_S9 v.1 v.2.1 v.2.2) fu (lN a, lN b, (0 : Int32)) = some (lN (Nat.gcd a b)) := by
    by_cases c : b ≤ a
    · exact eu8 91 a b 0 fu c ha (Or.inr (Nat.lt_of_lt_of_le ha fib93)) (by decide) (fu_le (by decide))
    · have e : FX8_commonDivisor_S9 (lN a) (lN b) (nI 0) = some (.inl (lN b, lN (a % b), nI 1)) := by
        unfold FX8_commonDivisor_S9
        have hb0 : ¬ lN b = (0 : Int64) := fun q => absurd ((pk_lEQ (b := 0) hb (by decide)).mp q) (by omega)
        rw [if_neg (by decide), if_neg hb0, if_neg hb0, pk_lRem ha (by omega) hb]
        rfl
      have hr : a % b < b := Nat.mod_lt _ (by omega)
      have h2 := eu8 91 b (a % b) 1 2999 (by omega) hb (Or.inr (Nat.lt_of_lt_of_le hb fib93)) (by decide) (by decide)
      rw [Nat.gcd_comm a b, Nat.gcd_rec b a]
      exact (itr_inl (n := 2999) e).trans (h2.trans (by rw [Nat.gcd_comm b (a % b)]))
  unfold FX8_commonDivisor
  rw [h]
  rfl
theorem pt_n {a b : Nat} (ha : a < 9223372036854775808) (hb : b < 9223372036854775808) : itr (fun v => FX9_part_S6 v.1 v.2) fu (lN a, lN b) = some (lN (Nat.gcd a b)) := by
  by_cases c : b ≤ a
  · exact eu9 91 a b fu c ha (Or.inr (Nat.lt_of_lt_of_le ha fib93)) (fu_le (by decide))
  · have e : FX9_part_S6 (lN a) (lN b) = some (.inl (lN b, lN (a % b))) := by
      unfold FX9_part_S6
      have hb0 : ¬ lN b = (0 : Int64) := fun q => absurd ((pk_lEQ (b := 0) hb (by decide)).mp q) (by omega)
      rw [if_neg hb0, if_neg hb0, pk_lRem ha (by omega) hb]
    have hr : a % b < b := Nat.mod_lt _ (by omega)
    have h2 := eu9 91 b (a % b) 2999 (by omega) hb (Or.inr (Nat.lt_of_lt_of_le hb fib93)) (by decide)
    rw [Nat.gcd_comm a b, Nat.gcd_rec b a]
    exact (itr_inl (n := 2999) e).trans (h2.trans (by rw [Nat.gcd_comm b (a % b)]))
/-- a fraction's above or below, in least terms -/
def frN (A B : Nat) (b : Int32) : Int64 := if b = 0 then lN (B / Nat.gcd A B) else lN (A / Nat.gcd A B)
theorem fr8 {A B : Nat} (b : Int32) (hA : A < 9223372036854775808) (hB : B < 9223372036854775808) (h0 : 0 < B) : FX8_fraction (lN A) (lN B) b = some (frN A B b) := by
  have hg : 0 < Nat.gcd A B := Nat.gcd_pos_of_pos_right A h0
  have hgB : Nat.gcd A B ≤ B := Nat.gcd_le_right A h0
  have hg0 : ¬ lN (Nat.gcd A B) = (0 : Int64) := fun q => absurd ((pk_lEQ (b := 0) (by omega) (by decide)).mp q) (by omega)
  have hg1 : (1 : Int64) ≤ lN (Nat.gcd A B) := (pk_lLE (by decide) (by omega)).mpr hg
  have e : FX8_fraction (lN A) (lN B) b = (some (lN (Nat.gcd A B))).bind fun x1 => if (1 : Int64) ≤ x1 then (if b = 0 then (if x1 = 0 then none else some (lN B / x1)) else (if x1 = 0 then none else some (lN A / x1))) else (if b = 0 then (some (1 : Int64)) else (some (0 : Int64))) := by
    unfold FX8_fraction
    rw [cd_n hA hB]
  rw [e, Option.bind_some, if_pos hg1, if_neg hg0, if_neg hg0, pk_lDiv hB hg (by omega), pk_lDiv hA hg (by omega)]
  unfold frN
  by_cases c : b = 0
  · rw [if_pos c, if_pos c]
  · rw [if_neg c, if_neg c]
theorem fr9 {A B : Nat} (b : Int32) (hA : A < 9223372036854775808) (hB : B < 9223372036854775808) (h0 : 0 < B) : FX9_part (lN A) (lN B) b = some (frN A B b) := by
  have hg : 0 < Nat.gcd A B := Nat.gcd_pos_of_pos_right A h0
  have hgB : Nat.gcd A B ≤ B := Nat.gcd_le_right A h0
  have hg0 : ¬ lN (Nat.gcd A B) = (0 : Int64) := fun q => absurd ((pk_lEQ (b := 0) (by omega) (by decide)).mp q) (by omega)
  unfold FX9_part
  rw [pt_n hA hB, Option.bind_some, if_neg hg0, if_neg hg0, pk_lDiv hB hg (by omega), pk_lDiv hA hg (by omega)]
  unfold frN
  by_cases c : b = 0
  · rw [if_pos c, if_pos c]
  · rw [if_neg c, if_neg c]
theorem frN_k {A B k : Nat} (b : Int32) (hk : 0 < k) : frN (k * A) (k * B) b = frN A B b := by
  unfold frN
  rw [Nat.gcd_mul_left, Nat.mul_div_mul_left _ _ hk, Nat.mul_div_mul_left _ _ hk]
theorem fr00 (b : Int32) : FX8_fraction (0 : Int64) (0 : Int64) b = some (if b = 0 then 1 else 0) := by
  unfold FX8_fraction
  have h := cd_n (a := 0) (b := 0) (by decide) (by decide)
  have e : FX8_commonDivisor (0 : Int64) (0 : Int64) = some (lN 0) := h
  rw [e, Option.bind_some, if_neg (by decide)]
  by_cases c : b = 0
  · rw [if_pos c, if_pos c]
  · rw [if_neg c, if_neg c]
theorem share_n {j : Nat} (h1 : 1 ≤ j) (h2 : j ≤ 12) : gshare (nI j) = lN (27720 / j) := by
  unfold gshare
  rw [if_pos (lL 1 h1 (by omega)), show (27720 : Int32) = nI 27720 from rfl, pk_div (by decide) (by omega) (by omega)]
  have h3 : 27720 / j ≤ 27720 := Nat.div_le_self _ _
  exact nI_l (by omega)
theorem all_n {j : Nat} (h1 : 1 ≤ j) (h2 : j ≤ 13) : (27720 : Int64) / (nI j).toInt64 = lN (27720 / j) := by
  rw [nI_l (by omega), show (27720 : Int64) = lN 27720 from rfl, pk_lDiv (by decide) (by omega) (by omega)]
