/-! the text: which places fit -/
section TX
variable (b : Nat → Nat)
/-- figures, seats -/
def fg (j : Nat) : Nat := b j - 48
def se (m : Nat) : Nat := 6 * fg b (6 * m + 1) + fg b (6 * m + 2)
def UM : Nat → Nat → Bool
  | 0, _ => false
  | m + 1, s => UM m s || decide (s = se b m)
/-- the free columns of a row -/
def frB (m row c : Nat) : Bool := !(UM b m (6 * row + c))
def frW (m row : Nat) : Nat := bN (frB b m row) 6
def okN (j : Nat) : Bool :=
  if j % 6 = 0 then decide (b j = 80) || decide (b j = 70)
  else if j % 6 = 1 then decide (48 ≤ b j) && decide (b j ≤ 51) && decide (¬ frW b (j / 6) (fg b j) = 0)
  else if j % 6 = 2 then decide (48 ≤ b j) && decide (b j ≤ 53) && frB b (j / 6) (fg b (j - 1)) (fg b j)
  else decide (48 ≤ b j) && decide (b j ≤ 57)
end TX
/-- the first place that does not fit -/
theorem firstF (p : Nat → Bool) : ∀ n, ∃ F, F ≤ n ∧ (∀ j, j < F → p j = true) ∧ (F < n → p F = false)
  | 0 => ⟨0, Nat.le_refl 0, fun j h => by omega, fun h => by omega⟩
  | n + 1 => by
    obtain ⟨F, h1, h2, h3⟩ := firstF p n
    by_cases c : F < n
    · exact ⟨F, by omega, h2, fun _ => h3 c⟩
    · have hF : F = n := by omega
      subst hF
      cases hp : p F with
      | true => exact ⟨F + 1, Nat.le_refl _, fun j hj => by
          by_cases k : j = F
          · subst k; exact hp
          · exact h2 j (by omega), fun h => by omega⟩
      | false => exact ⟨F, by omega, h2, fun _ => hp⟩
theorem bN_all0 (V : Nat → Bool) : ∀ n, bN V n = 0 ↔ ∀ i, i < n → V i = false
  | 0 => ⟨fun _ i hi => by omega, fun _ => rfl⟩
  | n + 1 => by
    have ih := bN_all0 V n
    simp only [bN]
    have h2 : 0 < 2 ^ n := Nat.pow_pos (by decide)
    by_cases c : V n = true
    · rw [if_pos c]
      refine ⟨fun h => by omega, fun h => ?_⟩
      have h3 := h n (by omega)
      rw [c] at h3
      cases h3
    · rw [if_neg c, ih]
      refine ⟨fun h i hi => ?_, fun h i hi => h i (by omega)⟩
      by_cases k : i = n
      · subst k
        cases hv : V i with
        | true => exact absurd hv c
        | false => rfl
      · exact h i (by omega)
theorem bN_63 (V : Nat → Bool) : bN V 6 = 63 ↔ bN (fun i => !(V i)) 6 = 0 := by
  rw [bN_all0]
  constructor
  · intro h i hi
    have hb := bN_bit V 6 i
    have e : (63 : Nat).testBit i = true := by
      have e2 : (63 : Nat) = 2 ^ 6 - 1 := rfl
      rw [e2, Nat.testBit_two_pow_sub_one]
      exact decide_eq_true hi
    rw [h, e, decide_eq_true hi, Bool.true_and] at hb
    rw [← hb]
    rfl
  · intro h
    apply Nat.eq_of_testBit_eq
    intro i
    have e2 : (63 : Nat) = 2 ^ 6 - 1 := rfl
    rw [bN_bit, e2, Nat.testBit_two_pow_sub_one]
    by_cases c : i < 6
    · have h2 := h i c
      rw [decide_eq_true c, Bool.true_and]
      cases hv : V i with
      | true => rfl
      | false => rw [hv] at h2; cases h2
    · rw [decide_eq_false c, Bool.false_and]
/-- six bits out of a set -/
theorem bN_cut {U : Nat → Bool} {r : Nat} (hr : r < 4) : bN U 24 / 2 ^ (6 * r) % 2 ^ 6 = bN (fun c => U (6 * r + c)) 6 := by
  apply Nat.eq_of_testBit_eq
  intro i
  rw [Nat.testBit_mod_two_pow, Nat.testBit_div_two_pow, bN_bit, bN_bit]
  by_cases c : i < 6
  · have h1 : i + 6 * r < 24 := by omega
    have h2 : 6 * r + i < 24 := by omega
    have h3 : i + 6 * r = 6 * r + i := by omega
    simp [c, h1, h2, h3]
  · simp [c]
theorem or_bit {U : Nat → Bool} {s : Nat} (hs : s < 24) : nI (bN U 24) ||| ((1 : Int32) <<< (nI s &&& 31)) = nI (bN (fun i => U i || decide (i = s)) 24) := by
  rw [shl1 (by omega), or_n]
  congr 1
  apply Nat.eq_of_testBit_eq
  intro i
  rw [Nat.testBit_or, bN_bit, bN_bit, Nat.testBit_two_pow]
  by_cases c : i < 24
  · by_cases c2 : s = i
    · subst c2; simp [c]
    · have c3 : ¬ i = s := fun y => c2 y.symm
      simp [c, c2, c3]
  · have c2 : ¬ s = i := by omega
    simp [c, c2]
theorem and_bit {U : Nat → Bool} {s : Nat} (hs : s < 24) : (nI (bN U 24) &&& ((1 : Int32) <<< (nI s &&& 31)) = 0) ↔ U s = false := by
  rw [shl1 (by omega), and_n]
  have hlt := bN_lt U 24
  have hle : bN U 24 &&& 2 ^ s ≤ bN U 24 := Nat.and_le_left
  have h24 : 2 ^ 24 = 16777216 := rfl
  have e := (nI_eq (a := bN U 24 &&& 2 ^ s) (b := 0) (by omega) (by decide))
  refine e.trans ⟨fun h => ?_, fun h => ?_⟩
  · have hb : (bN U 24 &&& 2 ^ s).testBit s = false := by rw [h]; exact Nat.zero_testBit s
    rw [Nat.testBit_and, bN_bit, Nat.testBit_two_pow_self, decide_eq_true hs, Bool.true_and, Bool.and_true] at hb
    exact hb
  · apply Nat.eq_of_testBit_eq
    intro i
    rw [Nat.testBit_and, bN_bit, Nat.testBit_two_pow, Nat.zero_testBit]
    by_cases c : s = i
    · subst c; simp [h]
    · simp [c]
/-! figures -/
theorem out_n {B K : Nat} (hB : B < 256) (hK : K ≤ 9) : FX8_outside (nI B - (48 : Int32)) (0 : Int32) (nI K) = !(decide (48 ≤ B) && decide (B ≤ 48 + K)) := by
  unfold FX8_outside
  by_cases c : 48 ≤ B
  · rw [nlit 48, pk_sub c, if_neg (nI_pos (by omega))]
    have cc : (nI (B - 48) ≤ nI K) ↔ B - 48 ≤ K := nI_leI (by omega) (by omega)
    by_cases c2 : B ≤ 48 + K
    · rw [if_pos (cc.mpr (by omega)), decide_eq_true c, decide_eq_true c2]; rfl
    · rw [if_neg (fun y => absurd (cc.mp y) (by omega)), decide_eq_true c, decide_eq_false c2]; rfl
  · rw [if_pos (show nI B - (48 : Int32) < 0 from pk_sneg (a := B) (b := 48) (by decide) (by omega)), decide_eq_false c]; rfl
theorem in_n {B : Nat} (hB : B < 256) : FX9_in (nI B - (48 : Int32)).toInt64 (0 : Int64) (9 : Int64) = (decide (48 ≤ B) && decide (B ≤ 57)) := by
  have h := rngI (nI B - (48 : Int32)) (0 : Int32) (9 : Int32) (0 : Int64) (9 : Int64) rfl rfl
  have e := out_n hB (K := 9) (by decide)
  have e9 : nI 9 = (9 : Int32) := rfl
  rw [e9] at e
  have e57 : 48 + 9 = 57 := rfl
  rw [e57] at e
  rw [e] at h
  cases hh : (decide (48 ≤ B) && decide (B ≤ 57)) with
  | true =>
    rw [hh] at h
    rcases h with ⟨h1, -⟩ | ⟨-, h2, -⟩
    · cases h1
    · exact h2
  | false =>
    rw [hh] at h
    rcases h with ⟨-, h2⟩ | ⟨h1, -⟩
    · cases hx : FX9_in (nI B - (48 : Int32)).toInt64 (0 : Int64) (9 : Int64) with
      | true => exact absurd hx h2
      | false => rfl
    · exact absurd rfl h1
/-! the class reads -/
section TC
variable {b : Nat → Nat} {n : Nat} {tb mt : Nat → Int32}
theorem sign_n (hn : n ≤ 72) (hb : ∀ j, j < n → b j < 256 ∧ tb j = nI (b j)) {j : Nat} (hj : j < n) : FX6_sign tb (nI j) = nI (b j) := by
  unfold FX6_sign
  rw [gat_n (by omega) (by decide), (hb j hj).2]
theorem figu_n (hn : n ≤ 72) (hb : ∀ j, j < n → b j < 256 ∧ tb j = nI (b j)) {j : Nat} (hj : j < n) : FX6_figure tb (nI j) = nI (b j) - (48 : Int32) := by
  unfold FX6_figure
  rw [gat_n (by omega) (by decide), (hb j hj).2]
theorem rem6 {j : Nat} (hj : j < 72) : nI j - nI j / (6 : Int32) * (6 : Int32) = nI (j % 6) := pk_rem (d := 6) (by omega) (by decide) (by decide)
theorem fig_s {B : Nat} (h : 48 ≤ B) : nI B - (48 : Int32) = nI (B - 48) := by
  rw [nlit 48, pk_sub h]
theorem seat_n (hn : n ≤ 72) (hb : ∀ j, j < n → b j < 256 ∧ tb j = nI (b j)) {m : Nat} (hm : 6 * m + 2 < n) (h1 : 48 ≤ b (6 * m + 1)) (h2 : 48 ≤ b (6 * m + 2)) : FX6_seat tb (nI (6 * m + 2)) = (1 : Int32) <<< (nI (se b m) &&& 31) := by
  have e : nI (6 * m + 2) - (1 : Int32) = nI (6 * m + 1) := nI_pred (6 * m + 1)
  unfold FX6_seat se fg
  rw [e, figu_n hn hb (show 6 * m + 1 < n by omega), figu_n hn hb hm, fig_s h1, fig_s h2, nmul 6, nI_add]
theorem fits_n (hn : n ≤ 72) (hb : ∀ j, j < n → b j < 256 ∧ tb j = nI (b j)) {j : Nat} (hj : j < n) (hp : ∀ i, i < j → okN b i = true) : FX6_fits tb (nI j) (nI (bN (UM b ((j + 3) / 6)) 24)) = okN b j := by
  have hbj := (hb j hj).1
  have hbt : bN (UM b ((j + 3) / 6)) 24 < 2147483648 := by
    have h1 := bN_lt (UM b ((j + 3) / 6)) 24
    have h24 : 2 ^ 24 = 16777216 := rfl
    omega
  unfold FX6_fits okN
  rw [rem6 (by omega), sign_n hn hb hj, figu_n hn hb hj]
  have h6 : j % 6 < 6 := Nat.mod_lt _ (by decide)
  by_cases c0 : j % 6 = 0
  · rw [c0, if_pos (show nI 0 = (0 : Int32) from rfl), if_pos (show (0 : Nat) = 0 from rfl)]
    have k1 : (nI (b j) = (80 : Int32)) ↔ b j = 80 := nI_eq (b := 80) (by omega) (by decide)
    have k2 : (nI (b j) = (70 : Int32)) ↔ b j = 70 := nI_eq (b := 70) (by omega) (by decide)
    by_cases e1 : b j = 80
    · rw [if_pos (k1.mpr e1), decide_eq_true e1]; rfl
    · rw [if_neg (fun y => e1 (k1.mp y)), decide_eq_false e1]
      by_cases e2 : b j = 70
      · rw [if_pos (k2.mpr e2), decide_eq_true e2]; rfl
      · rw [if_neg (fun y => e2 (k2.mp y)), decide_eq_false e2]; rfl
  · by_cases c1 : j % 6 = 1
    · have hd : (j + 3) / 6 = j / 6 := by omega
      have o3 := out_n hbj (K := 3) (by decide)
      have n3 : nI 3 = (3 : Int32) := rfl
      have n51 : 48 + 3 = 51 := rfl
      rw [n3, n51] at o3
      rw [c1, if_neg (show ¬ nI 1 = (0 : Int32) by decide), if_pos (show nI 1 = (1 : Int32) from rfl), if_neg (show ¬ (1 : Nat) = 0 by decide), if_pos (show (1 : Nat) = 1 from rfl), o3, hd]
      cases hh : (decide (48 ≤ b j) && decide (b j ≤ 51)) with
      | false => rfl
      | true =>
        obtain ⟨h1, h2⟩ := (Bool.and_eq_true _ _).mp hh
        have h1' := of_decide_eq_true h1
        have h2' := of_decide_eq_true h2
        have hr : b j - 48 < 4 := by omega
        rw [hd] at hbt
        have hm : nI (bN (UM b (j / 6)) 24 / 2 ^ (6 * (b j - 48))) &&& (63 : Int32) = nI (bN (UM b (j / 6)) 24 / 2 ^ (6 * (b j - 48)) % 2 ^ 6) := by
          have hx : bN (UM b (j / 6)) 24 / 2 ^ (6 * (b j - 48)) ≤ bN (UM b (j / 6)) 24 := Nat.div_le_self _ _
          exact pk_andN (by omega) (m := 63) 6 (by decide)
        have hlt6 := bN_lt (fun c => UM b (j / 6) (6 * (b j - 48) + c)) 6
        have h64 : 2 ^ 6 = 64 := rfl
        have c63 : (nI (bN (fun c => UM b (j / 6) (6 * (b j - 48) + c)) 6) = (63 : Int32)) ↔ bN (fun c => UM b (j / 6) (6 * (b j - 48) + c)) 6 = 63 := nI_eq (b := 63) (by omega) (by decide)
        have e63 := bN_63 (fun c => UM b (j / 6) (6 * (b j - 48) + c))
        have ef : frW b (j / 6) (fg b j) = bN (fun i => !(UM b (j / 6) (6 * (b j - 48) + i))) 6 := rfl
        rw [if_neg (show ¬ (!true) = true by decide), fig_s h1', nmul 6, pk_shrN hbt (nI (6 * (b j - 48)) &&& 31) (6 * (b j - 48)) (sh_l _ (by omega)), hm, bN_cut hr, ef, Bool.true_and]
        by_cases c : bN (fun c => UM b (j / 6) (6 * (b j - 48) + c)) 6 = 63
        · rw [if_pos (c63.mpr c), decide_eq_false (fun y => y (e63.mp c))]
        · rw [if_neg (fun y => c (c63.mp y)), decide_eq_true (show ¬ bN (fun i => !(UM b (j / 6) (6 * (b j - 48) + i))) 6 = 0 from fun y => c (e63.mpr y))]
    · by_cases c2 : j % 6 = 2
      · obtain ⟨m, rfl⟩ : ∃ m, j = 6 * m + 2 := ⟨j / 6, by omega⟩
        have hd : (6 * m + 2 + 3) / 6 = m := by omega
        have hd2 : (6 * m + 2) / 6 = m := by omega
        have hd3 : 6 * m + 2 - 1 = 6 * m + 1 := rfl
        have o5 := out_n hbj (K := 5) (by decide)
        have n5 : nI 5 = (5 : Int32) := rfl
        have e65 : (6 : Int32) - (1 : Int32) = (5 : Int32) := by decide
        have n53 : 48 + 5 = 53 := rfl
        rw [n5, n53] at o5
        have hpr := hp (6 * m + 1) (by omega)
        unfold okN at hpr
        rw [if_neg (show ¬ (6 * m + 1) % 6 = 0 by omega), if_pos (show (6 * m + 1) % 6 = 1 by omega)] at hpr
        obtain ⟨hp1, -⟩ := (Bool.and_eq_true _ _).mp hpr
        obtain ⟨hp2, hp3⟩ := (Bool.and_eq_true _ _).mp hp1
        have hp2' := of_decide_eq_true hp2
        have hp3' := of_decide_eq_true hp3
        rw [c2, if_neg (show ¬ nI 2 = (0 : Int32) by decide), if_neg (show ¬ nI 2 = (1 : Int32) by decide), if_pos (show nI 2 = (2 : Int32) from rfl), if_neg (show ¬ (2 : Nat) = 0 by decide), if_neg (show ¬ (2 : Nat) = 1 by decide), if_pos (show (2 : Nat) = 2 from rfl), o5, hd, hd2, hd3]
        cases hh : (decide (48 ≤ b (6 * m + 2)) && decide (b (6 * m + 2) ≤ 53)) with
        | false => rfl
        | true =>
          obtain ⟨h1, h2⟩ := (Bool.and_eq_true _ _).mp hh
          have h1' := of_decide_eq_true h1
          have h2' := of_decide_eq_true h2
          have hs : se b m < 24 := by unfold se fg; omega
          have ha := and_bit (U := UM b m) hs
          have ef : frB b m (fg b (6 * m + 1)) (fg b (6 * m + 2)) = !(UM b m (se b m)) := rfl
          rw [if_neg (show ¬ (!true) = true by decide), seat_n hn hb hj hp2' h1', ef, Bool.true_and]
          cases hu : UM b m (se b m) with
          | false => rw [if_pos (ha.mpr hu)]; rfl
          | true => rw [if_neg (fun y => by rw [ha.mp y] at hu; cases hu)]; rfl
      · have o9 := out_n hbj (K := 9) (by decide)
        have n9 : nI 9 = (9 : Int32) := rfl
        have n57 : 48 + 9 = 57 := rfl
        rw [n9, n57] at o9
        have k0 : ¬ nI (j % 6) = (0 : Int32) := fun y => c0 ((nI_eq (b := 0) (by omega) (by decide)).mp y)
        have k1 : ¬ nI (j % 6) = (1 : Int32) := fun y => c1 ((nI_eq (b := 1) (by omega) (by decide)).mp y)
        have k2 : ¬ nI (j % 6) = (2 : Int32) := fun y => c2 ((nI_eq (b := 2) (by omega) (by decide)).mp y)
        rw [if_neg k0, if_neg k1, if_neg k2, if_neg c0, if_neg c1, if_neg c2, o9]
        cases hh : (decide (48 ≤ b j) && decide (b j ≤ 57)) with
        | false => rfl
        | true => rfl
/-- what a fitting seat is -/
theorem ok_1 {m : Nat} (h : okN b (6 * m + 1) = true) : 48 ≤ b (6 * m + 1) ∧ b (6 * m + 1) ≤ 51 ∧ ¬ frW b m (fg b (6 * m + 1)) = 0 := by
  unfold okN at h
  rw [if_neg (show ¬ (6 * m + 1) % 6 = 0 by omega), if_pos (show (6 * m + 1) % 6 = 1 by omega), show (6 * m + 1) / 6 = m by omega] at h
  obtain ⟨h1, h3⟩ := (Bool.and_eq_true _ _).mp h
  obtain ⟨h1, h2⟩ := (Bool.and_eq_true _ _).mp h1
  exact ⟨of_decide_eq_true h1, of_decide_eq_true h2, of_decide_eq_true h3⟩
theorem ok_2 {m : Nat} (h : okN b (6 * m + 2) = true) : 48 ≤ b (6 * m + 2) ∧ b (6 * m + 2) ≤ 53 ∧ frB b m (fg b (6 * m + 1)) (fg b (6 * m + 2)) = true := by
  unfold okN at h
  rw [if_neg (show ¬ (6 * m + 2) % 6 = 0 by omega), if_neg (show ¬ (6 * m + 2) % 6 = 1 by omega), if_pos (show (6 * m + 2) % 6 = 2 by omega), show (6 * m + 2) / 6 = m by omega] at h
  obtain ⟨h1, h3⟩ := (Bool.and_eq_true _ _).mp h
  obtain ⟨h1, h2⟩ := (Bool.and_eq_true _ _).mp h1
  exact ⟨of_decide_eq_true h1, of_decide_eq_true h2, h3⟩
theorem ok_3 {j : Nat} (hj : 3 ≤ j % 6) (h : okN b j = true) : 48 ≤ b j ∧ b j ≤ 57 := by
  unfold okN at h
  rw [if_neg (show ¬ j % 6 = 0 by omega), if_neg (show ¬ j % 6 = 1 by omega), if_neg (show ¬ j % 6 = 2 by omega)] at h
  obtain ⟨h1, h2⟩ := (Bool.and_eq_true _ _).mp h
  exact ⟨of_decide_eq_true h1, of_decide_eq_true h2⟩
theorem ok_0 {m : Nat} (h : okN b (6 * m) = true) : b (6 * m) = 80 ∨ b (6 * m) = 70 := by
  unfold okN at h
  rw [if_pos (show (6 * m) % 6 = 0 by omega)] at h
  rcases (Bool.or_eq_true _ _).mp h with h | h
  · exact Or.inl (of_decide_eq_true h)
  · exact Or.inr (of_decide_eq_true h)
def fauN (n F : Nat) : Int32 := if F = n ∧ n % 6 = 0 then -9 else nI F
theorem fau8 {F : Nat} (hn : n ≤ 72) (hb : ∀ j, j < n → b j < 256 ∧ tb j = nI (b j)) (hF : F ≤ n) (h1 : ∀ j, j < F → okN b j = true) (h2 : F < n → okN b F = false) : FX6_firstFault (nI n) tb = some (fauN n F) := by
  have hl : itr (fun v => FX6_firstFault_S4 (nI n) tb v.1 v.2) fu ((0 : Int32), (0 : Int32)) = some (if F < n then .inr (nI F) else .inl ()) := by
    refine itr_P (P := F) (g := fun j => nI (bN (UM b ((j + 3) / 6)) 24)) (by omega) _ rfl (fun j hj => ?_) ?_
    · show FX6_firstFault_S4 (nI n) tb (nI (bN (UM b ((j + 3) / 6)) 24)) (nI j) = _
      unfold FX6_firstFault_S4
      rw [if_neg (nI_ge (show j < n by omega) (by omega)), fits_n hn hb (show j < n by omega) (fun i hi => h1 i (by omega)), if_pos (h1 j hj), rem6 (by omega), nI_1]
      by_cases c2 : j % 6 = 2
      · obtain ⟨m, rfl⟩ : ∃ m, j = 6 * m + 2 := ⟨j / 6, by omega⟩
        obtain ⟨k1, k2, -⟩ := ok_1 (h1 (6 * m + 1) (by omega))
        obtain ⟨k3, k4, -⟩ := ok_2 (h1 (6 * m + 2) hj)
        have hs : se b m < 24 := by unfold se fg; omega
        have e1 : (6 * m + 2 + 3) / 6 = m := by omega
        have e2 : (6 * m + 2 + 1 + 3) / 6 = m + 1 := by omega
        rw [c2, if_pos (show nI 2 = (2 : Int32) from rfl), seat_n hn hb (show 6 * m + 2 < n by omega) k1 k3, e1, e2, or_bit hs]
        rfl
      · have e : (j + 1 + 3) / 6 = (j + 3) / 6 := by omega
        have k2 : ¬ nI (j % 6) = (2 : Int32) := fun y => c2 ((nI_eq (b := 2) (by omega) (by decide)).mp y)
        rw [if_neg k2, e]
    · show FX6_firstFault_S4 (nI n) tb (nI (bN (UM b ((F + 3) / 6)) 24)) (nI F) = _
      unfold FX6_firstFault_S4
      by_cases c : F < n
      · rw [if_neg (nI_ge c (by omega)), fits_n hn hb c h1, h2 c, if_neg (show ¬ false = true by decide), if_pos c]
      · rw [if_pos (nI_le (show n ≤ F by omega) (by omega)), if_neg c]
  unfold FX6_firstFault fauN
  rw [hl, Option.bind_some]
  have c6 : (nI (n % 6) = 0) ↔ n % 6 = 0 := nI_eq (b := 0) (by omega) (by decide)
  have e6 : nI n - nI n / (6 : Int32) * (6 : Int32) = nI (n % 6) := pk_rem (d := 6) (by omega) (by decide) (by decide)
  by_cases c : F < n
  · have hc : ¬ (F = n ∧ n % 6 = 0) := fun y => by omega
    rw [if_pos c, if_neg hc]
    rfl
  · have hFn : F = n := by omega
    rw [if_neg c]
    show (if (nI n - nI n / (6 : Int32) * (6 : Int32)) = 0 then some (-9 : Int32) else some (nI n)) = _
    rw [e6]
    by_cases c2 : n % 6 = 0
    · rw [if_pos (c6.mpr c2), if_pos ⟨hFn, c2⟩]
    · have hc : ¬ (F = n ∧ n % 6 = 0) := fun y => c2 y.2
      rw [if_neg (fun y => c2 (c6.mp y)), if_neg hc, hFn]
/-! the reference reads -/
theorem fig_ok (hn : n ≤ 72) (hm : ∀ j, j < n → b j < 256 ∧ mt j = nI (b j)) {j A : Nat} (hj : j < n) (h1 : 48 ≤ b j) (h2 : b j ≤ 57) (hA : A < 2147483648) (hb : A.testBit (fg b j) = true) : FX9_figure (nI n) (nI j) (-9 : Int32) mt (nI A) = some (nI (fg b j), (-9 : Int32), nI (j + 1)) := by
  have hbj := (hm j hj).1
  unfold fg at hb
  unfold FX9_figure FX9_figure_J36 fg
  rw [if_pos rfl, if_neg (nI_ge hj (by omega)), gdI (by omega) (by decide), nI_clamp (by omega), (hm j hj).2, in_n hbj, decide_eq_true h1, decide_eq_true h2, if_pos (show (true && true) = true from rfl), fig_s h1, bit_n hA (by omega), bit_t, if_pos hb, if_neg (show ¬ nI 1 = (0 : Int32) by decide), nI_1]
theorem fig_no (hn : n ≤ 72) (hm : ∀ j, j < n → b j < 256 ∧ mt j = nI (b j)) {j A : Nat} (hA : A < 2147483648) (hj : j ≤ n) (h : j < n → 48 ≤ b j → b j ≤ 57 → A.testBit (fg b j) = false) : FX9_figure (nI n) (nI j) (-9 : Int32) mt (nI A) = some ((0 : Int32), nI j, nI j) := by
  unfold FX9_figure FX9_figure_J35 FX9_figure_J36 FX9_figure_J57 FX9_figure_J78
  rw [if_pos rfl]
  by_cases c : j < n
  · have hbj := (hm j c).1
    rw [if_neg (nI_ge c (by omega)), gdI (by omega) (by decide), nI_clamp (by omega), (hm j c).2, in_n hbj]
    by_cases h1 : 48 ≤ b j
    · by_cases h2 : b j ≤ 57
      · have hb := h c h1 h2
        unfold fg at hb
        rw [decide_eq_true h1, decide_eq_true h2, if_pos (show (true && true) = true from rfl), fig_s h1, bit_n hA (by omega), bit_t, hb, if_neg (show ¬ false = true by decide), if_pos (show nI 0 = (0 : Int32) from rfl), if_pos rfl]
      · rw [decide_eq_true h1, decide_eq_false h2, if_neg (by decide), if_pos rfl]
    · rw [decide_eq_false h1, if_neg (by rw [Bool.false_and]; decide), if_pos rfl]
  · rw [if_pos (nI_le (show n ≤ j by omega) (by omega)), if_neg (by decide), if_pos rfl]
theorem fig_st {x y A : Int32} {F : Nat} (hF : F ≤ 72) : FX9_figure x y (nI F) mt A = some ((0 : Int32), nI F, y) := by
  have hne : ¬ nI F = (-9 : Int32) := fun y => by
    have h2 := nI_toInt (n := F) (by omega)
    rw [y] at h2
    have h3 : (-9 : Int32).toInt = -9 := by decide
    omega
  unfold FX9_figure FX9_figure_J35 FX9_figure_J36 FX9_figure_J57 FX9_figure_J78
  rw [if_neg hne, if_neg (by decide), if_neg hne]
/-- the rows of those that were read -/
def RD (b : Nat → Nat) (m : Nat) (rd : Nat → Int32) : Prop := ∀ p, p < m → rd (6 * p) = nI (fg b (6 * p + 1)) ∧ rd (6 * p + 1) = nI (fg b (6 * p + 2)) ∧ rd (6 * p + 2) = nI (fg b (6 * p + 3)) ∧ rd (6 * p + 3) = nI (fg b (6 * p + 4)) ∧ rd (6 * p + 4) = nI (fg b (6 * p + 5)) ∧ rd (6 * p + 5) = (if b (6 * p) = 70 then 1 else 0)
theorem frB_s (m row c : Nat) : frB b (m + 1) row c = (frB b m row c && !(decide (6 * row + c = se b m))) := by
  unfold frB
  show (!(UM b m (6 * row + c) || decide (6 * row + c = se b m))) = _
  rw [Bool.not_or]
theorem frW_lt (m row : Nat) : frW b m row < 64 := bN_lt _ 6
theorem and63 {x : Nat} (hx : x < 64) : nI x &&& (63 : Int32) = nI x := by
  rw [pk_andN (by omega) (m := 63) 6 (by decide)]
  congr 1
  exact Nat.mod_eq_of_lt hx
theorem fr_step {m row c : Nat} (hc : fg b (6 * m + 2) = c) (hc6 : c < 6) : nI (frW b m row) &&& (if fg b (6 * m + 1) = row then ((1 : Int32) <<< (nI c &&& 31)) ^^^ (-1 : Int32) else (63 : Int32)) = nI (frW b (m + 1) row) := by
  have hlt := frW_lt (b := b) m row
  by_cases h : fg b (6 * m + 1) = row
  · rw [if_pos h, shl1 (by omega), andn_n (by omega)]
    congr 1
    apply Nat.eq_of_testBit_eq
    intro i
    unfold frW
    rw [Nat.testBit_xor, Nat.testBit_and, Nat.testBit_two_pow, bN_bit, bN_bit, frB_s]
    by_cases ci : i < 6
    · have e : (6 * row + i = se b m) ↔ c = i := by unfold se; rw [h, hc]; omega
      by_cases c2 : c = i
      · rw [decide_eq_true (e.mpr c2), decide_eq_true c2, decide_eq_true ci]
        cases frB b m row i <;> rfl
      · rw [decide_eq_false (fun y => c2 (e.mp y)), decide_eq_false c2, decide_eq_true ci]
        cases frB b m row i <;> rfl
    · rw [decide_eq_false ci]
      rfl
  · rw [if_neg h, and63 hlt]
    congr 1
    apply Nat.eq_of_testBit_eq
    intro i
    unfold frW
    rw [bN_bit, bN_bit, frB_s]
    by_cases ci : i < 6
    · have e : ¬ (6 * row + i = se b m) := by unfold se; rw [hc]; omega
      rw [decide_eq_false e, Bool.not_false, Bool.and_true]
    · rw [decide_eq_false ci]
      rfl
theorem free_n {m row : Nat} {rd : Nat → Int32} (hm : m ≤ 12) (hrow : row < 10) (hrd : RD b m rd) (hok : ∀ j, j < 6 * m → okN b j = true) : FX9_free (nI m) rd (nI row) = some (nI (frW b m row)) := by
  have hl : itr (fun v => FX9_free_S5 (nI m) rd (nI row) v.1 v.2) fu ((63 : Int32), (0 : Int32)) = some (nI (frW b m row)) := by
    refine itr_P (P := m) (g := fun p => nI (frW b p row)) (by omega) _ rfl (fun p hp => ?_) ?_
    · show FX9_free_S5 (nI m) rd (nI row) (nI (frW b p row)) (nI p) = _
      obtain ⟨r0, r1, -⟩ := hrd p hp
      obtain ⟨k1, k2, -⟩ := ok_1 (hok (6 * p + 1) (by omega))
      obtain ⟨k3, k4, -⟩ := ok_2 (hok (6 * p + 2) (by omega))
      have hc6 : fg b (6 * p + 2) < 6 := by unfold fg; omega
      have hr4 : fg b (6 * p + 1) < 4 := by unfold fg; omega
      have e0 : (6 : Int32) * nI p = nI (6 * p) := x6z p
      have e1 : (6 : Int32) * nI p + (1 : Int32) = nI (6 * p + 1) := x6 p 1
      have g0 : ¬ (nI (6 * p) < 0 ∨ 72 ≤ 6 * p) := gd2 (by omega) (by decide)
      have g1 : ¬ (nI (6 * p + 1) < 0 ∨ 72 ≤ 6 * p + 1) := gd2 (by omega) (by decide)
      have cr : (nI (fg b (6 * p + 1)) = nI row) ↔ fg b (6 * p + 1) = row := nI_eq (by omega) (by omega)
      have hs := fr_step (b := b) (m := p) (row := row) (c := fg b (6 * p + 2)) rfl hc6
      unfold FX9_free_S5 FX9_free_J47L5
      rw [if_neg (nI_ge hp (by omega)), e1, e0, nI_clamp (n := 6 * p) (by omega), nI_clamp (n := 6 * p + 1) (by omega), if_neg g0, if_neg g1, r0, r1, nI_1]
      by_cases h : fg b (6 * p + 1) = row
      · rw [if_pos h] at hs
        rw [if_pos (cr.mpr h), hs]
      · rw [if_neg h] at hs
        rw [if_neg (fun y => h (cr.mp y)), hs]
    · show FX9_free_S5 (nI m) rd (nI row) _ (nI m) = _
      unfold FX9_free_S5
      rw [if_pos (nI_le (Nat.le_refl m) (by omega))]
  unfold FX9_free
  rw [hl]
  rfl
def rwB (b : Nat → Nat) (m r : Nat) : Bool := decide (¬ frW b m r = 0)
theorem rows_n {m : Nat} {rd : Nat → Int32} (hm : m ≤ 12) (hrd : RD b m rd) (hok : ∀ j, j < 6 * m → okN b j = true) : itr (fun v => FX9_readText_S81 (nI m) rd v.1 v.2) fu ((0 : Int32), (0 : Int32)) = some (nI (bN (rwB b m) 4)) := by
  refine itr_P (P := 4) (g := fun r => nI (bN (rwB b m) r)) (by decide) _ rfl (fun r hr => ?_) ?_
  · show FX9_readText_S81 (nI m) rd (nI (bN (rwB b m) r)) (nI r) = _
    have hlt := frW_lt (b := b) m r
    have c0 : (nI (frW b m r) = 0) ↔ frW b m r = 0 := nI_eq (b := 0) (by omega) (by decide)
    have hs := bN_step (U := rwB b m) (k := r) (by omega)
    have z0 : nI (bN (rwB b m) r) ||| (0 : Int32) = nI (bN (rwB b m) r) := Int32.or_zero
    unfold FX9_readText_S81 FX9_readText_J102L81
    rw [if_neg (gl 4 hr (by decide)), free_n hm (by omega) hrd hok, Option.bind_some, nI_1, z0]
    by_cases h : frW b m r = 0
    · have hf : ¬ rwB b m r = true := by unfold rwB; rw [decide_eq_false (fun y => y h)]; decide
      rw [if_neg hf] at hs
      rw [if_pos (c0.mpr h), hs]
    · have hf : rwB b m r = true := decide_eq_true h
      rw [if_pos hf] at hs
      rw [if_neg (fun y => h (c0.mp y)), hs]
  · show FX9_readText_S81 (nI m) rd _ (nI 4) = _
    unfold FX9_readText_S81
    rw [if_pos (by decide)]
/-- does a figure fit, told by the places that fit -/
theorem row_t {m : Nat} (h1 : 48 ≤ b (6 * m + 1)) (h2 : b (6 * m + 1) ≤ 57) : (bN (rwB b m) 4).testBit (fg b (6 * m + 1)) = okN b (6 * m + 1) := by
  rw [bN_bit]
  unfold okN
  rw [if_neg (show ¬ (6 * m + 1) % 6 = 0 by omega), if_pos (show (6 * m + 1) % 6 = 1 by omega), show (6 * m + 1) / 6 = m by omega, decide_eq_true h1, Bool.true_and]
  have e : (fg b (6 * m + 1) < 4) ↔ b (6 * m + 1) ≤ 51 := by unfold fg; omega
  by_cases c : b (6 * m + 1) ≤ 51
  · rw [decide_eq_true c, decide_eq_true (e.mpr c)]
    rfl
  · rw [decide_eq_false c, decide_eq_false (fun y => c (e.mp y))]
    rfl
theorem col_t {m : Nat} (h1 : 48 ≤ b (6 * m + 2)) (h2 : b (6 * m + 2) ≤ 57) : (frW b m (fg b (6 * m + 1))).testBit (fg b (6 * m + 2)) = okN b (6 * m + 2) := by
  unfold frW
  rw [bN_bit]
  unfold okN
  rw [if_neg (show ¬ (6 * m + 2) % 6 = 0 by omega), if_neg (show ¬ (6 * m + 2) % 6 = 1 by omega), if_pos (show (6 * m + 2) % 6 = 2 by omega), show (6 * m + 2) / 6 = m by omega, show 6 * m + 2 - 1 = 6 * m + 1 from rfl, decide_eq_true h1, Bool.true_and]
  have e : (fg b (6 * m + 2) < 6) ↔ b (6 * m + 2) ≤ 53 := by unfold fg; omega
  by_cases c : b (6 * m + 2) ≤ 53
  · rw [decide_eq_true c, decide_eq_true (e.mpr c)]
  · rw [decide_eq_false c, decide_eq_false (fun y => c (e.mp y))]
theorem oth_t {j : Nat} (hj : 3 ≤ j % 6) (h1 : 48 ≤ b j) (h2 : b j ≤ 57) : (1023 : Nat).testBit (fg b j) = okN b j := by
  have e2 : (1023 : Nat) = 2 ^ 10 - 1 := rfl
  unfold okN
  rw [e2, Nat.testBit_two_pow_sub_one, if_neg (show ¬ j % 6 = 0 by omega), if_neg (show ¬ j % 6 = 1 by omega), if_neg (show ¬ j % 6 = 2 by omega), decide_eq_true h1, decide_eq_true h2, decide_eq_true (show fg b j < 10 by unfold fg; omega)]
  rfl
end TC
