/-! numbers and ranges, for both sides -/
theorem nadd (a k : Nat) : nI a + (OfNat.ofNat k : Int32) = nI (a + k) := nI_add a k
theorem nmul (k a : Nat) : (OfNat.ofNat k : Int32) * nI a = nI (k * a) := pk_mul k a
theorem nlit (k : Nat) : (OfNat.ofNat k : Int32) = nI k := rfl
theorem rngI (p lo hi : Int32) (lo6 hi6 : Int64) (h3 : lo6.toInt = lo.toInt) (h4 : hi6.toInt = hi.toInt) : (FX8_outside p lo hi = true ∧ ¬ FX9_in p.toInt64 lo6 hi6 = true) ∨ (¬ FX8_outside p lo hi = true ∧ FX9_in p.toInt64 lo6 hi6 = true ∧ ¬ p < lo ∧ p ≤ hi) := by
  have e1 : p.toInt64 < lo6 ↔ p < lo := by rw [Int64.lt_iff_toInt_lt, Int32.lt_iff_toInt_lt, Int32.toInt_toInt64, h3]
  have e2 : hi6 < p.toInt64 ↔ hi < p := by rw [Int64.lt_iff_toInt_lt, Int32.lt_iff_toInt_lt, Int32.toInt_toInt64, h4]
  unfold FX8_outside FX9_in
  by_cases c1 : p < lo
  · exact Or.inl ⟨by rw [if_pos c1], by rw [if_pos (e1.mpr c1)]; decide⟩
  · by_cases c2 : p ≤ hi
    · exact Or.inr ⟨by rw [if_neg c1, if_pos c2]; decide, by rw [if_neg (fun q => c1 (e1.mp q)), if_neg (fun q => absurd (e2.mp q) (Int32.not_lt.mpr c2))], c1, c2⟩
    · exact Or.inl ⟨by rw [if_neg c1, if_neg c2], by rw [if_neg (fun q => c1 (e1.mp q)), if_pos (e2.mpr (Int32.not_le.mp c2))]; decide⟩
theorem rng (p lo hi : Int32) (lo6 hi6 : Int64) (a b : Nat) (h1 : lo = nI a) (h2 : hi = nI b) (h3 : lo6 = lN a) (h4 : hi6 = lN b) (ha : a < 2147483648) (hb : b < 2147483648) : (FX8_outside p lo hi = true ∧ ¬ FX9_in p.toInt64 lo6 hi6 = true) ∨ (∃ j : Nat, a ≤ j ∧ j ≤ b ∧ p = nI j ∧ ¬ FX8_outside p lo hi = true ∧ FX9_in p.toInt64 lo6 hi6 = true) := by
  rcases rngI p lo hi lo6 hi6 (by rw [h1, h3, nI_toInt ha, lN_toInt ha]) (by rw [h2, h4, nI_toInt hb, lN_toInt hb]) with h | ⟨c1, c2, c3, c4⟩
  · exact Or.inl h
  · subst h1; subst h2
    have h0 : ¬ p < 0 := fun q => c3 (Int32.lt_of_lt_of_le q (nI_pos' ha))
    obtain ⟨j, hj, rfl⟩ := nI_of2 (nI_toInt hb) h0 c4
    exact Or.inr ⟨j, Nat.not_lt.mp (fun q => c3 ((nI_ltI (by omega) ha).mpr q)), hj, rfl, c1, c2⟩
theorem rngP (p : Int32) (P : Nat) (hP : P < 2147483648) : (FX8_outside p (0 : Int32) (nI P - (1 : Int32)) = true ∧ ¬ FX9_in p.toInt64 (0 : Int64) ((nI P - (1 : Int32)).toInt64) = true) ∨ (∃ j : Nat, j < P ∧ p = nI j ∧ ¬ FX8_outside p (0 : Int32) (nI P - (1 : Int32)) = true ∧ FX9_in p.toInt64 (0 : Int64) ((nI P - (1 : Int32)).toInt64) = true) := by
  rcases rngI p (0 : Int32) (nI P - (1 : Int32)) (0 : Int64) ((nI P - (1 : Int32)).toInt64) rfl (Int32.toInt_toInt64 _) with h | ⟨c1, c2, c3, c4⟩
  · exact Or.inl h
  · cases P with
    | zero => exact absurd c3 (fun q => q (Int32.lt_of_le_of_lt c4 (by decide)))
    | succ P =>
      rw [nI_pred] at c1 c2 c4 ⊢
      obtain ⟨j, hj, rfl⟩ := nI_of2 (nI_toInt (by omega)) c3 c4
      exact Or.inr ⟨j, by omega, rfl, c1, c2⟩
theorem gat_n {f : Nat → Int32} {n j : Nat} (hj : j < n) (hn : n < 2147483648) : gat f n (nI j) = f j := by
  unfold gat
  rw [if_neg (nI_pos (by omega)), if_neg (nI_ge hj hn), nI_clamp (by omega)]
theorem gput_n {f : Nat → Int32} {n j : Nat} {v : Int32} (hj : j < n) (hn : n < 2147483648) : gput f n (nI j) v = upd f j v := by
  unfold gput
  rw [if_neg (nI_pos (by omega)), if_neg (nI_ge hj hn), nI_clamp (by omega)]
theorem upd_s {f : Nat → Int32} {k : Nat} {x : Int32} : upd f k x k = x := by simp [upd]
theorem upd_n {f : Nat → Int32} {k j : Nat} {x : Int32} (h : j ≠ k) : upd f k x j = f j := by simp [upd, h]
theorem gdI {α : Type} {t : Option α} {i N : Nat} (h : i < N) (hN : N < 2147483648) : (if nI i < 0 ∨ N ≤ (nI i).toNatClampNeg then none else t) = t := if_neg (vp_in_nI h hN)
theorem x6 (p k : Nat) : (6 : Int32) * nI p + (OfNat.ofNat k : Int32) = nI (6 * p + k) := by rw [nmul 6 p]; exact nadd _ _
theorem x6z (p : Nat) : (6 : Int32) * nI p = nI (6 * p) := nmul 6 p
/-- loops that count up to P -/
theorem itr_P {β : Type} {σ : Type} {f : σ × Int32 → Option ((σ × Int32) ⊕ β)} {g : Nat → σ} {P : Nat} {r : β} (hP : P < 3000) (x : σ) (hx : x = g 0) (h1 : ∀ k, k < P → f (g k, nI k) = some (.inl (g (k + 1), nI (k + 1)))) (h2 : f (g P, nI P) = some (.inr r)) : itr f fu (x, (0 : Int32)) = some r :=
  itr_cnt (g := fun k => (g k, nI k)) (e := P) (fu_le hP) (by rw [hx]; rfl) h1 h2
theorem itr_Q {β : Type} {σ : Type} {f : Int32 × σ → Option ((Int32 × σ) ⊕ β)} {g : Nat → σ} {P : Nat} {r : β} (hP : P < 3000) (x : σ) (hx : x = g 0) (h1 : ∀ k, k < P → f (nI k, g k) = some (.inl (nI (k + 1), g (k + 1)))) (h2 : f (nI P, g P) = some (.inr r)) : itr f fu ((0 : Int32), x) = some r :=
  itr_cnt (g := fun k => (nI k, g k)) (e := P) (fu_le hP) (by rw [hx]; rfl) h1 h2
/-- who may put up a hand, by how many tenths -/
def mayN (mo d f q w : Nat) : Bool := decide (mo ≤ d) && (decide (f = 1) || decide (q ≤ w))
def upN (mo d f q k w : Nat) : Nat := if mayN mo d f q w = true then (if f = 1 then 10 else k) else 0
def sumN (f : Nat → Nat) : Nat → Nat
  | 0 => 0
  | n + 1 => sumN f n + f n
theorem sumN_le {f : Nat → Nat} {B : Nat} (h : ∀ i, f i ≤ B) : ∀ n, sumN f n ≤ n * B
  | 0 => by simp [sumN]
  | n + 1 => by
    have h1 := sumN_le h n
    have h2 := h n
    have h3 : (n + 1) * B = n * B + B := Nat.succ_mul n B
    simp only [sumN]
    omega
theorem isF_n {lt : Nat → Int32} {p f : Nat} (hp : p < 12) (h : lt p = (if f = 1 then 70 else 80)) : FX3_isF lt (nI p) = decide (f = 1) := by
  unfold FX3_isF
  rw [gat_n hp (by decide), h]
  by_cases c : f = 1
  · simp [c]
  · rw [if_neg c, if_neg (by decide)]
    simp [c]
theorem isRight_n {nd : Nat → Int32} {p q w : Nat} {b : Int32} (hp : p < 12) (h : nd p = nI q) (hq : q < 10) (hw : w ≤ 9) : FX3_isRight nd (nI p) b (nI w) = (decide (¬ b = 0) && decide (q ≤ w)) := by
  unfold FX3_isRight
  rw [gat_n hp (by decide), h]
  by_cases c : b = 0
  · simp [c]
  · rw [if_neg c]
    by_cases c2 : w < q
    · rw [if_pos (nI_lt c2 (by omega))]
      simp [c2]
    · rw [if_neg (fun z => c2 ((nI_ltI (by omega) (by omega)).mp z))]
      have c3 : q ≤ w := by omega
      simp [c, c3]
theorem isUp_n {da lt nd : Nat → Int32} {p d f q w mo : Nat} {mood b : Int32} (hp : p < 12) (hm : mood = nI mo) (hmo : mo ≤ 9) (hd : da p = nI d) (hd9 : d ≤ 9) (hl : lt p = (if f = 1 then 70 else 80)) (hn : nd p = nI q) (hq : q < 10) (hw : w ≤ 9) : FX3_isUp mood da lt nd (nI p) b (nI w) = (decide (mo ≤ d) && (decide (f = 1) || (decide (¬ b = 0) && decide (q ≤ w)))) := by
  unfold FX3_isUp
  rw [gat_n hp (by decide), hd, hm, isF_n hp hl, isRight_n hp hn hq hw]
  by_cases c : d < mo
  · rw [if_pos (nI_lt c (by omega))]
    have c2 : ¬ mo ≤ d := by omega
    simp [c2]
  · rw [if_neg (fun z => c ((nI_ltI (by omega) (by omega)).mp z))]
    have c2 : mo ≤ d := by omega
    by_cases c3 : f = 1
    · simp [c2, c3]
    · by_cases c4 : b = 0
      · simp [c2, c3, c4]
      · by_cases c5 : q ≤ w
        · simp [c2, c3, c4, c5]
        · simp [c2, c3, c4, c5]
theorem bi_ne : ¬ (1 : Int32) = 0 := by decide
theorem upTenths_n {da lt nd tn : Nat → Int32} {p d f q k w mo : Nat} {mood : Int32} (hp : p < 12) (hm : mood = nI mo) (hmo : mo ≤ 9) (hd : da p = nI d) (hd9 : d ≤ 9) (hl : lt p = (if f = 1 then 70 else 80)) (hn : nd p = nI q) (hq : q < 10) (hk : tn p = nI k) (hk10 : k < 10) (hw : w ≤ 9) : FX3_upTenths mood lt nd da tn (nI p) (nI w) = nI (upN mo d f q k w) := by
  unfold FX3_upTenths FX3_upTenths_J22 FX3_upTenths_J48
  rw [isUp_n hp hm hmo hd hd9 hl hn hq hw, isUp_n hp hm hmo hd hd9 hl hn hq hw, gat_n hp (by decide), hk]
  have z : nI k + (0 : Int32) = nI k := nadd k 0
  have z0 : (0 : Int32) + (0 : Int32) = nI 0 := rfl
  have zt : nI k + ((10 : Int32) - nI k) = nI 10 := by rw [nlit 10, pk_sub (by omega), nI_add]; congr 1; omega
  unfold upN mayN
  by_cases c1 : mo ≤ d
  · by_cases c2 : f = 1
    · simp [c1, c2, zt]
    · by_cases c3 : q ≤ w
      · simp [c1, c2, c3, z]
      · simp [c1, c2, c3, z0]
  · simp [c1, z0]
theorem upOf_n {pu da : Nat → Int32} {p d f q k w mo : Nat} {mood : Int32} (hp : p < 12) (hm : mood = nI mo) (hmo : mo ≤ 9) (hd : da p = nI d) (hd9 : d ≤ 9) (hf : pu (6 * p + 5) = nI f) (hf2 : f < 2) (hn : pu (6 * p + 3) = nI q) (hq : q < 10) (hk : pu (6 * p + 2) = nI k) (hw : w ≤ 9) : FX9_upOf mood pu da (nI p) (nI w) = some (nI (upN mo d f q k w)) := by
  unfold FX9_upOf FX9_upOf_J20 FX9_upOf_J57 FX9_upOf_J53 FX9_upOf_J58
  have e5 : (6 : Int32) * nI p + (5 : Int32) = nI (6 * p + 5) := x6 p 5
  have e3 : (6 : Int32) * nI p + (3 : Int32) = nI (6 * p + 3) := x6 p 3
  have e2 : (6 : Int32) * nI p + (2 : Int32) = nI (6 * p + 2) := x6 p 2
  rw [e5, e3, e2, gdI (by omega) (by decide), nI_clamp (by omega), hf, nI_clamp (n := p) (by omega), hd, hm, nI_clamp (by omega), nI_clamp (by omega), hn, hk]
  have c5 : (nI f = (1 : Int32)) ↔ f = 1 := nI_eq (by omega) (by decide)
  have cd : (nI d < nI mo) ↔ d < mo := nI_ltI (by omega) (by omega)
  have cq : (nI w < nI q) ↔ w < q := nI_ltI (by omega) (by omega)
  have g0 : ¬ (nI p < 0 ∨ 12 ≤ p) := by
    have h := vp_in_nI (n := p) (N := 12) hp (by decide)
    unfold vp_in at h
    rw [nI_clamp (by omega)] at h
    exact h
  have g3 : ¬ (nI (6 * p + 3) < 0 ∨ 72 ≤ 6 * p + 3) := by
    have h := vp_in_nI (n := 6 * p + 3) (N := 72) (by omega) (by decide)
    unfold vp_in at h
    rw [nI_clamp (by omega)] at h
    exact h
  have g2 : ¬ (nI (6 * p + 2) < 0 ∨ 72 ≤ 6 * p + 2) := by
    have h := vp_in_nI (n := 6 * p + 2) (N := 72) (by omega) (by decide)
    unfold vp_in at h
    rw [nI_clamp (by omega)] at h
    exact h
  simp only [c5, cd, cq, if_neg g0, if_neg g3, if_neg g2]
  unfold upN mayN
  by_cases c1 : mo ≤ d
  · have c1' : ¬ d < mo := by omega
    by_cases c2 : f = 1
    · simp [c1, c1', c2]; rfl
    · by_cases c3 : q ≤ w
      · have c3' : ¬ w < q := by omega
        simp [c1, c1', c2, c3, c3']
      · have c3' : w < q := by omega
        simp [c1, c1', c2, c3, c3']; rfl
  · have c1' : d < mo := by omega
    simp [c1, c1']; rfl
