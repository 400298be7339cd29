/-! spreads: in how many ways a of some are one thing and b of them another -/
def swp (A B : Nat → Int64) (n : Nat) : Nat → Int64 := fun i => if n ≤ i then B i else A i
theorem swp_s (A B : Nat → Int64) (n : Nat) : vp_updL (swp A B (n + 1)) n (B n) = swp A B n := by
  funext i
  unfold vp_updL swp
  by_cases c : i = n
  · subst c
    rw [if_pos rfl, if_pos (Nat.le_refl _)]
  · rw [if_neg c]
    by_cases c2 : n + 1 ≤ i
    · rw [if_pos c2, if_pos (by omega)]
    · rw [if_neg c2, if_neg (by omega)]
theorem swp_a {A B : Nat → Int64} {n i : Nat} (h : i < n) : swp A B n i = A i := by
  unfold swp
  rw [if_neg (by omega)]
theorem swp_0 (A B : Nat → Int64) : swp A B 0 = B := by
  funext i
  unfold swp
  rw [if_pos (Nat.zero_le i)]
def lay (c : Nat → Int64) (W : Nat → Nat → Nat) : Nat → Int64 := fun i => if i < 169 then lN (W (i / 13) (i % 13)) else c i
theorem lay_at {c : Nat → Int64} {W : Nat → Nat → Nat} {a b : Nat} (ha : a < 13) (hb : b < 13) : lay c W (13 * a + b) = lN (W a b) := by
  unfold lay
  rw [if_pos (by omega), show (13 * a + b) / 13 = a by omega, show (13 * a + b) % 13 = b by omega]
theorem lay_i {c : Nat → Int64} {W : Nat → Nat → Nat} {i : Nat} (h : i < 169) : lay c W i = lN (W (i / 13) (i % 13)) := by
  unfold lay
  rw [if_pos h]
theorem lay_top (c : Nat → Int64) (W V : Nat → Nat → Nat) : swp (lay c W) (lay c V) 169 = lay c W := by
  funext i
  unfold swp lay
  by_cases h : 169 ≤ i
  · rw [if_pos h, if_neg (by omega), if_neg (by omega)]
  · rw [if_neg h]
theorem lay_lay (c : Nat → Int64) (W V : Nat → Nat → Nat) : lay (lay c W) V = lay c V := by
  funext i
  unfold lay
  by_cases h : i < 169
  · rw [if_pos h, if_pos h]
  · rw [if_neg h, if_neg h, if_neg h]
def jn (W : Nat → Nat → Nat) (q1 q2 q3 q4 : Nat) (a b : Nat) : Nat :=
  W a b * q4 + (if a = 0 then 0 else W (a - 1) b) * q2 + (if b = 0 then 0 else W a (b - 1)) * q3 + (if a = 0 then 0 else if b = 0 then 0 else W (a - 1) (b - 1)) * q1
theorem gget_n {c : Nat → Int64} {a b : Nat} (ha : a < 13) (hb : b < 13) : gget c (nI a) (nI b) = c (13 * a + b) := by
  have e : nI a * (13 : Int32) + nI b = nI (13 * a + b) := by rw [Int32.mul_comm, nmul 13 a, nI_add]
  unfold gget
  rw [if_neg (nI_pos (by omega)), if_neg (nI_pos (by omega)), if_neg (gl 13 ha (by decide)), if_pos (ltL 13 hb (by decide)), e, nI_clamp (by omega)]
theorem gset_n {c : Nat → Int64} {a b : Nat} {v : Int64} (ha : a < 13) (hb : b < 13) : gset c (nI a) (nI b) v = vp_updL c (13 * a + b) v := by
  have e : nI a * (13 : Int32) + nI b = nI (13 * a + b) := by rw [Int32.mul_comm, nmul 13 a, nI_add]
  unfold gset
  rw [if_neg (nI_pos (by omega)), if_neg (nI_pos (by omega)), if_neg (gl 13 ha (by decide)), if_neg (gl 13 hb (by decide)), e, nI_clamp (by omega)]
theorem gget_a0 {c : Nat → Int64} {y : Int32} : gget c (nI 0 - (1 : Int32)) y = 0 := by
  unfold gget
  rw [if_pos (by decide)]
theorem gget_b0 {c : Nat → Int64} {y : Int32} : gget c y (nI 0 - (1 : Int32)) = 0 := by
  unfold gget
  by_cases h : y < 0
  · rw [if_pos h]
  · rw [if_neg h, if_pos (show nI 0 - (1 : Int32) < 0 by decide)]
section SP
variable {c : Nat → Int64} {W : Nat → Nat → Nat} {B : Nat → Int64} {n a b : Nat}
theorem gs0 (ha : a < 13) (hb : b < 13) (h : 13 * a + b < n) : gget (swp (lay c W) B n) (nI a) (nI b) = lN (W a b) := by
  rw [gget_n ha hb, swp_a h, lay_at ha hb]
theorem gs1 (ha : a < 13) (hb : b < 13) (h : 13 * a + b < n) : gget (swp (lay c W) B n) (nI a - (1 : Int32)) (nI b) = lN (if a = 0 then 0 else W (a - 1) b) := by
  cases a with
  | zero => rw [gget_a0, if_pos rfl]; rfl
  | succ a => rw [nI_pred, gget_n (by omega) hb, swp_a (by omega), lay_at (by omega) hb, if_neg (by omega), Nat.add_sub_cancel]
theorem gs2 (ha : a < 13) (hb : b < 13) (h : 13 * a + b < n) : gget (swp (lay c W) B n) (nI a) (nI b - (1 : Int32)) = lN (if b = 0 then 0 else W a (b - 1)) := by
  cases b with
  | zero => rw [gget_b0, if_pos rfl]; rfl
  | succ b => rw [nI_pred, gget_n ha (by omega), swp_a (by omega), lay_at ha (by omega), if_neg (by omega), Nat.add_sub_cancel]
theorem gs3 (ha : a < 13) (hb : b < 13) (h : 13 * a + b < n) : gget (swp (lay c W) B n) (nI a - (1 : Int32)) (nI b - (1 : Int32)) = lN (if a = 0 then 0 else if b = 0 then 0 else W (a - 1) (b - 1)) := by
  cases a with
  | zero => rw [gget_a0, if_pos rfl]; rfl
  | succ a =>
    cases b with
    | zero => rw [gget_b0, if_neg (by omega), if_pos rfl]; rfl
    | succ b => rw [nI_pred, nI_pred, gget_n (by omega) (by omega), swp_a (by omega), lay_at (by omega) (by omega), if_neg (by omega), if_neg (by omega), Nat.add_sub_cancel, Nat.add_sub_cancel]
end SP
theorem join_n (c : Nat → Int64) (W : Nat → Nat → Nat) (q1 q2 q3 q4 : Nat) : FX4_join (lay c W) (lN q1) (lN q2) (lN q3) (lN q4) = some (lay c (jn W q1 q2 q3 q4)) := by
  have hin : ∀ a, a < 13 → itr (fun v => FX4_join_S13 (lN q1) (lN q2) (lN q3) (lN q4) (nI a) v.1 v.2) fu ((12 : Int32), swp (lay c W) (lay c (jn W q1 q2 q3 q4)) (13 * a + 13)) = some (swp (lay c W) (lay c (jn W q1 q2 q3 q4)) (13 * a)) := fun a ha => by
    refine itr_D (P := 13) (g := fun n => swp (lay c W) (lay c (jn W q1 q2 q3 q4)) (13 * a + n)) (by decide) 12 (by decide) _ rfl (fun b hb => ?_) ?_
    · show FX4_join_S13 (lN q1) (lN q2) (lN q3) (lN q4) (nI a) (nI b) (swp (lay c W) (lay c (jn W q1 q2 q3 q4)) (13 * a + b + 1)) = _
      unfold FX4_join_S13 nmb
      have e : lN (W a b * q4 + (if a = 0 then 0 else W (a - 1) b) * q2 + (if b = 0 then 0 else W a (b - 1)) * q3 + (if a = 0 then 0 else if b = 0 then 0 else W (a - 1) (b - 1)) * q1) = lay c (jn W q1 q2 q3 q4) (13 * a + b) := (lay_at (c := c) (W := jn W q1 q2 q3 q4) ha hb).symm
      rw [if_neg (nI_pos (by omega)), gs0 ha hb (by omega), gs1 ha hb (by omega), gs2 ha hb (by omega), gs3 ha hb (by omega), lN_mul, lN_mul, lN_mul, lN_mul, lN_add, lN_add, lN_add, gset_n ha hb, e, swp_s]
    · show FX4_join_S13 (lN q1) (lN q2) (lN q3) (lN q4) (nI a) (-1 : Int32) _ = _
      unfold FX4_join_S13
      rw [if_pos (by decide)]
      rfl
  have hout : itr (fun v => FX4_join_S4 (lN q1) (lN q2) (lN q3) (lN q4) v.1 v.2) fu ((12 : Int32), lay c W) = some (lay c (jn W q1 q2 q3 q4)) := by
    refine itr_D (P := 13) (g := fun n => swp (lay c W) (lay c (jn W q1 q2 q3 q4)) (13 * n)) (by decide) 12 (by decide) _ (lay_top c W _).symm (fun a ha => ?_) ?_
    · show FX4_join_S4 (lN q1) (lN q2) (lN q3) (lN q4) (nI a) (swp (lay c W) (lay c (jn W q1 q2 q3 q4)) (13 * (a + 1))) = _
      unfold FX4_join_S4
      rw [if_neg (nI_pos (by omega)), Nat.mul_succ, hin a ha]
      rfl
    · show FX4_join_S4 (lN q1) (lN q2) (lN q3) (lN q4) (-1 : Int32) (swp (lay c W) (lay c (jn W q1 q2 q3 q4)) (13 * 0)) = _
      unfold FX4_join_S4
      rw [if_pos (by decide), Nat.mul_zero, swp_0]
  unfold FX4_join
  rw [hout]
  rfl
def dl0 (a b : Nat) : Nat := if a = 0 ∧ b = 0 then 1 else 0
theorem begin_n (c : Nat → Int64) : FX4_begin c = lay c dl0 := by
  show vp_updL (gfillL c 169 (0 : Int64)) (((0 : Int32) * (13 : Int32) + (0 : Int32)).toNatClampNeg) (1 : Int64) = _
  have e : ((0 : Int32) * (13 : Int32) + (0 : Int32)).toNatClampNeg = 0 := by decide
  rw [e]
  funext i
  unfold vp_updL gfillL lay dl0
  by_cases h : i = 0
  · subst h
    rfl
  · rw [if_neg h]
    by_cases h2 : i < 169
    · rw [if_pos h2, if_pos h2, if_neg (by omega)]
      rfl
    · rw [if_neg h2, if_neg h2]
/-! sums over rows -/
theorem allOf_n {c : Nat → Int64} {W : Nat → Nat → Nat} {h : Nat} (hh : h < 13) : FX4_allOf (lay c W) (nI h) = some (lN (sumN (W h) 13)) := by
  have hl : itr (fun v => FX4_allOf_S5 (lay c W) (nI h) v.1 v.2) fu ((0 : Int64), (0 : Int32)) = some (lN (sumN (W h) 13)) := by
    refine itr_P (P := 13) (g := fun j => lN (sumN (W h) j)) (by decide) 0 rfl (fun j hj => ?_) ?_
    · show FX4_allOf_S5 (lay c W) (nI h) (lN (sumN (W h) j)) (nI j) = _
      unfold FX4_allOf_S5
      rw [if_neg (gl 13 hj (by decide)), gget_n hh hj, lay_at hh hj, lN_add, nI_1]
      rfl
    · show FX4_allOf_S5 (lay c W) (nI h) _ (nI 13) = _
      unfold FX4_allOf_S5
      rw [if_pos (by decide)]
  unfold FX4_allOf
  rw [hl]
  rfl
theorem x13 (h j : Nat) : (13 : Int32) * nI h + nI j = nI (13 * h + j) := by rw [nmul 13 h, nI_add]
theorem handsOf_n {c : Nat → Int64} {W : Nat → Nat → Nat} {h : Nat} (hh : h < 13) : FX9_handsOf (lay c W) (nI h) = some (lN (sumN (W h) 13)) := by
  have hl : itr (fun v => FX9_handsOf_S5 (lay c W) (nI h) v.1 v.2) fu ((0 : Int64), (0 : Int32)) = some (lN (sumN (W h) 13)) := by
    refine itr_P (P := 13) (g := fun j => lN (sumN (W h) j)) (by decide) 0 rfl (fun j hj => ?_) ?_
    · show FX9_handsOf_S5 (lay c W) (nI h) (lN (sumN (W h) j)) (nI j) = _
      unfold FX9_handsOf_S5
      rw [if_neg (gl 13 hj (by decide)), x13, gdI (by omega) (by decide), nI_clamp (by omega), lay_at hh hj, lN_add, nI_1]
      rfl
    · show FX9_handsOf_S5 (lay c W) (nI h) _ (nI 13) = _
      unfold FX9_handsOf_S5
      rw [if_pos (by decide)]
  unfold FX9_handsOf
  rw [hl]
  rfl
theorem ten_n {P : Nat} (hP : P ≤ 12) : FX8_tenTo (nI P) = some (lN (10 ^ P)) := by
  have hl : itr (fun v => FX8_tenTo_S4 (nI P) v.1 v.2) fu ((1 : Int64), (0 : Int32)) = some (lN (10 ^ P)) := by
    refine itr_P (P := P) (g := fun j => lN (10 ^ j)) (by omega) 1 rfl (fun j hj => ?_) ?_
    · show FX8_tenTo_S4 (nI P) (lN (10 ^ j)) (nI j) = _
      unfold FX8_tenTo_S4
      rw [if_neg (nI_ge hj (by omega)), show (10 : Int64) = lN 10 from rfl, lN_mul, nI_1, Nat.pow_succ]
    · show FX8_tenTo_S4 (nI P) _ (nI P) = _
      unfold FX8_tenTo_S4
      rw [if_pos (nI_le (Nat.le_refl P) (by omega))]
  unfold FX8_tenTo
  rw [hl]
  rfl
theorem whole_n {P : Nat} (hP : P ≤ 12) : FX9_whole (nI P) = some (lN (10 ^ P)) := by
  have hl : itr (fun v => FX9_whole_S4 (nI P) v.1 v.2) fu ((1 : Int64), (0 : Int32)) = some (lN (10 ^ P)) := by
    refine itr_P (P := P) (g := fun j => lN (10 ^ j)) (by omega) 1 rfl (fun j hj => ?_) ?_
    · show FX9_whole_S4 (nI P) (lN (10 ^ j)) (nI j) = _
      unfold FX9_whole_S4
      rw [if_neg (nI_ge hj (by omega)), show (10 : Int64) = lN 10 from rfl, lN_mul, nI_1, Nat.pow_succ]
    · show FX9_whole_S4 (nI P) _ (nI P) = _
      unfold FX9_whole_S4
      rw [if_pos (nI_le (Nat.le_refl P) (by omega))]
  unfold FX9_whole
  rw [hl]
  rfl
theorem ten12 {P : Nat} (hP : P ≤ 12) : 10 ^ P ≤ 1000000000000 := by
  have h : 10 ^ P ≤ 10 ^ 12 := Nat.pow_le_pow_right (by decide) hP
  exact h
/-! bounds and borders -/
def shf (f : Nat → Nat) (b : Nat) : Nat := if b = 0 then 0 else f (b - 1)
theorem sum_shf (f : Nat → Nat) : ∀ n, sumN (shf f) (n + 1) = sumN f n
  | 0 => rfl
  | n + 1 => by
    have h := sum_shf f n
    have e1 : sumN (shf f) (n + 1 + 1) = sumN (shf f) (n + 1) + shf f (n + 1) := rfl
    have e2 : sumN f (n + 1) = sumN f n + f n := rfl
    have e3 : shf f (n + 1) = f n := rfl
    rw [e1, e2, e3, h]
theorem sum_shf_le (f : Nat → Nat) (n : Nat) : sumN (shf f) n ≤ sumN f n := by
  cases n with
  | zero => exact Nat.le_refl 0
  | succ n =>
    rw [sum_shf]
    exact Nat.le_add_right _ _
theorem sum_4 (A B C D : Nat → Nat) (x y z u : Nat) : ∀ n, sumN (fun b => A b * x + B b * y + C b * z + D b * u) n = sumN A n * x + sumN B n * y + sumN C n * z + sumN D n * u
  | 0 => by simp [sumN]
  | n + 1 => by
    have h := sum_4 A B C D x y z u n
    have e : ∀ f : Nat → Nat, sumN f (n + 1) = sumN f n + f n := fun _ => rfl
    rw [e, e, e, e, e, h, Nat.add_mul, Nat.add_mul, Nat.add_mul, Nat.add_mul]
    omega
theorem sum_0 : ∀ n, sumN (fun _ => 0) n = 0
  | 0 => rfl
  | n + 1 => by
    have h := sum_0 n
    have e : sumN (fun _ => 0) (n + 1) = sumN (fun _ => 0) n + 0 := rfl
    rw [e, h]
theorem jn_sum {W : Nat → Nat → Nat} {T : Nat} (hW : ∀ a, sumN (W a) 13 ≤ T) (q1 q2 q3 q4 a : Nat) : sumN (jn W q1 q2 q3 q4 a) 13 ≤ T * (q1 + q2 + q3 + q4) := by
  have e : sumN (jn W q1 q2 q3 q4 a) 13 = sumN (fun b => W a b * q4 + (if a = 0 then 0 else W (a - 1) b) * q2 + shf (W a) b * q3 + (if a = 0 then 0 else shf (W (a - 1)) b) * q1) 13 := rfl
  rw [e, sum_4]
  have h1 := Nat.mul_le_mul_right q4 (hW a)
  have h2 : sumN (fun b => if a = 0 then 0 else W (a - 1) b) 13 ≤ T := by
    by_cases c : a = 0
    · simp only [if_pos c, sum_0]; exact Nat.zero_le _
    · simp only [if_neg c]; exact hW (a - 1)
  have h3 : sumN (shf (W a)) 13 ≤ T := Nat.le_trans (sum_shf_le _ _) (hW a)
  have h4 : sumN (fun b => if a = 0 then 0 else shf (W (a - 1)) b) 13 ≤ T := by
    by_cases c : a = 0
    · simp only [if_pos c, sum_0]; exact Nat.zero_le _
    · simp only [if_neg c]; exact Nat.le_trans (sum_shf_le _ _) (hW (a - 1))
  have g2 := Nat.mul_le_mul_right q2 h2
  have g3 := Nat.mul_le_mul_right q3 h3
  have g4 := Nat.mul_le_mul_right q1 h4
  rw [Nat.mul_add, Nat.mul_add, Nat.mul_add]
  omega
theorem sum_ge {f : Nat → Nat} {i : Nat} : ∀ n, i < n → f i ≤ sumN f n
  | 0, h => by omega
  | n + 1, h => by
    have e : sumN f (n + 1) = sumN f n + f n := rfl
    by_cases c : i = n
    · subst c; omega
    · have h2 := sum_ge (f := f) (i := i) n (by omega)
      omega
/-- how many are up, how many know: in the ways of the first p pupils -/
def jW (y z : Nat → Bool) (k : Nat → Nat) : Nat → Nat → Nat → Nat
  | 0 => dl0
  | p + 1 => jn (jW y z k p) (if y p = true then k p else 0) (if z p = true then 10 - k p else 0) (if y p = true then 0 else k p) (if z p = true then 0 else 10 - k p)
theorem jW_le {y z : Nat → Bool} {k : Nat → Nat} {P : Nat} (hk : ∀ p, p < P → k p ≤ 10) : ∀ p, p ≤ P → ∀ a, sumN (jW y z k p a) 13 ≤ 10 ^ p
  | 0, _ => fun a => by
    by_cases c : a = 0
    · subst c
      have e : sumN (jW y z k 0 0) 13 = sumN (dl0 0) 13 := rfl
      rw [e]
      decide
    · have e : jW y z k 0 a = fun _ => 0 := by
        funext b
        show dl0 a b = 0
        unfold dl0
        rw [if_neg (by omega)]
      rw [e, sum_0]
      exact Nat.zero_le _
  | p + 1, hp => fun a => by
    have h := jn_sum (jW_le (y := y) (z := z) hk p (by omega)) (if y p = true then k p else 0) (if z p = true then 10 - k p else 0) (if y p = true then 0 else k p) (if z p = true then 0 else 10 - k p) a
    have hk2 := hk p (by omega)
    have e : (if y p = true then k p else 0) + (if z p = true then 10 - k p else 0) + (if y p = true then 0 else k p) + (if z p = true then 0 else 10 - k p) = 10 := by
      cases y p <;> cases z p <;> simp <;> omega
    rw [e] at h
    rw [Nat.pow_succ]
    exact h
theorem jW_0 {y z : Nat → Bool} {k : Nat → Nat} : ∀ p a b, (p < a ∨ p < b) → jW y z k p a b = 0
  | 0, a, b, h => by
    show dl0 a b = 0
    unfold dl0
    rw [if_neg (by omega)]
  | p + 1, a, b, h => by
    have h0 := jW_0 (y := y) (z := z) (k := k) p a b (by omega)
    have h1 : a ≠ 0 → jW y z k p (a - 1) b = 0 := fun _ => jW_0 p (a - 1) b (by omega)
    have h2 : b ≠ 0 → jW y z k p a (b - 1) = 0 := fun _ => jW_0 p a (b - 1) (by omega)
    have h3 : a ≠ 0 → b ≠ 0 → jW y z k p (a - 1) (b - 1) = 0 := fun _ _ => jW_0 p (a - 1) (b - 1) (by omega)
    show jn (jW y z k p) _ _ _ _ a b = 0
    unfold jn
    rw [h0]
    by_cases ca : a = 0
    · by_cases cb : b = 0
      · omega
      · rw [if_pos ca, if_neg cb, if_pos ca, h2 cb]; simp
    · by_cases cb : b = 0
      · rw [if_neg ca, if_pos cb, if_neg ca, if_pos cb, h1 ca]; simp
      · rw [if_neg ca, if_neg cb, if_neg ca, if_neg cb, h1 ca, h2 cb, h3 ca cb]; simp
