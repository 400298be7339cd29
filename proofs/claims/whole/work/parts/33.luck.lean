/-! luck -/
theorem andn_n {h G : Nat} (hh : h < 2 ^ 32) : nI h &&& (nI G ^^^ (-1 : Int32)) = nI (h ^^^ (h &&& G)) := by
  apply Int32.toBitVec_inj.1
  have e1 : (-1 : Int32).toBitVec = BitVec.allOnes 32 := by decide
  rw [Int32.toBitVec_and, Int32.toBitVec_xor, e1]
  show BitVec.ofNat 32 h &&& (BitVec.ofNat 32 G ^^^ BitVec.allOnes 32) = BitVec.ofNat 32 (h ^^^ (h &&& G))
  apply BitVec.eq_of_getLsbD_eq
  intro i hi
  rw [BitVec.getLsbD_and, BitVec.getLsbD_xor, BitVec.getLsbD_allOnes, BitVec.getLsbD_ofNat, BitVec.getLsbD_ofNat, BitVec.getLsbD_ofNat, Nat.testBit_xor, Nat.testBit_and]
  cases h.testBit i <;> cases G.testBit i <;> simp [hi]
theorem pop_s (x n : Nat) : popN x (n + 1) = popN x n + x / 2 ^ n % 2 := rfl
theorem pop_and (h G : Nat) : ∀ n, popN (h ^^^ (h &&& G)) n + popN (h &&& G) n = popN h n
  | 0 => rfl
  | n + 1 => by
    have ih := pop_and h G n
    have e : (h ^^^ (h &&& G)) / 2 ^ n % 2 + (h &&& G) / 2 ^ n % 2 = h / 2 ^ n % 2 := by
      rw [bit_t, bit_t, bit_t, Nat.testBit_xor, Nat.testBit_and]
      cases h.testBit n <;> cases G.testBit n <;> simp
    rw [pop_s, pop_s, pop_s]
    omega
theorem xor_lt {h G : Nat} (hh : h < 4096) : h ^^^ (h &&& G) < 4096 := by
  have h1 : h &&& G < 2 ^ 12 := Nat.lt_of_le_of_lt Nat.and_le_left hh
  exact Nat.xor_lt_two_pow (n := 12) hh h1
/-- ways, tape by tape -/
def UV (a b : Nat → Nat) : Nat → Nat → Nat
  | 0 => fun n => if n = 0 then 1 else 0
  | t + 1 => cj (UV a b t) (a t) (b t)
def WU (a b : Nat → Nat) : Nat → Nat → Nat → Nat
  | 0 => dl0
  | t + 1 => jn (WU a b t) 0 (a t) 0 (b t)
def prN (f : Nat → Nat) : Nat → Nat
  | 0 => 1
  | n + 1 => prN f n * f n
theorem WU_0 (a b : Nat → Nat) : ∀ t n, WU a b t n 0 = UV a b t n
  | 0, n => by
    show dl0 n 0 = if n = 0 then 1 else 0
    unfold dl0
    by_cases c : n = 0 <;> simp [c]
  | t + 1, n => by
    have h := WU_0 a b t
    show jn (WU a b t) 0 (a t) 0 (b t) n 0 = cj (UV a b t) (a t) (b t) n
    unfold jn cj
    rw [h n, h (n - 1)]
    simp only [Nat.mul_zero, Nat.add_zero]
theorem UV_0 (a b : Nat → Nat) : ∀ t n, t < n → UV a b t n = 0
  | 0, n, h => by
    show (if n = 0 then 1 else 0) = 0
    rw [if_neg (by omega)]
  | t + 1, n, h => by
    show cj (UV a b t) (a t) (b t) n = 0
    unfold cj
    rw [UV_0 a b t n (by omega), if_neg (by omega), UV_0 a b t (n - 1) (by omega)]; simp
theorem UV_le (a b : Nat → Nat) : ∀ t, sumN (UV a b t) 13 ≤ prN (fun i => a i + b i) t
  | 0 => by
    have e1 : sumN (UV a b 0) 13 = 1 := rfl
    rw [e1]
    exact Nat.le_refl 1
  | t + 1 => by
    have h := cj_sum (UV_le a b t) (a t) (b t)
    have e : prN (fun i => a i + b i) (t + 1) = prN (fun i => a i + b i) t * (a t + b t) := rfl
    rw [e, Nat.add_comm (a t)]
    exact h
theorem pr_le {f : Nat → Nat} {T : Nat} (h : ∀ i, i < T → f i ≤ 12) : ∀ t, t ≤ T → prN f t ≤ 12 ^ t
  | 0, _ => Nat.le_refl 1
  | t + 1, ht => by
    have h1 := Nat.mul_le_mul (pr_le h t (by omega)) (h t (by omega))
    rw [Nat.pow_succ]
    exact h1
theorem pr_pos {f : Nat → Nat} {T : Nat} (h : ∀ i, i < T → 1 ≤ f i) : ∀ t, t ≤ T → 0 < prN f t
  | 0, _ => Nat.zero_lt_one
  | t + 1, ht => Nat.mul_pos (pr_pos h t (by omega)) (h t (by omega))
theorem pr_c {f g : Nat → Nat} {T : Nat} (h : ∀ i, i < T → f i = g i) : ∀ t, t ≤ T → prN f t = prN g t
  | 0, _ => rfl
  | t + 1, ht => by
    show prN f t * f t = prN g t * g t
    rw [pr_c h t (by omega), h t (by omega)]
theorem sum_sh {f : Nat → Nat} (c : Nat) : ∀ m, sumN (fun n => f (c + n)) m ≤ sumN f (c + m)
  | 0 => Nat.zero_le _
  | m + 1 => by
    have h := sum_sh (f := f) c m
    have e1 : sumN (fun n => f (c + n)) (m + 1) = sumN (fun n => f (c + n)) m + f (c + m) := rfl
    have e2 : sumN f (c + (m + 1)) = sumN f (c + m) + f (c + m) := rfl
    omega
section LU
variable {T : Nat} {h o : Nat → Nat} {ts mT : Int32} {th to mh mto : Nat → Int32} {G : Nat}
def miN (h : Nat → Nat) (G i : Nat) : Nat := popN (h i &&& G) 12
def reN (h : Nat → Nat) (G i : Nat) : Nat := popN (h i ^^^ (h i &&& G)) 12
theorem mr_n (h : Nat → Nat) (G i : Nat) : miN h G i + reN h G i = popN (h i) 12 := by
  have e := pop_and (h i) G 12
  unfold miN reN
  omega
theorem luck8a (hT : T ≤ 12) (hts : ts = nI T) (ho : ∀ i, i < T → h i ≤ 4095 ∧ th i = nI (h i)) (hG : G < 4096) (c : Nat → Int64) : itr (fun v => FX5_waysToAsMany_S9 ts th (nI G) v.1 v.2) fu ((0 : Int32), lay c dl0) = some (lay c (WU (miN h G) (reN h G) T)) := by
  refine itr_Q (P := T) (g := fun t => lay c (WU (miN h G) (reN h G) t)) (by omega) _ rfl (fun t ht => ?_) ?_
  · show FX5_waysToAsMany_S9 ts th (nI G) (nI t) (lay c (WU (miN h G) (reN h G) t)) = _
    obtain ⟨h1, h2⟩ := ho t ht
    have hx := xor_lt (h := h t) (G := G) (by omega)
    have hand : h t &&& G ≤ h t := Nat.and_le_left
    have p1 := popN_le (h t &&& G) 12
    have p2 := popN_le (h t ^^^ (h t &&& G)) 12
    unfold FX5_waysToAsMany_S9
    rw [hts, if_neg (nI_ge ht (by omega)), gat_n (by omega) (by decide), h2, and_n, andn_n (by omega), bitCount_n (by omega), bitCount_n hx, nI_l (by omega), nI_l (by omega), show (0 : Int64) = lN 0 from rfl, join_n, nI_1]
    rfl
  · show FX5_waysToAsMany_S9 ts th (nI G) (nI T) _ = _
    unfold FX5_waysToAsMany_S9
    rw [hts, if_pos (nI_le (Nat.le_refl T) (by omega))]
theorem luck8b (hT : T ≤ 12) (hts : ts = nI T) {C : Nat} (hC : C ≤ T) (a b : Nat → Nat) (c : Nat → Int64) : itr (fun v => FX5_waysToAsMany_S66 ts (lay c (WU a b T)) v.1 v.2) fu ((0 : Int64), nI C) = some (lN (sumN (fun n => UV a b T (C + n)) (T + 1 - C))) := by
  refine itr_cnt (g := fun j => (lN (sumN (fun n => UV a b T (C + n)) j), nI (C + j))) (e := T + 1 - C) (fu_le (by omega)) rfl (fun j hj => ?_) ?_
  · show FX5_waysToAsMany_S66 ts (lay c (WU a b T)) (lN (sumN (fun n => UV a b T (C + n)) j)) (nI (C + j)) = _
    have hg : gget (lay c (WU a b T)) (nI (C + j)) (0 : Int32) = lN (UV a b T (C + j)) := by
      have h := gget_n (c := lay c (WU a b T)) (a := C + j) (b := 0) (by omega) (by decide)
      have h2 := lay_at (c := c) (W := WU a b T) (a := C + j) (b := 0) (by omega) (by decide)
      rw [← WU_0]
      exact h.trans h2
    unfold FX5_waysToAsMany_S66
    rw [hts, if_neg (nI_nlt (by omega) (by omega)), hg, lN_add, nI_1]
    rfl
  · show FX5_waysToAsMany_S66 ts (lay c (WU a b T)) _ (nI (C + (T + 1 - C))) = _
    unfold FX5_waysToAsMany_S66
    rw [hts, if_pos (nI_lt (by omega) (by omega))]
theorem luck8c (hT : T ≤ 12) (hts : ts = nI T) (ho : ∀ i, i < T → h i ≤ 4095 ∧ th i = nI (h i)) : FX5_ways ts th = some (lN (prN (fun i => popN (h i) 12) T)) := by
  have hl : itr (fun v => FX5_ways_S4 ts th v.1 v.2) fu ((1 : Int64), (0 : Int32)) = some (lN (prN (fun i => popN (h i) 12) T)) := by
    refine itr_P (P := T) (g := fun t => lN (prN (fun i => popN (h i) 12) t)) (by omega) 1 rfl (fun t ht => ?_) ?_
    · show FX5_ways_S4 ts th (lN (prN (fun i => popN (h i) 12) t)) (nI t) = _
      obtain ⟨h1, h2⟩ := ho t ht
      have p1 := popN_le (h t) 12
      unfold FX5_ways_S4
      rw [hts, if_neg (nI_ge ht (by omega)), gat_n (by omega) (by decide), h2, bitCount_n (by omega), nI_l (by omega), lN_mul, nI_1]
      rfl
    · show FX5_ways_S4 ts th _ (nI T) = _
      unfold FX5_ways_S4
      rw [hts, if_pos (nI_le (Nat.le_refl T) (by omega))]
  unfold FX5_ways
  rw [hl]
  rfl
theorem luck9a (c : Nat → Int64) (a b : Nat → Nat) : itr (fun v => FX9_luck_S16 v.1 v.2) fu ((0 : Int32), c) = some (fil (UV a b 0) c 13) := by
  refine itr_Q (P := 13) (g := fun j => fil (UV a b 0) c j) (by decide) _ (fil_0 _ _).symm (fun j hj => ?_) ?_
  · show FX9_luck_S16 (nI j) (fil (UV a b 0) c j) = _
    have c0 : (nI j = 0) ↔ j = 0 := nI_eq (b := 0) (by omega) (by decide)
    have gi : ¬ (nI j < 0 ∨ 13 ≤ j) := gd2 hj (by decide)
    have fs := fil_s (UV a b 0) c j
    unfold FX9_luck_S16 FX9_luck_J39L16
    rw [if_neg (gl 13 hj (by decide)), nI_clamp (by omega), if_neg gi, if_neg gi, nI_1]
    by_cases hz : j = 0
    · have ev : UV a b 0 j = 1 := by
        show (if j = 0 then 1 else 0) = 1
        rw [if_pos hz]
      rw [ev] at fs
      rw [if_pos (c0.mpr hz), show (1 : Int64) = lN 1 from rfl, fs]
    · have ev : UV a b 0 j = 0 := by
        show (if j = 0 then 1 else 0) = 0
        rw [if_neg hz]
      rw [ev] at fs
      rw [if_neg (fun y => hz (c0.mp y)), show (0 : Int64) = lN 0 from rfl, fs]
  · show FX9_luck_S16 (nI 13) _ = _
    unfold FX9_luck_S16
    rw [if_pos (by decide)]
theorem luck9b {a p : Nat} (ha : a ≤ p) (hp : p ≤ 12) (V : Nat → Nat) (c : Nat → Int64) : itr (fun v => FX9_luck_S100 (nI a) (nI p) v.1 v.2) fu ((12 : Int32), fil V c 13) = some (fil (cj V a (p - a)) c 13) := by
  refine itr_D (P := 13) (g := fun n => swp (fil V c 13) (fil (cj V a (p - a)) c 13) n) (by decide) 12 (by decide) _ (fil_top _ _ _).symm (fun n hn => ?_) ?_
  · show FX9_luck_S100 (nI a) (nI p) (nI n) (swp (fil V c 13) (fil (cj V a (p - a)) c 13) (n + 1)) = _
    have c0 : (nI n ≤ 0) ↔ n ≤ 0 := nI_leI (b := 0) (by omega) (by decide)
    have gi : ¬ (nI n < 0 ∨ 13 ≤ n) := gd2 hn (by decide)
    have ek : (nI a).toInt64 = lN a := nI_l (by omega)
    have eg : (nI p - nI a).toInt64 = lN (p - a) := by rw [pk_sub ha, nI_l (by omega)]
    have ev : fil (cj V a (p - a)) c 13 n = lN (V n * (p - a) + (if n = 0 then 0 else V (n - 1)) * a) := fil_at hn
    have fs := swp_s (fil V c 13) (fil (cj V a (p - a)) c 13) n
    rw [ev] at fs
    unfold FX9_luck_S100 FX9_luck_J144L100
    rw [if_neg (nI_pos (by omega)), nI_clamp (n := n) (by omega), if_neg gi, eg, ek, swp_a (by omega), fil_at hn, lN_mul, if_neg gi]
    cases n with
    | zero =>
      rw [if_pos (c0.mpr (Nat.le_refl 0)), show (0 : Int64) = lN 0 from rfl, lN_add]
      rw [if_pos rfl, Nat.zero_mul] at fs
      rw [fs]
    | succ n =>
      rw [if_neg (show ¬ n + 1 = 0 by omega), Nat.add_sub_cancel] at fs
      rw [if_neg (fun y => absurd (c0.mp y) (by omega)), nI_pred, gdI (by omega) (by decide), nI_clamp (n := n) (by omega), swp_a (by omega), fil_at (by omega), lN_mul, lN_add, if_neg gi, fs]
  · show FX9_luck_S100 (nI a) (nI p) (-1 : Int32) (swp (fil V c 13) (fil (cj V a (p - a)) c 13) 0) = _
    unfold FX9_luck_S100
    rw [if_pos (by decide), swp_0]
theorem luck9c (hT : T ≤ 12) (hts : mT = nI T) (ho : ∀ i, i < T → h i ≤ 4095 ∧ mh i = nI (h i)) (hG : G < 4096) (c : Nat → Int64) : itr (fun v => FX9_luck_S49 mT mh (nI G) v.1 v.2.1 v.2.2) fu ((1 : Int64), (0 : Int32), fil (UV (miN h G) (reN h G) 0) c 13) = some (lN (prN (fun i => popN (h i) 12) T), fil (UV (miN h G) (reN h G) T) c 13) := by
  refine itr_cnt (g := fun t => (lN (prN (fun i => popN (h i) 12) t), nI t, fil (UV (miN h G) (reN h G) t) c 13)) (e := T) (fu_le (by omega)) rfl (fun t ht => ?_) ?_
  · show FX9_luck_S49 mT mh (nI G) (lN (prN (fun i => popN (h i) 12) t)) (nI t) (fil (UV (miN h G) (reN h G) t) c 13) = _
    obtain ⟨h1, h2⟩ := ho t ht
    have hand : h t &&& G ≤ h t := Nat.and_le_left
    have p1 := popN_le (h t) 12
    have hmr := mr_n h G t
    have gi : ¬ (nI t < 0 ∨ 12 ≤ t) := gd2 (by omega) (by decide)
    have em : popN (h t &&& G) 12 = miN h G t := rfl
    have er : popN (h t) 12 - miN h G t = reN h G t := by omega
    unfold FX9_luck_S49
    rw [hts, if_neg (nI_ge ht (by omega)), nI_clamp (by omega), if_neg gi, h2, and_n, ones_n (by omega), Option.bind_some, if_neg gi, ones_n (by omega), Option.bind_some, em, luck9b (by omega) p1, Option.bind_some, pk_sub (by omega), nI_add, er, hmr, nI_l (by omega), lN_mul, nI_1]
    rfl
  · show FX9_luck_S49 mT mh (nI G) _ (nI T) _ = _
    unfold FX9_luck_S49
    rw [hts, if_pos (nI_le (Nat.le_refl T) (by omega))]
theorem luck9d {C : Nat} (hC : C ≤ 12) (x : Int64) (V : Nat → Nat) (c : Nat → Int64) : itr (fun v => FX9_luck_S168 (x, fil V c 13) v.1 v.2) fu ((0 : Int64), nI C) = some (lN (sumN (fun n => V (C + n)) (13 - C))) := by
  refine itr_cnt (g := fun j => (lN (sumN (fun n => V (C + n)) j), nI (C + j))) (e := 13 - C) (fu_le (by omega)) rfl (fun j hj => ?_) ?_
  · show FX9_luck_S168 (x, fil V c 13) (lN (sumN (fun n => V (C + n)) j)) (nI (C + j)) = _
    unfold FX9_luck_S168
    rw [if_neg (gl 13 (by omega) (by decide)), gdI (by omega) (by decide), nI_clamp (by omega)]
    dsimp only
    rw [fil_at (by omega), lN_add, nI_1]
    rfl
  · show FX9_luck_S168 (x, fil V c 13) _ (nI (C + (13 - C))) = _
    unfold FX9_luck_S168
    rw [show C + (13 - C) = 13 by omega, if_pos (by decide)]
theorem caN_le (o : Nat → Nat) (G T : Nat) : caN o G T ≤ T := by
  have h := sumN_le (f := fun i => if G.testBit (o i) = true then 1 else 0) (B := 1) (fun i => by
    by_cases c : G.testBit (o i) = true
    · rw [if_pos c]; exact Nat.le_refl 1
    · rw [if_neg c]; exact Nat.zero_le 1) T
  rw [Nat.mul_one] at h
  exact h
end LU
/-! chance -/
section CH
variable {S W : Nat} {h : Nat → Nat} {ts mT : Int32} {th mh mw : Nat → Int32}
def toN (h : Nat → Nat) (x : Nat) : Nat → Nat := sumN (fun i => if x.testBit i = true then h i else 0)
theorem toN_s (h : Nat → Nat) (x n : Nat) : toN h x (n + 1) = toN h x n + (if x.testBit n = true then h n else 0) := rfl
theorem toN_le {P : Nat} (hh : ∀ i, i < P → h i ≤ 99) (x : Nat) : toN h x P ≤ P * 99 := by
  refine sum_bd P (Nat.le_refl P) (fun i hi => ?_)
  by_cases c : x.testBit i = true
  · rw [if_pos c]; exact hh i hi
  · rw [if_neg c]; exact Nat.zero_le _
theorem tog8 (hS : S ≤ 10) (hts : ts = nI S) (hth : ∀ i, i < S → th i = nI (h i)) {x : Nat} (hx : x < 4096) : FX7_together ts th (nI x) = some (nI (toN h x S)) := by
  have hl : itr (fun v => FX7_together_S4 ts th (nI x) v.1 v.2) fu ((0 : Int32), (0 : Int32)) = some (nI (toN h x S)) := by
    refine itr_P (P := S) (g := fun j => nI (toN h x j)) (by omega) 0 rfl (fun j hj => ?_) ?_
    · show FX7_together_S4 ts th (nI x) (nI (toN h x j)) (nI j) = _
      unfold FX7_together_S4
      rw [hts, if_neg (nI_ge hj (by omega)), gat_n (by omega) (by decide), hth j hj, isIn_n (by omega) (by omega), nI_add, nI_1, toN_s]
      by_cases c : x.testBit j = true
      · rw [if_pos c, if_pos c]
      · rw [if_neg c, if_neg c]
        rfl
    · show FX7_together_S4 ts th (nI x) _ (nI S) = _
      unfold FX7_together_S4
      rw [hts, if_pos (nI_le (Nat.le_refl S) (by omega))]
  unfold FX7_together
  rw [hl]
  rfl
theorem own9 (hS : S ≤ 10) (hmT : mT = nI S) (hmh : ∀ i, i < S → mh i = nI (h i)) (hw : ∀ i, i < S → mw i = (if W.testBit i then 1 else 0)) : itr (fun v => FX9_chance_S4 mT mw mh v.1 v.2) fu ((0 : Int32), (0 : Int32)) = some (nI (toN h W S)) := by
  refine itr_P (P := S) (g := fun j => nI (toN h W j)) (by omega) 0 rfl (fun j hj => ?_) ?_
  · show FX9_chance_S4 mT mw mh (nI (toN h W j)) (nI j) = _
    have gi : ¬ (nI j < 0 ∨ 10 ≤ j) := gd2 (by omega) (by decide)
    have z0 : nI (toN h W j) + (0 : Int32) = nI (toN h W j) := nadd _ 0
    unfold FX9_chance_S4 FX9_chance_J32L4
    rw [hmT, if_neg (nI_ge hj (by omega)), nI_clamp (by omega), if_neg gi, if_neg gi, hw j hj, hmh j hj, nI_add, nI_1, z0, toN_s]
    by_cases c : W.testBit j = true
    · rw [if_pos c, if_pos c, if_neg (show ¬ (1 : Int32) = 0 by decide)]
    · rw [if_neg c, if_neg c, if_pos (show (0 : Int32) = 0 from rfl)]
      rfl
  · show FX9_chance_S4 mT mw mh _ (nI S) = _
    unfold FX9_chance_S4
    rw [hmT, if_pos (nI_le (Nat.le_refl S) (by omega))]
theorem tog9 (hS : S ≤ 10) (hmT : mT = nI S) (hmh : ∀ i, i < S → mh i = nI (h i)) {x : Nat} (hx : x < 4096) : itr (fun v => FX9_chance_S65 mT mh (nI x) v.1 v.2) fu ((0 : Int32), (0 : Int32)) = some (nI (toN h x S)) := by
  refine itr_P (P := S) (g := fun j => nI (toN h x j)) (by omega) 0 rfl (fun j hj => ?_) ?_
  · show FX9_chance_S65 mT mh (nI x) (nI (toN h x j)) (nI j) = _
    have gi : ¬ (nI j < 0 ∨ 10 ≤ j) := gd2 (by omega) (by decide)
    unfold FX9_chance_S65 nmb
    rw [hmT, if_neg (nI_ge hj (by omega)), nI_clamp (by omega), if_neg gi, hmh j hj, bit_n (by omega) (by omega), pk_mul, nI_add, nI_1, toN_s, bit_t]
    by_cases c : x.testBit j = true
    · rw [if_pos c, if_pos c, Nat.one_mul]
    · rw [if_neg c, if_neg c, Nat.zero_mul]
  · show FX9_chance_S65 mT mh (nI x) _ (nI S) = _
    unfold FX9_chance_S65
    rw [hmT, if_pos (nI_le (Nat.le_refl S) (by omega))]
def cnA (W : Nat) : Nat → Nat := sumN (fun x => if popN x 12 = popN W 12 then 1 else 0)
def cnB (W S : Nat) (h : Nat → Nat) : Nat → Nat := sumN (fun x => if popN x 12 = popN W 12 ∧ toN h W S ≤ toN h x S then 1 else 0)
theorem cnA_s (W n : Nat) : cnA W (n + 1) = cnA W n + (if popN n 12 = popN W 12 then 1 else 0) := rfl
theorem cnB_s (W S : Nat) (h : Nat → Nat) (n : Nat) : cnB W S h (n + 1) = cnB W S h n + (if popN n 12 = popN W 12 ∧ toN h W S ≤ toN h n S then 1 else 0) := rfl
theorem dealA (hS : S ≤ 10) (hts : ts = nI S) (hth : ∀ i, i < S → th i = nI (h i)) (hW : W < 2 ^ S) : FX7_deals (nI W) ts th (0 : Int32) = some (lN (cnA W (2 ^ S))) := by
  have h12 := pow12 (P := S) (by omega)
  have h10 : 2 ^ S ≤ 2 ^ 10 := Nat.pow_le_pow_right (by decide) hS
  have h1024 : 2 ^ 10 = 1024 := rfl
  have hl : itr (fun v => FX7_deals_S14 (nI W) ts th (0 : Int32) (nI (toN h W S)) v.1 v.2) fu ((0 : Int64), (0 : Int32)) = some (lN (cnA W (2 ^ S))) := by
    refine itr_P (P := 2 ^ S) (g := fun j => lN (cnA W j)) (by omega) 0 rfl (fun j hj => ?_) ?_
    · show FX7_deals_S14 (nI W) ts th (0 : Int32) (nI (toN h W S)) (lN (cnA W j)) (nI j) = _
      have p1 := popN_le j 12
      have p2 := popN_le W 12
      have cc : (nI (popN j 12) = nI (popN W 12)) ↔ popN j 12 = popN W 12 := nI_eq (by omega) (by omega)
      unfold FX7_deals_S14 FX7_deals_J45L14 FX7_deals_J66L14
      rw [hts, shl1 (by omega), if_neg (nI_ge hj (by omega)), bitCount_n (by omega), bitCount_n (by omega), lN_1, nI_1, cnA_s]
      by_cases c : popN j 12 = popN W 12
      · rw [if_pos (cc.mpr c), if_pos c, if_neg (show ¬ (1 : Int32) = 0 by decide), if_pos (show (0 : Int32) = 0 from rfl)]
      · rw [if_neg (fun y => c (cc.mp y)), if_neg c, if_pos (show (0 : Int32) = 0 from rfl)]
        rfl
    · show FX7_deals_S14 (nI W) ts th (0 : Int32) (nI (toN h W S)) _ (nI (2 ^ S)) = _
      unfold FX7_deals_S14
      rw [hts, shl1 (by omega), if_pos (nI_le (Nat.le_refl _) (by omega))]
  unfold FX7_deals
  rw [tog8 hS hts hth (by omega), Option.bind_some, hl]
  rfl
theorem dealB (hS : S ≤ 10) (hts : ts = nI S) (hth : ∀ i, i < S → h i ≤ 99 ∧ th i = nI (h i)) (hW : W < 2 ^ S) : FX7_deals (nI W) ts th (1 : Int32) = some (lN (cnB W S h (2 ^ S))) := by
  have h12 := pow12 (P := S) (by omega)
  have h10 : 2 ^ S ≤ 2 ^ 10 := Nat.pow_le_pow_right (by decide) hS
  have h1024 : 2 ^ 10 = 1024 := rfl
  have hth2 : ∀ i, i < S → th i = nI (h i) := fun i hi => (hth i hi).2
  have tW := toN_le (h := h) (P := S) (fun i hi => (hth i hi).1) W
  have hl : itr (fun v => FX7_deals_S14 (nI W) ts th (1 : Int32) (nI (toN h W S)) v.1 v.2) fu ((0 : Int64), (0 : Int32)) = some (lN (cnB W S h (2 ^ S))) := by
    refine itr_P (P := 2 ^ S) (g := fun j => lN (cnB W S h j)) (by omega) 0 rfl (fun j hj => ?_) ?_
    · show FX7_deals_S14 (nI W) ts th (1 : Int32) (nI (toN h W S)) (lN (cnB W S h j)) (nI j) = _
      have p1 := popN_le j 12
      have p2 := popN_le W 12
      have tj := toN_le (h := h) (P := S) (fun i hi => (hth i hi).1) j
      have cc : (nI (popN j 12) = nI (popN W 12)) ↔ popN j 12 = popN W 12 := nI_eq (by omega) (by omega)
      have ct : (nI (toN h j S) < nI (toN h W S)) ↔ toN h j S < toN h W S := nI_ltI (by omega) (by omega)
      unfold FX7_deals_S14 FX7_deals_J45L14 FX7_deals_J66L14
      rw [tog8 hS hts hth2 (by omega), hts, shl1 (by omega), if_neg (nI_ge hj (by omega)), bitCount_n (by omega), bitCount_n (by omega), lN_1, nI_1, cnB_s, Option.bind_some]
      by_cases c : popN j 12 = popN W 12
      · rw [if_pos (cc.mpr c), if_neg (show ¬ (1 : Int32) = 0 by decide), if_neg (show ¬ (1 : Int32) = 0 by decide)]
        by_cases c2 : toN h j S < toN h W S
        · have hc : ¬ (popN j 12 = popN W 12 ∧ toN h W S ≤ toN h j S) := fun y => absurd y.2 (by omega)
          rw [if_pos (ct.mpr c2), if_neg hc]
          rfl
        · have hc : popN j 12 = popN W 12 ∧ toN h W S ≤ toN h j S := ⟨c, by omega⟩
          rw [if_neg (fun y => c2 (ct.mp y)), if_pos hc]
      · have hc : ¬ (popN j 12 = popN W 12 ∧ toN h W S ≤ toN h j S) := fun y => c y.1
        rw [if_neg (fun y => c (cc.mp y)), if_pos (show (0 : Int32) = 0 from rfl), if_neg hc]
        rfl
    · show FX7_deals_S14 (nI W) ts th (1 : Int32) (nI (toN h W S)) _ (nI (2 ^ S)) = _
      unfold FX7_deals_S14
      rw [hts, shl1 (by omega), if_pos (nI_le (Nat.le_refl _) (by omega))]
  unfold FX7_deals
  rw [tog8 hS hts hth2 (by omega), Option.bind_some, hl]
  rfl
theorem chan9 (hS : S ≤ 10) (hmT : mT = nI S) (hmh : ∀ i, i < S → h i ≤ 99 ∧ mh i = nI (h i)) (hw : ∀ i, i < S → mw i = (if W.testBit i then 1 else 0)) (hW : W < 2 ^ S) : itr (fun v => FX9_chance_S48 mT mw mh (nI (toN h W S)) v.1 v.2.1 v.2.2) fu ((0 : Int64), (0 : Int64), (0 : Int32)) = some (lN (cnA W (2 ^ S)), lN (cnB W S h (2 ^ S))) := by
  have h12 := pow12 (P := S) (by omega)
  have h10 : 2 ^ S ≤ 2 ^ 10 := Nat.pow_le_pow_right (by decide) hS
  have h1024 : 2 ^ 10 = 1024 := rfl
  have hmh2 : ∀ i, i < S → mh i = nI (h i) := fun i hi => (hmh i hi).2
  have tW := toN_le (h := h) (P := S) (fun i hi => (hmh i hi).1) W
  refine itr_cnt (g := fun j => (lN (cnA W j), lN (cnB W S h j), nI j)) (e := 2 ^ S) (fu_le (by omega)) rfl (fun j hj => ?_) ?_
  · show FX9_chance_S48 mT mw mh (nI (toN h W S)) (lN (cnA W j)) (lN (cnB W S h j)) (nI j) = _
    have p1 := popN_le j 12
    have p2 := popN_le W 12
    have tj := toN_le (h := h) (P := S) (fun i hi => (hmh i hi).1) j
    have cc : (nI (popN j 12) = nI (popN W 12)) ↔ popN j 12 = popN W 12 := nI_eq (by omega) (by omega)
    have ct : (nI (toN h j S) < nI (toN h W S)) ↔ toN h j S < toN h W S := nI_ltI (by omega) (by omega)
    have z : (0 : Int64) = lN 0 := rfl
    have z1 : (1 : Int64) = lN 1 := rfl
    unfold FX9_chance_S48 FX9_chance_J117L48 FX9_chance_J130L48 FX9_chance_J149L48 FX9_chance_J150L48
    rw [tog9 hS hmT hmh2 (by omega), ones_n (by omega), waits_n hS hmT hw, ← pop_cut hW (show S ≤ 12 by omega), hmT, shl1 (by omega), if_neg (nI_ge hj (by omega)), Option.bind_some, Option.bind_some, Option.bind_some, nI_1, z, z1, lN_add, lN_add, lN_add, lN_add, cnA_s, cnB_s]
    by_cases c : popN j 12 = popN W 12
    · rw [if_pos (cc.mpr c), if_pos c, if_neg (show ¬ (1 : Int32) = 0 by decide), if_neg (show ¬ (1 : Int32) = 0 by decide)]
      by_cases c2 : toN h j S < toN h W S
      · have hc : ¬ (popN j 12 = popN W 12 ∧ toN h W S ≤ toN h j S) := fun y => absurd y.2 (by omega)
        rw [if_pos (ct.mpr c2), if_neg hc]
      · have hc : popN j 12 = popN W 12 ∧ toN h W S ≤ toN h j S := ⟨c, by omega⟩
        rw [if_neg (fun y => c2 (ct.mp y)), if_pos hc]
    · have hc : ¬ (popN j 12 = popN W 12 ∧ toN h W S ≤ toN h j S) := fun y => c y.1
      rw [if_neg (fun y => c (cc.mp y)), if_pos (show (0 : Int32) = 0 from rfl), if_pos (show (0 : Int32) = 0 from rfl), if_neg hc, if_neg c]
  · show FX9_chance_S48 mT mw mh (nI (toN h W S)) _ _ (nI (2 ^ S)) = _
    unfold FX9_chance_S48
    rw [hmT, shl1 (by omega), if_pos (nI_le (Nat.le_refl _) (by omega))]
theorem cn_le (f : Nat → Nat) (hf : ∀ i, f i ≤ 1) (hS : S ≤ 10) : sumN f (2 ^ S) ≤ 1024 := by
  have h := sumN_le hf (2 ^ S)
  have h10 : 2 ^ S ≤ 2 ^ 10 := Nat.pow_le_pow_right (by decide) hS
  have h1024 : 2 ^ 10 = 1024 := rfl
  omega
end CH
