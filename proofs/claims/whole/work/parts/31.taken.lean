/-! loops whose state is only known by a relation -/
theorem itr_ex {α β : Type} {f : α → Option (α ⊕ β)} {I : Nat → α → Prop} {Q : β → Prop} : ∀ (d n e k : Nat) (x : α), k + d = e → d < n → I k x → (∀ k x, k < e → I k x → ∃ y, f x = some (.inl y) ∧ I (k + 1) y) → (∀ x, I e x → ∃ r, f x = some (.inr r) ∧ Q r) → ∃ r, itr f n x = some r ∧ Q r := by
  intro d
  induction d with
  | zero =>
    intro n e k x hk hn h0 h1 h2
    obtain ⟨n, rfl⟩ : ∃ q, n = q + 1 := ⟨n - 1, by omega⟩
    have hk : k = e := by omega
    subst hk
    obtain ⟨r, hr, hq⟩ := h2 x h0
    exact ⟨r, itr_inr hr, hq⟩
  | succ d ih =>
    intro n e k x hk hn h0 h1 h2
    obtain ⟨n, rfl⟩ : ∃ q, n = q + 1 := ⟨n - 1, by omega⟩
    obtain ⟨y, hy, hI⟩ := h1 k x (by omega) h0
    obtain ⟨r, hr, hq⟩ := ih n e (k + 1) y (by omega) (by omega) hI h1 h2
    exact ⟨r, (itr_inl hy).trans hr, hq⟩
theorem itr_exP {α β : Type} {f : α → Option (α ⊕ β)} {I : Nat → α → Prop} {Q : β → Prop} {P : Nat} (hP : P < 3000) {x : α} (h0 : I 0 x) (h1 : ∀ k x, k < P → I k x → ∃ y, f x = some (.inl y) ∧ I (k + 1) y) (h2 : ∀ x, I P x → ∃ r, f x = some (.inr r) ∧ Q r) : ∃ r, itr f fu x = some r ∧ Q r :=
  itr_ex P fu P 0 x (by omega) (fu_le hP) h0 h1 h2
/-! sums -/
theorem sum_s (f : Nat → Nat) (n : Nat) : sumN f (n + 1) = sumN f n + f n := rfl
theorem sum_2 (A B : Nat → Nat) (x y : Nat) : ∀ n, sumN (fun b => A b * x + B b * y) n = sumN A n * x + sumN B n * y
  | 0 => by simp [sumN]
  | n + 1 => by
    have h := sum_2 A B x y n
    rw [sum_s, sum_s, sum_s, h, Nat.add_mul, Nat.add_mul]
    omega
theorem sum_x (u : Nat) (f : Nat → Nat) : ∀ n, sumN (fun b => u * f b) n = u * sumN f n
  | 0 => rfl
  | n + 1 => by
    have h := sum_x u f n
    rw [sum_s, sum_s, h, Nat.mul_add]
theorem sum_c {f g : Nat → Nat} : ∀ n, (∀ i, i < n → f i = g i) → sumN f n = sumN g n
  | 0, _ => rfl
  | n + 1, h => by
    rw [sum_s, sum_s, sum_c n (fun i hi => h i (by omega)), h n (by omega)]
theorem sum_mul_le {f g : Nat → Nat} {B : Nat} (h : ∀ i, g i ≤ B) : ∀ n, sumN (fun b => f b * g b) n ≤ sumN f n * B
  | 0 => by simp [sumN]
  | n + 1 => by
    have h1 := sum_mul_le (f := f) h n
    have h2 := Nat.mul_le_mul_left (f n) (h n)
    rw [sum_s, sum_s, Nat.add_mul]
    omega
theorem sum_up {f : Nat → Nat} {m : Nat} : ∀ d, sumN f m ≤ sumN f (m + d)
  | 0 => Nat.le_refl _
  | d + 1 => by
    have h := sum_up (f := f) (m := m) d
    have e : sumN f (m + (d + 1)) = sumN f (m + d) + f (m + d) := rfl
    omega
theorem sum_mono {f : Nat → Nat} {m n : Nat} (h : m ≤ n) : sumN f m ≤ sumN f n := by
  have h2 := sum_up (f := f) (m := m) (n - m)
  rw [show m + (n - m) = n by omega] at h2
  exact h2
theorem sum_cut {f : Nat → Nat} {P : Nat} (h : ∀ i, P ≤ i → f i = 0) : ∀ d, sumN f (P + d) = sumN f P
  | 0 => rfl
  | d + 1 => by
    have h1 := sum_cut h d
    have e : sumN f (P + (d + 1)) = sumN f (P + d) + f (P + d) := rfl
    rw [e, h1, h (P + d) (by omega), Nat.add_zero]
theorem sum_bd {f : Nat → Nat} {B P : Nat} : ∀ n, n ≤ P → (∀ i, i < P → f i ≤ B) → sumN f n ≤ n * B
  | 0, _, _ => by simp [sumN]
  | n + 1, hn, h => by
    have h1 := sum_bd n (by omega) h
    have h2 := h n (by omega)
    have h3 : (n + 1) * B = n * B + B := Nat.succ_mul n B
    rw [sum_s]
    omega
/-! by lot -/
def cj (V : Nat → Nat) (e g a : Nat) : Nat := V a * g + (if a = 0 then 0 else V (a - 1)) * e
def LV (e : Nat → Nat) (p : Nat) : Nat → Nat → Nat
  | 0 => fun a => if a = 0 then 1 else 0
  | o + 1 => if o = p then LV e p o else cj (LV e p o) (e o) (10 - e o)
def WL (e : Nat → Nat) (p : Nat) : Nat → Nat → Nat → Nat
  | 0 => dl0
  | o + 1 => if o = p then WL e p o else jn (WL e p o) 0 (e o) 0 (10 - e o)
theorem LV_s (e : Nat → Nat) (p o : Nat) : LV e p (o + 1) = if o = p then LV e p o else cj (LV e p o) (e o) (10 - e o) := rfl
theorem WL_s (e : Nat → Nat) (p o : Nat) : WL e p (o + 1) = if o = p then WL e p o else jn (WL e p o) 0 (e o) 0 (10 - e o) := rfl
theorem WL_0 (e : Nat → Nat) (p : Nat) : ∀ o a, WL e p o a 0 = LV e p o a
  | 0, a => by
    show dl0 a 0 = if a = 0 then 1 else 0
    unfold dl0
    by_cases c : a = 0 <;> simp [c]
  | o + 1, a => by
    have h := WL_0 e p o
    rw [WL_s, LV_s]
    by_cases c : o = p
    · rw [if_pos c, if_pos c]; exact h a
    · rw [if_neg c, if_neg c]
      unfold jn cj
      rw [h a, h (a - 1)]
      simp only [Nat.mul_zero, Nat.add_zero]
theorem LV_0 (e : Nat → Nat) (p : Nat) : ∀ o a, (p < o → o ≤ a → LV e p o a = 0) ∧ (o < a → LV e p o a = 0)
  | 0, a => ⟨fun h => by omega, fun h => by
    show (if a = 0 then 1 else 0) = 0
    rw [if_neg (by omega)]⟩
  | o + 1, a => by
    have h := LV_0 e p o
    rw [LV_s]
    by_cases c : o = p
    · rw [if_pos c]
      exact ⟨fun h1 h2 => (h a).2 (by omega), fun h1 => (h a).2 (by omega)⟩
    · rw [if_neg c]
      unfold cj
      refine ⟨fun h1 h2 => ?_, fun h1 => ?_⟩
      · rw [(h a).1 (by omega) (by omega), if_neg (by omega), (h (a - 1)).1 (by omega) (by omega)]; simp
      · rw [(h a).2 (by omega), if_neg (by omega), (h (a - 1)).2 (by omega)]; simp
theorem cj_sum {V : Nat → Nat} {T : Nat} (h : sumN V 13 ≤ T) (e g : Nat) : sumN (cj V e g) 13 ≤ T * (g + e) := by
  have e1 : sumN (cj V e g) 13 = sumN (fun a => V a * g + shf V a * e) 13 := rfl
  rw [e1, sum_2]
  have h2 := Nat.le_trans (sum_shf_le V 13) h
  have g1 := Nat.mul_le_mul_right g h
  have g2 := Nat.mul_le_mul_right e h2
  rw [Nat.mul_add]
  omega
theorem LV_le {e : Nat → Nat} {P : Nat} (he : ∀ o, o < P → e o ≤ 10) (p : Nat) : ∀ o, o ≤ P → sumN (LV e p o) 13 ≤ 10 ^ o ∧ (p < o → 10 * sumN (LV e p o) 13 ≤ 10 ^ o)
  | 0, _ => ⟨by
    have e1 : sumN (LV e p 0) 13 = 1 := rfl
    rw [e1]; decide, fun h => by omega⟩
  | o + 1, ho => by
    obtain ⟨h1, h2⟩ := LV_le he p o (by omega)
    have h10 : 10 ^ (o + 1) = 10 ^ o * 10 := Nat.pow_succ ..
    rw [LV_s, h10]
    by_cases c : o = p
    · rw [if_pos c]
      exact ⟨by omega, fun _ => by omega⟩
    · rw [if_neg c]
      have ho2 := he o (by omega)
      have h3 := cj_sum (Nat.le_refl (sumN (LV e p o) 13)) (e o) (10 - e o)
      rw [show 10 - e o + e o = 10 by omega] at h3
      exact ⟨by omega, fun hp => by have := h2 (by omega); omega⟩
def OL (e : Nat → Nat) (p P : Nat) : Nat := sumN (fun n => LV e p P n * (27720 / (n + 1))) P
theorem OL_le {e : Nat → Nat} {p P : Nat} (he : ∀ o, o < P → e o ≤ 10) (hP : P ≤ 12) (hp : p < P) : 10 * OL e p P ≤ 27720 * 10 ^ P := by
  have h1 := sum_mul_le (f := LV e p P) (g := fun n => 27720 / (n + 1)) (B := 27720) (fun i => Nat.div_le_self _ _) P
  have h2 := sum_mono (f := LV e p P) (m := P) (n := 13) (by omega)
  have h3 := (LV_le he p P (Nat.le_refl P)).2 hp
  have e1 : OL e p P = sumN (fun b => LV e p P b * (27720 / (b + 1))) P := rfl
  omega
theorem lot8 {e : Nat → Nat} {p P : Nat} {el : Nat → Int32} (he : ∀ o, o < P → e o ≤ 10) (hel : ∀ o, o < P → el o = nI (e o)) (hP : P ≤ 12) (hp : p < P) (c : Nat → Int64) : FX0_othersByLot (nI P) c el (nI p) = some (lN (OL e p P), lay c (WL e p P)) := by
  have hl : itr (fun v => FX0_othersByLot_S9 (nI P) el (nI p) v.1 v.2) fu ((0 : Int32), lay c dl0) = some (lay c (WL e p P)) := by
    refine itr_Q (P := P) (g := fun o => lay c (WL e p o)) (by omega) _ rfl (fun o ho => ?_) ?_
    · show FX0_othersByLot_S9 (nI P) el (nI p) (nI o) (lay c (WL e p o)) = _
      have co : (nI o = nI p) ↔ o = p := nI_eq (by omega) (by omega)
      have ho2 := he o ho
      unfold FX0_othersByLot_S9
      rw [if_neg (nI_ge ho (by omega)), nI_1, WL_s]
      by_cases h : o = p
      · rw [if_pos (co.mpr h), if_pos h]
      · rw [if_neg (fun y => h (co.mp y)), if_neg h, gat_n (by omega) (by decide), hel o ho, nI_l (by omega), ten_k ho2, show (0 : Int64) = lN 0 from rfl, join_n]
        rfl
    · show FX0_othersByLot_S9 (nI P) el (nI p) (nI P) _ = _
      unfold FX0_othersByLot_S9
      rw [if_pos (nI_le (Nat.le_refl P) (by omega))]
  have hs : itr (fun v => FX0_othersByLot_S63 (nI P) (lay c (WL e p P)) v.1 v.2) fu ((0 : Int64), (0 : Int32)) = some (lN (OL e p P)) := by
    refine itr_P (P := P) (g := fun j => lN (sumN (fun n => LV e p P n * (27720 / (n + 1))) j)) (by omega) 0 rfl (fun j hj => ?_) ?_
    · show FX0_othersByLot_S63 (nI P) (lay c (WL e p P)) (lN (sumN (fun n => LV e p P n * (27720 / (n + 1))) j)) (nI j) = _
      have hg : gget (lay c (WL e p P)) (nI j) (0 : Int32) = lN (LV e p P j) := by
        have h := gget_n (c := lay c (WL e p P)) (a := j) (b := 0) (by omega) (by decide)
        have h2 := lay_at (c := c) (W := WL e p P) (a := j) (b := 0) (by omega) (by decide)
        rw [← WL_0]
        exact h.trans h2
      unfold FX0_othersByLot_S63
      rw [if_neg (nI_ge hj (by omega)), hg, nI_1, share_n (by omega) (by omega), lN_mul, lN_add]
      rfl
    · show FX0_othersByLot_S63 (nI P) (lay c (WL e p P)) _ (nI P) = _
      unfold FX0_othersByLot_S63
      rw [if_pos (nI_le (Nat.le_refl P) (by omega))]
      rfl
  unfold FX0_othersByLot nmb
  rw [begin_n]
  dsimp only
  rw [hl, Option.bind_some, hs]
  rfl
/-- a row of 13 -/
def fil (V : Nat → Nat) (c : Nat → Int64) (n : Nat) : Nat → Int64 := fun i => if i < n then lN (V i) else c i
theorem fil_s (V : Nat → Nat) (c : Nat → Int64) (n : Nat) : vp_updL (fil V c n) n (lN (V n)) = fil V c (n + 1) := by
  funext i
  unfold vp_updL fil
  by_cases h1 : i = n
  · subst h1; rw [if_pos rfl, if_pos (by omega)]
  · rw [if_neg h1]
    by_cases h2 : i < n
    · rw [if_pos h2, if_pos (by omega)]
    · rw [if_neg h2, if_neg (by omega)]
theorem fil_0 (V : Nat → Nat) (c : Nat → Int64) : fil V c 0 = c := by
  funext i
  unfold fil
  rw [if_neg (by omega)]
theorem fil_at {V : Nat → Nat} {c : Nat → Int64} {n i : Nat} (h : i < n) : fil V c n i = lN (V i) := by
  unfold fil
  rw [if_pos h]
theorem fil_top (V U : Nat → Nat) (c : Nat → Int64) : swp (fil V c 13) (fil U c 13) 13 = fil V c 13 := by
  funext i
  unfold swp fil
  by_cases h : 13 ≤ i
  · rw [if_pos h, if_neg (by omega), if_neg (by omega)]
  · rw [if_neg h]
section LT
variable {e : Nat → Nat} {p P w : Nat} {mpu mmood : Int32} {mp md mt : Nat → Int32}
theorem lot9a (hup : FX9_upOf mmood mp md (nI p) (nI w) = some (nI (e p))) (he : e p ≤ 10) (c : Nat → Int64) : itr (fun v => FX9_takenOf_S105 mmood mp md (nI p) (nI w) v.1 v.2) fu ((0 : Int32), c) = some (fil (fun a => e p * LV e p 0 a) c 13) := by
  refine itr_Q (P := 13) (g := fun j => fil (fun a => e p * LV e p 0 a) c j) (by decide) _ (fil_0 _ _).symm (fun j hj => ?_) ?_
  · show FX9_takenOf_S105 mmood mp md (nI p) (nI w) (nI j) (fil (fun a => e p * LV e p 0 a) c j) = _
    have c0 : (nI j = 0) ↔ j = 0 := nI_eq (b := 0) (by omega) (by decide)
    have gi : ¬ (nI j < 0 ∨ 13 ≤ j) := gd2 hj (by decide)
    have fs := fil_s (fun a => e p * LV e p 0 a) c j
    unfold FX9_takenOf_S105 FX9_takenOf_J134L105
    rw [if_neg (gl 13 hj (by decide)), nI_clamp (by omega), if_neg gi, nI_1]
    by_cases h : j = 0
    · have ev : e p * LV e p 0 j = e p := by
        show e p * (if j = 0 then 1 else 0) = e p
        rw [if_pos h, Nat.mul_one]
      rw [ev] at fs
      rw [if_pos (c0.mpr h), hup, Option.bind_some, if_neg gi, nI_l (by omega), fs]
    · have ev : e p * LV e p 0 j = 0 := by
        show e p * (if j = 0 then 1 else 0) = 0
        rw [if_neg h, Nat.mul_zero]
      rw [ev] at fs
      rw [if_neg (fun y => h (c0.mp y)), show (0 : Int64) = lN 0 from rfl, fs]
  · show FX9_takenOf_S105 mmood mp md (nI p) (nI w) (nI 13) _ = _
    unfold FX9_takenOf_S105
    rw [if_pos (by decide)]
theorem lot9b {o : Nat} (hup : FX9_upOf mmood mp md (nI o) (nI w) = some (nI (e o))) (he : e o ≤ 10) (ho : o < 12) (hp : p < 12) (hne : ¬ o = p) (V : Nat → Nat) (c : Nat → Int64) : itr (fun v => FX9_takenOf_S157 mmood mp md (nI p) (nI w) (nI o) v.1 v.2) fu ((12 : Int32), fil V c 13) = some (fil (cj V (e o) (10 - e o)) c 13) := by
  refine itr_D (P := 13) (g := fun n => swp (fil V c 13) (fil (cj V (e o) (10 - e o)) c 13) n) (by decide) 12 (by decide) _ (fil_top _ _ _).symm (fun n hn => ?_) ?_
  · show FX9_takenOf_S157 mmood mp md (nI p) (nI w) (nI o) (nI n) (swp (fil V c 13) (fil (cj V (e o) (10 - e o)) c 13) (n + 1)) = _
    have co : ¬ nI o = nI p := fun y => hne ((nI_eq (by omega) (by omega)).mp y)
    have c0 : (nI n ≤ 0) ↔ n ≤ 0 := nI_leI (b := 0) (by omega) (by decide)
    have gi : ¬ (nI n < 0 ∨ 13 ≤ n) := gd2 hn (by decide)
    have ek : (nI (e o)).toInt64 = lN (e o) := nI_l (by omega)
    have ev : fil (cj V (e o) (10 - e o)) c 13 n = lN (V n * (10 - e o) + (if n = 0 then 0 else V (n - 1)) * e o) := fil_at hn
    have fs := swp_s (fil V c 13) (fil (cj V (e o) (10 - e o)) c 13) n
    rw [ev] at fs
    unfold FX9_takenOf_S157 FX9_takenOf_J220L157
    rw [if_neg (nI_pos (by omega)), if_neg co, nI_clamp (n := n) (by omega), if_neg gi, hup, Option.bind_some, Option.bind_some, ten_k he, ek, swp_a (by omega), fil_at hn, lN_mul, if_neg gi]
    cases n with
    | zero =>
      rw [if_pos (c0.mpr (Nat.le_refl 0)), show (0 : Int64) = lN 0 from rfl, lN_add]
      rw [if_pos rfl, Nat.zero_mul] at fs
      rw [fs]
    | succ n =>
      rw [if_neg (show ¬ n + 1 = 0 by omega), Nat.add_sub_cancel] at fs
      rw [if_neg (fun y => absurd (c0.mp y) (by omega)), nI_pred, gdI (by omega) (by decide), nI_clamp (n := n) (by omega), swp_a (by omega), fil_at (by omega), lN_mul, lN_add, if_neg gi, fs]
  · show FX9_takenOf_S157 mmood mp md (nI p) (nI w) (nI o) (-1 : Int32) (swp (fil V c 13) (fil (cj V (e o) (10 - e o)) c 13) 0) = _
    unfold FX9_takenOf_S157
    rw [if_pos (by decide), swp_0]
theorem cj_x (u : Nat) (V : Nat → Nat) (e g : Nat) : cj (fun a => u * V a) e g = fun a => u * cj V e g a := by
  funext a
  unfold cj
  by_cases h : a = 0
  · rw [if_pos h, if_pos h, Nat.mul_add, Nat.zero_mul, Nat.mul_assoc]; rfl
  · rw [if_neg h, if_neg h, Nat.mul_add, Nat.mul_assoc, Nat.mul_assoc]
theorem lot9c (hup : ∀ o, o < P → FX9_upOf mmood mp md (nI o) (nI w) = some (nI (e o))) (he : ∀ o, o < P → e o ≤ 10) (hP : P ≤ 12) (hp : p < P) (u : Nat) (c : Nat → Int64) : itr (fun v => FX9_takenOf_S144 (nI P) mmood mp md (nI p) (nI w) v.1 v.2) fu ((0 : Int32), fil (fun a => u * LV e p 0 a) c 13) = some (fil (fun a => u * LV e p P a) c 13) := by
  refine itr_Q (P := P) (g := fun o => fil (fun a => u * LV e p o a) c 13) (by omega) _ rfl (fun o ho => ?_) ?_
  · show FX9_takenOf_S144 (nI P) mmood mp md (nI p) (nI w) (nI o) (fil (fun a => u * LV e p o a) c 13) = _
    unfold FX9_takenOf_S144
    rw [if_neg (nI_ge ho (by omega)), nI_1, LV_s]
    by_cases h : o = p
    · have hi : itr (fun v => FX9_takenOf_S157 mmood mp md (nI p) (nI w) (nI o) v.1 v.2) fu ((12 : Int32), fil (fun a => u * LV e p o a) c 13) = some (fil (fun a => u * LV e p o a) c 13) := by
        refine itr_inr (n := 2999) ?_
        show FX9_takenOf_S157 mmood mp md (nI p) (nI w) (nI o) (12 : Int32) _ = _
        unfold FX9_takenOf_S157
        rw [if_neg (by decide), if_pos (by rw [h])]
      rw [hi, if_pos h]
      rfl
    · rw [lot9b (hup o ho) (he o ho) (by omega) (by omega) h, if_neg h, cj_x]
      rfl
  · show FX9_takenOf_S144 (nI P) mmood mp md (nI p) (nI w) (nI P) _ = _
    unfold FX9_takenOf_S144
    rw [if_pos (nI_le (Nat.le_refl P) (by omega))]
theorem lot9d (V : Nat → Nat) (c : Nat → Int64) : itr (fun v => FX9_takenOf_S240 (fil V c 13) v.1 v.2) fu ((0 : Int64), (0 : Int32)) = some (lN (sumN (fun n => V n * (27720 / (n + 1))) 12)) := by
  refine itr_P (P := 12) (g := fun j => lN (sumN (fun n => V n * (27720 / (n + 1))) j)) (by omega) 0 rfl (fun j hj => ?_) ?_
  · show FX9_takenOf_S240 (fil V c 13) (lN (sumN (fun n => V n * (27720 / (n + 1))) j)) (nI j) = _
    have hne : ¬ (nI (j + 1)).toInt64 = 0 := by
      rw [nI_l (by omega)]
      exact fun y => absurd ((pk_lEQ (b := 0) (by omega) (by decide)).mp y) (by omega)
    unfold FX9_takenOf_S240 nmb
    rw [if_neg (gl 12 hj (by decide)), gdI (by omega) (by decide), nI_1, if_neg hne, all_n (by omega) (by omega), nI_clamp (by omega), fil_at (by omega), lN_mul, lN_add]
    rfl
  · show FX9_takenOf_S240 (fil V c 13) _ (nI 12) = _
    unfold FX9_takenOf_S240
    rw [if_pos (by decide)]
theorem lot_eq (hP : P ≤ 12) (hp : p < P) (u : Nat) : sumN (fun n => u * LV e p P n * (27720 / (n + 1))) 12 = u * OL e p P := by
  have h1 := sum_x u (fun n => LV e p P n * (27720 / (n + 1))) 12
  have h2 : sumN (fun n => LV e p P n * (27720 / (n + 1))) 12 = OL e p P := by
    have h := sum_cut (f := fun n => LV e p P n * (27720 / (n + 1))) (P := P) (fun i hi => by
      show LV e p P i * (27720 / (i + 1)) = 0
      rw [(LV_0 e p P i).1 hp hi, Nat.zero_mul]) (12 - P)
    rw [show P + (12 - P) = 12 by omega] at h
    exact h
  rw [← h2, ← h1]
  exact sum_c 12 (fun i _ => Nat.mul_assoc _ _ _)
/-! by rank -/
def RV (e rk : Nat → Nat) (p : Nat) : Nat → Nat
  | 0 => 1
  | o + 1 => if o = p then RV e rk p o else RV e rk p o * (if rk o < rk p then 10 - e o else 10)
theorem RV_s (e rk : Nat → Nat) (p o : Nat) : RV e rk p (o + 1) = if o = p then RV e rk p o else RV e rk p o * (if rk o < rk p then 10 - e o else 10) := rfl
theorem RV_le (e rk : Nat → Nat) (p : Nat) : ∀ o, RV e rk p o ≤ 10 ^ o ∧ (p < o → 10 * RV e rk p o ≤ 10 ^ o)
  | 0 => ⟨Nat.le_refl 1, fun h => by omega⟩
  | o + 1 => by
    obtain ⟨h1, h2⟩ := RV_le e rk p o
    have h10 : 10 ^ (o + 1) = 10 ^ o * 10 := Nat.pow_succ ..
    rw [RV_s, h10]
    by_cases c : o = p
    · rw [if_pos c]
      exact ⟨by omega, fun _ => by omega⟩
    · rw [if_neg c]
      have h3 : RV e rk p o * (if rk o < rk p then 10 - e o else 10) ≤ RV e rk p o * 10 := Nat.mul_le_mul_left _ (by
        by_cases c2 : rk o < rk p
        · rw [if_pos c2]; omega
        · rw [if_neg c2]; exact Nat.le_refl _)
      exact ⟨by omega, fun hp => by have := h2 (by omega); omega⟩
theorem rank8 {rk : Nat → Nat} {el ranks : Nat → Int32} (he : ∀ o, o < P → e o ≤ 10) (hel : ∀ o, o < P → el o = nI (e o)) (hrk : ∀ o, o < P → rk o < 1000000 ∧ ranks o = nI (rk o)) (hP : P ≤ 12) (hp : p < P) : FX0_othersByRank (nI P) ranks el (nI p) = some (lN (RV e rk p P)) := by
  have hl : itr (fun v => FX0_othersByRank_S5 (nI P) ranks el (nI p) v.1 v.2) fu ((1 : Int64), (0 : Int32)) = some (lN (RV e rk p P)) := by
    refine itr_P (P := P) (g := fun o => lN (RV e rk p o)) (by omega) 1 rfl (fun o ho => ?_) ?_
    · show FX0_othersByRank_S5 (nI P) ranks el (nI p) (lN (RV e rk p o)) (nI o) = _
      have co : (nI o = nI p) ↔ o = p := nI_eq (by omega) (by omega)
      obtain ⟨k1, k2⟩ := hrk o ho
      obtain ⟨k3, k4⟩ := hrk p hp
      have cr : (nI (rk p) ≤ nI (rk o)) ↔ rk p ≤ rk o := nI_leI (by omega) (by omega)
      unfold FX0_othersByRank_S5 FX0_othersByRank_J45L5 FX0_othersByRank_J72L5
      rw [if_neg (nI_ge ho (by omega)), nI_1, RV_s]
      by_cases h : o = p
      · rw [if_pos (co.mpr h), if_pos h]
      · rw [if_neg (fun y => h (co.mp y)), if_neg h, gat_n (j := p) (by omega) (by decide), gat_n (f := ranks) (j := o) (by omega) (by decide), gat_n (f := el) (j := o) (by omega) (by decide), k2, k4, hel o ho, ten_k (he o ho)]
        by_cases h2 : rk o < rk p
        · rw [if_neg (fun y => absurd (cr.mp y) (by omega)), if_neg (show ¬ (1 : Int32) = 0 by decide), if_pos h2, lN_mul]
        · rw [if_pos (cr.mpr (by omega)), if_pos (show (0 : Int32) = 0 from rfl), if_neg h2, show (10 : Int64) = lN 10 from rfl, lN_mul]
    · show FX0_othersByRank_S5 (nI P) ranks el (nI p) _ (nI P) = _
      unfold FX0_othersByRank_S5
      rw [if_pos (nI_le (Nat.le_refl P) (by omega))]
  unfold FX0_othersByRank
  rw [hl]
  rfl
theorem rank9 {rk : Nat → Nat} {R : Int32} (hup : ∀ o, o < P → FX9_upOf mmood mp md (nI o) (nI w) = some (nI (e o))) (he : ∀ o, o < P → e o ≤ 10) (hA : ∀ o, o < P → FX9_isAhead mp mt (nI o) (nI p) R = some (decide (rk o < rk p))) (hP : P ≤ 12) (hp : p < P) (u : Nat) : itr (fun v => FX9_takenOf_S37 (nI P) mmood mp md mt (nI p) (nI w) R v.1 v.2) fu (lN u, (0 : Int32)) = some (lN (u * RV e rk p P)) := by
  refine itr_P (P := P) (g := fun o => lN (u * RV e rk p o)) (by omega) _ (by show lN u = lN (u * 1); rw [Nat.mul_one]) (fun o ho => ?_) ?_
  · show FX9_takenOf_S37 (nI P) mmood mp md mt (nI p) (nI w) R (lN (u * RV e rk p o)) (nI o) = _
    have co : (nI o = nI p) ↔ o = p := nI_eq (by omega) (by omega)
    unfold FX9_takenOf_S37 FX9_takenOf_J86L37
    rw [if_neg (nI_ge ho (by omega)), nI_1, RV_s]
    by_cases h : o = p
    · rw [if_pos (co.mpr h), if_pos h, show (1 : Int64) = lN 1 from rfl, lN_mul, Nat.mul_one]
    · rw [if_neg (fun y => h (co.mp y)), if_neg h, hA o ho, Option.bind_some, hup o ho, Option.bind_some, ten_k (he o ho), ← Nat.mul_assoc]
      by_cases h2 : rk o < rk p
      · rw [if_pos (decide_eq_true h2), if_pos h2, lN_mul]
      · rw [if_neg (by rw [decide_eq_false h2]; decide), if_neg h2, show (10 : Int64) = lN 10 from rfl, lN_mul]
  · show FX9_takenOf_S37 (nI P) mmood mp md mt (nI p) (nI w) R _ (nI P) = _
    unfold FX9_takenOf_S37
    rw [if_pos (nI_le (Nat.le_refl P) (by omega))]
end LT
/-! who is ahead -/
def ab (c : Nat) : Nat := if 5 ≤ 2 * c then 2 * c - 5 else 5 - 2 * c
def plc (c : Nat) : Nat := 10 * ab c + c
theorem ab_n : ∀ c, c < 6 → ((0 ≤ (2 : Int32) * nI c - (5 : Int32) ∧ (2 : Int32) * nI c - (5 : Int32) = nI (ab c)) ∨ (¬ 0 ≤ (2 : Int32) * nI c - (5 : Int32) ∧ -((2 : Int32) * nI c - (5 : Int32)) = nI (ab c) ∧ 0 - ((2 : Int32) * nI c - (5 : Int32)) = nI (ab c))) ∧ ab c ≤ 5 := by decide +kernel
theorem row_n {c : Nat} (hc : c < 6) : FX3_rankInRow (nI c) = nI (plc c) := by
  obtain ⟨h, -⟩ := ab_n c hc
  unfold FX3_rankInRow plc
  rcases h with ⟨h1, h2⟩ | ⟨h1, -, h2⟩
  · rw [if_pos h1, h2, Int32.mul_comm, nmul 10, nI_add]
  · rw [if_neg h1, h2, Int32.mul_comm, nmul 10, nI_add]
def rb (R : Nat) (r c q ti : Nat → Nat) (p : Nat) : Nat := if R = 0 then 100 * r p + plc (c p) else if R = 1 then q p else if R = 4 then ti p else 0
def rkN (R : Nat) (r c q ti : Nat → Nat) (p : Nat) : Nat := rb R r c q ti p * 12 + p
theorem j78 {A B o p : Nat} (hA : A < 100000) (hB : B < 100000) (ho : o < 12) (hp : p < 12) : FX9_isAhead_J78 (nI o) (nI p) (nI A) (nI B) = some (decide (A * 12 + o < B * 12 + p)) := by
  have c1 : (nI A < nI B) ↔ A < B := nI_ltI (by omega) (by omega)
  have c2 : (nI A = nI B) ↔ A = B := nI_eq (by omega) (by omega)
  have c3 : (nI p ≤ nI o) ↔ p ≤ o := nI_leI (by omega) (by omega)
  unfold FX9_isAhead_J78
  by_cases h1 : A < B
  · rw [if_pos (c1.mpr h1), decide_eq_true (show A * 12 + o < B * 12 + p by omega)]
  · rw [if_neg (fun y => h1 (c1.mp y))]
    by_cases h2 : A = B
    · rw [if_pos (c2.mpr h2)]
      by_cases h3 : p ≤ o
      · rw [if_pos (c3.mpr h3), decide_eq_false (show ¬ A * 12 + o < B * 12 + p by omega)]
      · rw [if_neg (fun y => h3 (c3.mp y)), decide_eq_true (show A * 12 + o < B * 12 + p by omega)]
    · rw [if_neg (fun y => h2 (c2.mp y)), decide_eq_false (show ¬ A * 12 + o < B * 12 + p by omega)]
section AH
variable {N P mo : Nat} {r c k q d f da ti : Nat → Nat} {lt rws cls tn nd td ld lti md mti mp : Nat → Int32} {pu mpu mood mmood : Int32}
theorem rb_lt (hR : RRos P r c k q d f lt rws cls tn nd td pu mpu mp) (hL : RLe N P da ti ld lti md mti) (hN : N < 4000) {p : Nat} (hp : p < P) (R : Nat) : rb R r c q ti p < 4000 := by
  obtain ⟨b1, b2, b3, b4, b5, b6⟩ := (hR.2.2.2 p hp).1
  have ht := (hL p hp).2.1
  have ha := (ab_n (c p) b2).2
  unfold rb plc
  by_cases h0 : R = 0
  · rw [if_pos h0]; omega
  · rw [if_neg h0]
    by_cases h1 : R = 1
    · rw [if_pos h1]; omega
    · rw [if_neg h1]
      by_cases h4 : R = 4
      · rw [if_pos h4]; omega
      · rw [if_neg h4]; decide
theorem rank_n (hR : RRos P r c k q d f lt rws cls tn nd td pu mpu mp) (hL : RLe N P da ti ld lti md mti) {p R : Nat} (hp : p < P) (hr : R ≤ 4) : FX3_rank rws cls nd lti (nI p) (nI R) = nI (rkN R r c q ti p) := by
  obtain ⟨⟨b1, b2, b3, b4, b5, b6⟩, -, ⟨hrw, hcl, -, hnd, -⟩, -⟩ := hR.2.2.2 p hp
  have hlt := (hL p hp).2.2.2.2.1
  have hP := hR.1
  have fin : ∀ x : Nat, nI x * (12 : Int32) + nI p = nI (x * 12 + p) := fun x => by rw [Int32.mul_comm, nmul 12, nI_add, Nat.mul_comm]
  unfold FX3_rank FX3_rankByRule rkN rb
  rw [gat_n (by omega) (by decide), gat_n (by omega) (by decide), gat_n (by omega) (by decide), gat_n (by omega) (by decide), hrw, hcl, hnd, hlt, row_n b2]
  have e0 : nI (r p) * (100 : Int32) + nI (plc (c p)) = nI (100 * r p + plc (c p)) := by rw [Int32.mul_comm, nmul 100, nI_add]
  rw [e0]
  rcases (show R = 0 ∨ R = 1 ∨ R = 2 ∨ R = 3 ∨ R = 4 by omega) with rfl | rfl | rfl | rfl | rfl
  · rw [if_pos (show nI 0 = (0 : Int32) from rfl), if_pos (show (0 : Nat) = 0 from rfl), fin]
  · rw [if_neg (show ¬ nI 1 = (0 : Int32) by decide), if_pos (show nI 1 = (1 : Int32) from rfl), if_neg (show ¬ (1 : Nat) = 0 by decide), if_pos (show (1 : Nat) = 1 from rfl), fin]
  · rw [if_neg (show ¬ nI 2 = (0 : Int32) by decide), if_neg (show ¬ nI 2 = (1 : Int32) by decide), if_pos (show nI 2 = (2 : Int32) from rfl), if_neg (show ¬ (2 : Nat) = 0 by decide), if_neg (show ¬ (2 : Nat) = 1 by decide), if_neg (show ¬ (2 : Nat) = 4 by decide)]
    exact fin 0
  · rw [if_neg (show ¬ nI 3 = (0 : Int32) by decide), if_neg (show ¬ nI 3 = (1 : Int32) by decide), if_neg (show ¬ nI 3 = (2 : Int32) by decide), if_pos (show nI 3 = (3 : Int32) from rfl), if_neg (show ¬ (3 : Nat) = 0 by decide), if_neg (show ¬ (3 : Nat) = 1 by decide), if_neg (show ¬ (3 : Nat) = 4 by decide)]
    exact fin 0
  · rw [if_neg (show ¬ nI 4 = (0 : Int32) by decide), if_neg (show ¬ nI 4 = (1 : Int32) by decide), if_neg (show ¬ nI 4 = (2 : Int32) by decide), if_neg (show ¬ nI 4 = (3 : Int32) by decide), if_pos (show nI 4 = (4 : Int32) from rfl), if_neg (show ¬ (4 : Nat) = 0 by decide), if_neg (show ¬ (4 : Nat) = 1 by decide), if_pos (show (4 : Nat) = 4 from rfl), fin]
theorem place_n (hR : RRos P r c k q d f lt rws cls tn nd td pu mpu mp) {p : Nat} (hp : p < P) : FX9_placeOf mp (nI p) = some (nI (100 * r p + plc (c p))) := by
  obtain ⟨⟨b1, b2, b3, b4, b5, b6⟩, -, -, q0, q1, -⟩ := hR.2.2.2 p hp
  have hP := hR.1
  obtain ⟨h, -⟩ := ab_n (c p) b2
  have e1 : (6 : Int32) * nI p + (1 : Int32) = nI (6 * p + 1) := x6 p 1
  have e0 : (6 : Int32) * nI p = nI (6 * p) := x6z p
  have g1 : ¬ (nI (6 * p + 1) < 0 ∨ 72 ≤ 6 * p + 1) := gd2 (by omega) (by decide)
  have g0 : ¬ (nI (6 * p) < 0 ∨ 72 ≤ 6 * p) := gd2 (by omega) (by decide)
  have fin : (100 : Int32) * nI (r p) + (10 : Int32) * nI (ab (c p)) + nI (c p) = nI (100 * r p + plc (c p)) := by
    rw [nmul 100, nmul 10, nI_add, nI_add]
    unfold plc
    rw [Nat.add_assoc]
  unfold FX9_placeOf FX9_placeOf_J40 nmb
  rw [e1, e0, nI_clamp (n := 6 * p + 1) (by omega), nI_clamp (n := 6 * p) (by omega), if_neg g1]
  dsimp only
  rw [if_neg g0, if_neg g1, if_neg g1, q0, q1]
  rcases h with ⟨h1, h2⟩ | ⟨h1, h2, -⟩
  · rw [if_pos h1, h2, fin]
  · rw [if_neg h1, h2, fin]
theorem ahead_n (hR : RRos P r c k q d f lt rws cls tn nd td pu mpu mp) (hL : RLe N P da ti ld lti md mti) (hN : N < 4000) {o p R : Nat} (ho : o < P) (hp : p < P) (hr : R = 0 ∨ R = 1 ∨ R = 4) : FX9_isAhead mp mti (nI o) (nI p) (nI R) = some (decide (rkN R r c q ti o < rkN R r c q ti p)) := by
  have hP := hR.1
  have k1 := rb_lt hR hL hN ho R
  have k2 := rb_lt hR hL hN hp R
  obtain ⟨-, -, -, -, -, -, q3, -, -⟩ := hR.2.2.2 o ho
  obtain ⟨-, -, -, -, -, -, t3, -, -⟩ := hR.2.2.2 p hp
  have mo1 := (hL o ho).2.2.2.2.2
  have mo2 := (hL p hp).2.2.2.2.2
  have e3 : (6 : Int32) * nI o + (3 : Int32) = nI (6 * o + 3) := x6 o 3
  have d3 : (6 : Int32) * nI p + (3 : Int32) = nI (6 * p + 3) := x6 p 3
  have h := j78 (A := rb R r c q ti o) (B := rb R r c q ti p) (o := o) (p := p) (by omega) (by omega) (by omega) (by omega)
  unfold FX9_isAhead FX9_isAhead_J38
  rcases hr with rfl | rfl | rfl
  · rw [if_neg (show ¬ nI 0 = (1 : Int32) by decide), if_neg (show ¬ nI 0 = (4 : Int32) by decide), place_n hR ho, Option.bind_some, if_neg (show ¬ nI 0 = (1 : Int32) by decide), if_neg (show ¬ nI 0 = (4 : Int32) by decide), place_n hR hp, Option.bind_some]
    exact h
  · rw [if_pos (show nI 1 = (1 : Int32) from rfl), e3, gdI (by omega) (by decide), if_pos (show nI 1 = (1 : Int32) from rfl), d3, gdI (by omega) (by decide), nI_clamp (by omega), nI_clamp (by omega), q3, t3]
    exact h
  · rw [if_neg (show ¬ nI 4 = (1 : Int32) by decide), if_pos (show nI 4 = (4 : Int32) from rfl), gdI (by omega) (by decide), if_neg (show ¬ nI 4 = (1 : Int32) by decide), if_pos (show nI 4 = (4 : Int32) from rfl), gdI (by omega) (by decide), nI_clamp (by omega), nI_clamp (by omega), mo1, mo2]
    exact h
end AH
