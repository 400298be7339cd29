/-! taken, right, mostly: one weight on both sides -/
def OO (R : Nat) (e rk : Nat → Nat) (p P : Nat) : Nat := if R = 2 then OL e p P else if R = 3 then 1 else RV e rk p P
def eE (R : Nat) (e : Nat → Nat) (p : Nat) : Nat := if R = 3 then 10 else e p
def kap (R P : Nat) : Nat := if R = 2 then 1 else if R = 3 then 10 ^ (P - 1) * (27720 / P) else 27720
def al8 (R P : Nat) : Nat := if R = 2 then 27720 * 10 ^ P else if R = 3 then 10 * P else 10 ^ P
theorem div12 : ∀ m, m < 12 → 27720 / (m + 1) * (m + 1) = 27720 := by decide
theorem kap_al {R P : Nat} (h1 : 1 ≤ P) (hP : P ≤ 12) : kap R P * al8 R P = 10 ^ P * 27720 := by
  unfold kap al8
  by_cases h2 : R = 2
  · rw [if_pos h2, if_pos h2, Nat.one_mul, Nat.mul_comm]
  · rw [if_neg h2, if_neg h2]
    by_cases h3 : R = 3
    · rw [if_pos h3, if_pos h3]
      obtain ⟨m, rfl⟩ : ∃ m, P = m + 1 := ⟨P - 1, by omega⟩
      rw [Nat.add_sub_cancel, Nat.mul_mul_mul_comm, div12 m (by omega), Nat.pow_succ]
    · rw [if_neg h3, if_neg h3, Nat.mul_comm]
theorem kap_pos {R P : Nat} (h1 : 1 ≤ P) (hP : P ≤ 12) : 0 < kap R P := by
  have h := kap_al (R := R) h1 hP
  have h2 : 0 < 10 ^ P := Nat.pow_pos (by decide)
  rcases Nat.eq_zero_or_pos (kap R P) with h0 | h0
  · rw [h0, Nat.zero_mul] at h; omega
  · exact h0
theorem al8_le {R P : Nat} (hP : P ≤ 12) : al8 R P ≤ 27720000000000000 := by
  have h := ten12 hP
  have h2 : 1 ≤ 10 ^ P := Nat.pow_pos (by decide)
  unfold al8
  by_cases h2 : R = 2
  · rw [if_pos h2]; omega
  · rw [if_neg h2]
    by_cases h3 : R = 3
    · rw [if_pos h3]; omega
    · rw [if_neg h3]; omega
theorem al8_pos {R P : Nat} (h1 : 1 ≤ P) (hP : P ≤ 12) : 0 < al8 R P := by
  have h := kap_al (R := R) h1 hP
  have h2 : 0 < 10 ^ P := Nat.pow_pos (by decide)
  rcases Nat.eq_zero_or_pos (al8 R P) with h0 | h0
  · rw [h0, Nat.mul_zero] at h; omega
  · exact h0
theorem OO_le {R P p : Nat} {e rk : Nat → Nat} (he : ∀ o, o < P → e o ≤ 10) (hP : P ≤ 12) (hp : p < P) : 10 * OO R e rk p P ≤ al8 R P := by
  unfold OO al8
  by_cases h2 : R = 2
  · rw [if_pos h2, if_pos h2]; exact OL_le he hP hp
  · rw [if_neg h2, if_neg h2]
    by_cases h3 : R = 3
    · rw [if_pos h3, if_pos h3]; omega
    · rw [if_neg h3, if_neg h3]; exact (RV_le e rk p P).2 hp
theorem eE_le {R P p : Nat} {e : Nat → Nat} (he : ∀ o, o < P → e o ≤ 10) (hp : p < P) : eE R e p ≤ 10 := by
  unfold eE
  by_cases h3 : R = 3
  · rw [if_pos h3]; exact Nat.le_refl _
  · rw [if_neg h3]; exact he p hp
theorem AO_le {R P p : Nat} {e rk : Nat → Nat} (he : ∀ o, o < P → e o ≤ 10) (hP : P ≤ 12) (hp : p < P) : eE R e p * OO R e rk p P ≤ al8 R P :=
  Nat.le_trans (Nat.mul_le_mul_right _ (eE_le he hp)) (OO_le he hP hp)
/-! the class's weights -/
section O8
variable {P R : Nat} {e rk : Nat → Nat} {el ranks : Nat → Int32}
theorem oth8 (he : ∀ o, o < P → e o ≤ 10) (hel : ∀ o, o < P → el o = nI (eE R e o)) (hrk : ∀ o, o < P → rk o < 1000000 ∧ ranks o = nI (rk o)) (hP : P ≤ 12) (hr : R ≤ 4) {p : Nat} (hp : p < P) (c : Nat → Int64) : ∃ c2, FX0_weightOfOthers (nI P) (nI R) el c ranks (nI p) = some (lN (OO R e rk p P), c2) := by
  unfold FX0_weightOfOthers OO
  have c2 : (nI R = (2 : Int32)) ↔ R = 2 := nI_eq (b := 2) (by omega) (by decide)
  have c3 : (nI R = (3 : Int32)) ↔ R = 3 := nI_eq (b := 3) (by omega) (by decide)
  by_cases h2 : R = 2
  · have hel2 : ∀ o, o < P → el o = nI (e o) := fun o ho => by
      rw [hel o ho]
      unfold eE
      rw [if_neg (by omega)]
    rw [if_pos (c2.mpr h2), if_pos h2, lot8 he hel2 hP hp c]
    exact ⟨_, rfl⟩
  · rw [if_neg (fun y => h2 (c2.mp y)), if_neg h2]
    by_cases h3 : R = 3
    · rw [if_pos (c3.mpr h3), if_pos h3]
      exact ⟨_, rfl⟩
    · have hel2 : ∀ o, o < P → el o = nI (e o) := fun o ho => by
        rw [hel o ho]
        unfold eE
        rw [if_neg h3]
      rw [if_neg (fun y => h3 (c3.mp y)), if_neg h3, rank8 he hel2 hrk hP hp]
      exact ⟨_, rfl⟩
theorem tak8 (he : ∀ o, o < P → e o ≤ 10) (hel : ∀ o, o < P → el o = nI (eE R e o)) (hrk : ∀ o, o < P → rk o < 1000000 ∧ ranks o = nI (rk o)) (hP : P ≤ 12) (hr : R ≤ 4) {p : Nat} (hp : p < P) (c : Nat → Int64) : ∃ c2, FX0_weightOfTaken (nI P) (nI R) el ranks c (nI p) = some (lN (eE R e p * OO R e rk p P), c2) := by
  obtain ⟨c2, h⟩ := oth8 he hel hrk hP hr hp c
  have h10 := eE_le (R := R) he hp
  unfold FX0_weightOfTaken
  rw [h, Option.bind_some, gat_n (by omega) (by decide), hel p hp, nI_l (by omega), lN_mul]
  exact ⟨_, rfl⟩
theorem all8 (hP : P ≤ 12) (hr : R ≤ 4) : FX0_weightOfAll (nI P) (nI R) = some (lN (al8 R P)) := by
  unfold FX0_weightOfAll al8
  have c2 : (nI R = (2 : Int32)) ↔ R = 2 := nI_eq (b := 2) (by omega) (by decide)
  have c3 : (nI R = (3 : Int32)) ↔ R = 3 := nI_eq (b := 3) (by omega) (by decide)
  by_cases h2 : R = 2
  · rw [if_pos (c2.mpr h2), if_pos h2, ten_n hP, Option.bind_some, show (27720 : Int64) = lN 27720 from rfl, lN_mul]
  · rw [if_neg (fun y => h2 (c2.mp y)), if_neg h2]
    by_cases h3 : R = 3
    · rw [if_pos (c3.mpr h3), if_pos h3, nI_l (by omega), show (10 : Int64) = lN 10 from rfl, lN_mul]
    · rw [if_neg (fun y => h3 (c3.mp y)), if_neg h3, ten_n hP]
      rfl
def sR (R : Nat) (er e rk : Nat → Nat) (P : Nat) : Nat → Nat := sumN (fun p => er p * OO R e rk p P)
theorem rig8 {er : Nat → Nat} {erI : Nat → Int32} (her : ∀ o, o < P → er o ≤ 10 ∧ erI o = nI (er o)) (he : ∀ o, o < P → e o ≤ 10) (hel : ∀ o, o < P → el o = nI (eE R e o)) (hrk : ∀ o, o < P → rk o < 1000000 ∧ ranks o = nI (rk o)) (hP : P ≤ 12) (hr : R ≤ 4) (c : Nat → Int64) : ∃ c2, FX0_weightOfRight (nI P) (nI R) erI ranks el c = some (lN (sR R er e rk P P), c2) := by
  have hl : ∃ r, itr (fun v => FX0_weightOfRight_S4 (nI P) (nI R) erI ranks el v.1 v.2.1 v.2.2) fu ((0 : Int64), (0 : Int32), c) = some r ∧ r.1 = lN (sR R er e rk P P) := by
    refine itr_exP (P := P) (I := fun j x => x.1 = lN (sR R er e rk P j) ∧ x.2.1 = nI j) (by omega) ⟨rfl, rfl⟩ (fun j x hj hI => ?_) (fun x hI => ?_)
    · obtain ⟨a, b, cc⟩ := x
      obtain ⟨h1, h2⟩ := hI
      simp only at h1 h2
      subst h1 h2
      show ∃ y, FX0_weightOfRight_S4 (nI P) (nI R) erI ranks el (lN (sR R er e rk P j)) (nI j) cc = _ ∧ _
      obtain ⟨c2, h⟩ := oth8 he hel hrk hP hr hj cc
      obtain ⟨k1, k2⟩ := her j hj
      unfold FX0_weightOfRight_S4
      rw [if_neg (nI_ge hj (by omega)), h, Option.bind_some, gat_n (by omega) (by decide), k2, nI_l (by omega), lN_mul, lN_add, nI_1]
      exact ⟨_, rfl, rfl, rfl⟩
    · obtain ⟨a, b, cc⟩ := x
      obtain ⟨h1, h2⟩ := hI
      simp only at h1 h2
      subst h1 h2
      show ∃ y, FX0_weightOfRight_S4 (nI P) (nI R) erI ranks el (lN (sR R er e rk P P)) (nI P) cc = _ ∧ _
      unfold FX0_weightOfRight_S4
      rw [if_pos (nI_le (Nat.le_refl P) (by omega))]
      exact ⟨_, rfl, rfl⟩
  obtain ⟨⟨r1, r2⟩, h1, h2⟩ := hl
  simp only at h2
  unfold FX0_weightOfRight
  rw [h1, Option.bind_some, h2]
  exact ⟨_, rfl⟩
/-- who is taken mostly -/
def bm (A : Nat → Nat) : Nat → Int32 × Nat
  | 0 => (-9, 0)
  | n + 1 => if A n ≤ (bm A n).2 then bm A n else (nI n, A n)
theorem bm_s (A : Nat → Nat) (n : Nat) : bm A (n + 1) = if A n ≤ (bm A n).2 then bm A n else (nI n, A n) := rfl
theorem bm_le {A : Nat → Nat} {B P : Nat} (h : ∀ i, i < P → A i ≤ B) : ∀ n, n ≤ P → (bm A n).2 ≤ B
  | 0, _ => Nat.zero_le _
  | n + 1, hn => by
    rw [bm_s]
    by_cases c : A n ≤ (bm A n).2
    · rw [if_pos c]; exact bm_le h n (by omega)
    · rw [if_neg c]; exact h n (by omega)
theorem mos8 (he : ∀ o, o < P → e o ≤ 10) (hel : ∀ o, o < P → el o = nI (eE R e o)) (hrk : ∀ o, o < P → rk o < 1000000 ∧ ranks o = nI (rk o)) (hP : P ≤ 12) (hr : R ≤ 4) (c : Nat → Int64) : ∃ c2, FX0_likeliest (nI P) (nI R) ranks el c = some ((bm (fun p => eE R e p * OO R e rk p P) P).1, c2) := by
  have hA : ∀ p, p < P → eE R e p * OO R e rk p P ≤ 27720000000000000 := fun p hp => Nat.le_trans (AO_le he hP hp) (al8_le hP)
  have hl : ∃ r, itr (fun v => FX0_likeliest_S8 (nI P) (nI R) ranks el v.1 v.2.1 v.2.2.1 v.2.2.2) fu ((-9 : Int32), (0 : Int64), (0 : Int32), c) = some r ∧ r.1 = (bm (fun p => eE R e p * OO R e rk p P) P).1 := by
    refine itr_exP (P := P) (I := fun j x => x.1 = (bm (fun p => eE R e p * OO R e rk p P) j).1 ∧ x.2.1 = lN (bm (fun p => eE R e p * OO R e rk p P) j).2 ∧ x.2.2.1 = nI j) (by omega) ⟨rfl, rfl, rfl⟩ (fun j x hj hI => ?_) (fun x hI => ?_)
    · obtain ⟨a, b, i, cc⟩ := x
      obtain ⟨h1, h2, h3⟩ := hI
      simp only at h1 h2 h3
      subst h1 h2 h3
      show ∃ y, FX0_likeliest_S8 (nI P) (nI R) ranks el (bm (fun p => eE R e p * OO R e rk p P) j).1 (lN (bm (fun p => eE R e p * OO R e rk p P) j).2) (nI j) cc = _ ∧ _
      obtain ⟨c2, h⟩ := tak8 he hel hrk hP hr hj cc
      have hm := bm_le hA j (by omega)
      have ha := hA j hj
      have cm : (lN (eE R e j * OO R e rk j P) ≤ lN (bm (fun p => eE R e p * OO R e rk p P) j).2) ↔ eE R e j * OO R e rk j P ≤ (bm (fun p => eE R e p * OO R e rk p P) j).2 := pk_lLE (by omega) (by omega)
      unfold FX0_likeliest_S8
      rw [if_neg (nI_ge hj (by omega)), h, Option.bind_some, nI_1, bm_s]
      by_cases hc : eE R e j * OO R e rk j P ≤ (bm (fun p => eE R e p * OO R e rk p P) j).2
      · rw [if_pos (cm.mpr hc), if_pos hc]
        exact ⟨_, rfl, rfl, rfl, rfl⟩
      · rw [if_neg (fun y => hc (cm.mp y)), if_neg hc]
        exact ⟨_, rfl, rfl, rfl, rfl⟩
    · obtain ⟨a, b, i, cc⟩ := x
      obtain ⟨h1, h2, h3⟩ := hI
      simp only at h1 h2 h3
      subst h1 h2 h3
      show ∃ y, FX0_likeliest_S8 (nI P) (nI R) ranks el _ _ (nI P) cc = _ ∧ _
      unfold FX0_likeliest_S8
      rw [if_pos (nI_le (Nat.le_refl P) (by omega))]
      exact ⟨_, rfl, rfl⟩
  obtain ⟨⟨r1, r2⟩, h1, h2⟩ := hl
  simp only at h2
  unfold FX0_likeliest
  rw [h1, Option.bind_some, h2]
  exact ⟨_, rfl⟩
end O8
/-! the reference's weights -/
section O9
variable {N P mo : Nat} {r c k q d f da ti : Nat → Nat} {lt rws cls tn nd td ld lti md mti mp : Nat → Int32} {pu mpu mood mmood : Int32}
def uN2 (mo : Nat) (da f q k : Nat → Nat) (w p : Nat) : Nat := upN mo (da p) (f p) (q p) (k p) w
theorem uN2_le (hR : RRos P r c k q d f lt rws cls tn nd td pu mpu mp) {w p : Nat} (hp : p < P) : uN2 mo da f q k w p ≤ 10 := by
  have hk := (hR.2.2.2 p hp).1.2.2.1
  unfold uN2 upN
  by_cases h1 : mayN mo (da p) (f p) (q p) w = true
  · rw [if_pos h1]
    by_cases h2 : f p = 1
    · rw [if_pos h2]; exact Nat.le_refl _
    · rw [if_neg h2]; omega
  · rw [if_neg h1]; exact Nat.zero_le _
theorem tak9 (hR : RRos P r c k q d f lt rws cls tn nd td pu mpu mp) (hL : RLe N P da ti ld lti md mti) (hM : RMo mo mood mmood) (hN : N < 4000) {w R p : Nat} (hw : w ≤ 9) (hr : R ≤ 4) (hp : p < P) (m : Nat → Int64) : ∃ m2, FX9_takenOf mpu mmood m mp md mti (nI p) (nI w) (nI R) = some (lN (kap R P * (eE R (uN2 mo da f q k w) p * OO R (uN2 mo da f q k w) (rkN R r c q ti) p P)), m2) := by
  have hP := hR.1
  have hmpu := hR.2.2.1
  have hup : ∀ o, o < P → FX9_upOf mmood mp md (nI o) (nI w) = some (nI (uN2 mo da f q k w o)) := fun o ho => mo_up hR hL hM ho hw
  have he : ∀ o, o < P → uN2 mo da f q k w o ≤ 10 := fun o ho => uN2_le hR ho
  have c2 : (nI R = (2 : Int32)) ↔ R = 2 := nI_eq (b := 2) (by omega) (by decide)
  have c3 : (nI R = (3 : Int32)) ↔ R = 3 := nI_eq (b := 3) (by omega) (by decide)
  unfold FX9_takenOf OO kap eE
  by_cases h3 : R = 3
  · have h2 : ¬ R = 2 := by omega
    have hne : ¬ (nI P).toInt64 = 0 := by
      rw [nI_l (by omega)]
      exact fun y => absurd ((pk_lEQ (b := 0) (by omega) (by decide)).mp y) (by omega)
    have ev : 10 ^ (P - 1) * (27720 / P) * (10 * 1) = 10 ^ P * (27720 / P) := by
      obtain ⟨n, rfl⟩ : ∃ n, P = n + 1 := ⟨P - 1, by omega⟩
      rw [Nat.add_sub_cancel, Nat.mul_one, Nat.pow_succ, Nat.mul_right_comm]
    rw [if_pos (c3.mpr h3), hmpu, whole_n hP, Option.bind_some, if_neg hne, all_n (by omega) (by omega), lN_mul, if_neg h2, if_pos h3, if_pos h3, if_neg h2, if_pos h3, ev]
    exact ⟨_, rfl⟩
  · rw [if_neg (fun y => h3 (c3.mp y)), if_neg h3]
    by_cases h2 : R = 2
    · rw [if_pos (c2.mpr h2), hmpu, lot9a (hup p hp) (he p hp) m, Option.bind_some, lot9c hup he hP hp, Option.bind_some, lot9d, Option.bind_some, lot_eq hP hp, if_pos h2, if_pos h2, if_neg h3, Nat.one_mul]
      exact ⟨_, rfl⟩
    · have hA : ∀ o, o < P → FX9_isAhead mp mti (nI o) (nI p) (nI R) = some (decide (rkN R r c q ti o < rkN R r c q ti p)) := fun o ho => ahead_n hR hL hN ho hp (by omega)
      have hle := he p hp
      rw [if_neg (fun y => h2 (c2.mp y)), hmpu, hup p hp, Option.bind_some, nI_l (by omega), rank9 hup he hA hP hp, Option.bind_some, show (27720 : Int64) = lN 27720 from rfl, lN_mul, if_neg h2, if_neg h3, if_neg h2, if_neg h3, Nat.mul_comm 27720]
      exact ⟨_, rfl⟩
/-- what is right of it -/
def erN (mo : Nat) (da f q k : Nat → Nat) (w R p : Nat) : Nat := if (R = 3 ∨ mayN mo (da p) (f p) (q p) w = true) ∧ q p ≤ w then k p else 0
def tnN (f q k : Nat → Nat) (w R p : Nat) : Nat := if q p ≤ w then (if R = 3 then k p else if f p = 0 then 10 else k p) else 0
theorem tn_er {w R p : Nat} (hf : f p < 2) : eE R (uN2 mo da f q k w) p * tnN f q k w R p = 10 * erN mo da f q k w R p := by
  unfold eE tnN erN uN2 upN
  by_cases hq : q p ≤ w
  · rw [if_pos hq]
    by_cases h3 : R = 3
    · have hc : (R = 3 ∨ mayN mo (da p) (f p) (q p) w = true) ∧ q p ≤ w := ⟨Or.inl h3, hq⟩
      rw [if_pos hc, if_pos h3, if_pos h3]
    · by_cases hm : mayN mo (da p) (f p) (q p) w = true
      · have hc : (R = 3 ∨ mayN mo (da p) (f p) (q p) w = true) ∧ q p ≤ w := ⟨Or.inr hm, hq⟩
        rw [if_pos hc, if_neg h3, if_neg h3, if_pos hm]
        by_cases h1 : f p = 1
        · rw [if_pos h1, if_neg (show ¬ f p = 0 by omega)]
        · rw [if_neg h1, if_pos (show f p = 0 by omega), Nat.mul_comm]
      · have hc : ¬ ((R = 3 ∨ mayN mo (da p) (f p) (q p) w = true) ∧ q p ≤ w) := fun y => y.1.elim h3 hm
        rw [if_neg hc, if_neg h3, if_neg h3, if_neg hm, Nat.zero_mul, Nat.mul_zero]
  · have hc : ¬ ((R = 3 ∨ mayN mo (da p) (f p) (q p) w = true) ∧ q p ≤ w) := fun y => hq y.2
    rw [if_neg hc, if_neg hq, Nat.mul_zero, Nat.mul_zero]
theorem rig9 (hR : RRos P r c k q d f lt rws cls tn nd td pu mpu mp) (hL : RLe N P da ti ld lti md mti) (hM : RMo mo mood mmood) (hN : N < 4000) {w R : Nat} (hw : w ≤ 9) (hr : R ≤ 4) (m : Nat → Int64) : ∃ s, itr (fun v => FX9_right_S28 mpu mmood mp md mti (nI w) (nI R) v.1 v.2.1 v.2.2) fu ((0 : Int64), (0 : Int32), m) = some s ∧ s.1 = lN (kap R P * 10 * sR R (erN mo da f q k w R) (uN2 mo da f q k w) (rkN R r c q ti) P P) := by
  have hP := hR.1
  have hmpu := hR.2.2.1
  have c3 : (nI R = (3 : Int32)) ↔ R = 3 := nI_eq (b := 3) (by omega) (by decide)
  refine itr_exP (P := P) (I := fun j x => x.1 = lN (kap R P * 10 * sR R (erN mo da f q k w R) (uN2 mo da f q k w) (rkN R r c q ti) P j) ∧ x.2.1 = nI j) (by omega) ⟨rfl, rfl⟩ (fun j x hj hI => ?_) (fun x hI => ?_)
  · obtain ⟨a, b, cc⟩ := x
    obtain ⟨h1, h2⟩ := hI
    simp only at h1 h2
    subst h1 h2
    show ∃ y, FX9_right_S28 mpu mmood mp md mti (nI w) (nI R) (lN (kap R P * 10 * sR R (erN mo da f q k w R) (uN2 mo da f q k w) (rkN R r c q ti) P j)) (nI j) cc = _ ∧ _
    obtain ⟨m2, ht⟩ := tak9 hR hL hM hN hw hr hj cc
    obtain ⟨⟨b1, b2, b3, b4, b5, b6⟩, -, -, q0, q1, q2, q3, q4, q5⟩ := hR.2.2.2 j hj
    have e5 : (6 : Int32) * nI j + (5 : Int32) = nI (6 * j + 5) := x6 j 5
    have e3 : (6 : Int32) * nI j + (3 : Int32) = nI (6 * j + 3) := x6 j 3
    have e2 : (6 : Int32) * nI j + (2 : Int32) = nI (6 * j + 2) := x6 j 2
    have g5 : ¬ (nI (6 * j + 5) < 0 ∨ 72 ≤ 6 * j + 5) := gd2 (by omega) (by decide)
    have g3 : ¬ (nI (6 * j + 3) < 0 ∨ 72 ≤ 6 * j + 3) := gd2 (by omega) (by decide)
    have g2 : ¬ (nI (6 * j + 2) < 0 ∨ 72 ≤ 6 * j + 2) := gd2 (by omega) (by decide)
    have cq : (nI (q j) ≤ nI w) ↔ q j ≤ w := nI_leI (by omega) (by omega)
    have c5 : (nI (f j) = 0) ↔ f j = 0 := nI_eq (b := 0) (by omega) (by decide)
    have hte := tn_er (mo := mo) (da := da) (q := q) (k := k) (w := w) (R := R) b6
    have hJ : ∀ t : Nat, t ≤ 10 → t = tnN f q k w R j → ∃ y, FX9_right_J94L28 mpu mmood mp md mti (nI w) (nI R) (nI j) (lN (kap R P * 10 * sR R (erN mo da f q k w R) (uN2 mo da f q k w) (rkN R r c q ti) P j)) (nI t) cc = some (Sum.inl y) ∧ y.1 = lN (kap R P * 10 * sR R (erN mo da f q k w R) (uN2 mo da f q k w) (rkN R r c q ti) P (j + 1)) ∧ y.2.1 = nI (j + 1) := fun t ht10 htt => by
      unfold FX9_right_J94L28
      rw [ht, Option.bind_some, nI_l (n := t) (by omega), lN_mul, lN_add, nI_1]
      refine ⟨_, rfl, ?_, rfl⟩
      have es : sR R (erN mo da f q k w R) (uN2 mo da f q k w) (rkN R r c q ti) P (j + 1) = sR R (erN mo da f q k w R) (uN2 mo da f q k w) (rkN R r c q ti) P j + erN mo da f q k w R j * OO R (uN2 mo da f q k w) (rkN R r c q ti) j P := rfl
      show lN _ = lN _
      rw [es, htt, Nat.mul_add]
      congr 2
      generalize OO R (uN2 mo da f q k w) (rkN R r c q ti) j P = Z
      rw [Nat.mul_assoc (kap R P) (eE R (uN2 mo da f q k w) j * Z), Nat.mul_right_comm (eE R (uN2 mo da f q k w) j) Z, hte, Nat.mul_assoc 10 _ Z, ← Nat.mul_assoc (kap R P) 10]
    unfold FX9_right_S28 FX9_right_J82L28
    rw [hmpu, if_neg (nI_ge hj (by omega)), e5, e3, e2, nI_clamp (n := 6 * j + 5) (by omega), nI_clamp (n := 6 * j + 3) (by omega), nI_clamp (n := 6 * j + 2) (by omega), if_neg g3, q5, q3, q2, ← hmpu]
    simp only [if_neg g2, if_neg g5]
    by_cases hq : q j ≤ w
    · rw [if_pos (cq.mpr hq)]
      by_cases h3 : R = 3
      · rw [if_pos (c3.mpr h3)]
        exact hJ (k j) (by omega) (by unfold tnN; rw [if_pos hq, if_pos h3])
      · rw [if_neg (fun y => h3 (c3.mp y))]
        by_cases h5 : f j = 0
        · rw [if_pos (c5.mpr h5)]
          exact hJ 10 (by omega) (by unfold tnN; rw [if_pos hq, if_neg h3, if_pos h5])
        · rw [if_neg (fun y => h5 (c5.mp y))]
          exact hJ (k j) (by omega) (by unfold tnN; rw [if_pos hq, if_neg h3, if_neg h5])
    · rw [if_neg (fun y => hq (cq.mp y))]
      exact hJ 0 (by omega) (by unfold tnN; rw [if_neg hq])
  · obtain ⟨a, b, cc⟩ := x
    obtain ⟨h1, h2⟩ := hI
    simp only at h1 h2
    subst h1 h2
    show ∃ y, FX9_right_S28 mpu mmood mp md mti (nI w) (nI R) _ (nI P) cc = _ ∧ _
    unfold FX9_right_S28
    rw [hmpu, if_pos (nI_le (Nat.le_refl P) (by omega))]
    exact ⟨_, rfl, rfl⟩
theorem mos9 (hR : RRos P r c k q d f lt rws cls tn nd td pu mpu mp) (hL : RLe N P da ti ld lti md mti) (hM : RMo mo mood mmood) (hN : N < 4000) {w R : Nat} (hw : w ≤ 9) (hr : R ≤ 4) (m : Nat → Int64) : ∃ s, itr (fun v => FX9_mostly_S28 mpu mmood mp md mti (nI w) (nI R) v.1 v.2.1 v.2.2.1 v.2.2.2) fu ((-9 : Int32), (0 : Int64), (0 : Int32), m) = some s ∧ s.1 = (bm (fun p => eE R (uN2 mo da f q k w) p * OO R (uN2 mo da f q k w) (rkN R r c q ti) p P) P).1 := by
  have hP := hR.1
  have hmpu := hR.2.2.1
  have he : ∀ o, o < P → uN2 mo da f q k w o ≤ 10 := fun o ho => uN2_le hR ho
  have hA : ∀ p, p < P → eE R (uN2 mo da f q k w) p * OO R (uN2 mo da f q k w) (rkN R r c q ti) p P ≤ al8 R P := fun p hp => AO_le he hP hp
  refine itr_exP (P := P) (I := fun j x => x.1 = (bm (fun p => eE R (uN2 mo da f q k w) p * OO R (uN2 mo da f q k w) (rkN R r c q ti) p P) j).1 ∧ x.2.1 = lN (kap R P * (bm (fun p => eE R (uN2 mo da f q k w) p * OO R (uN2 mo da f q k w) (rkN R r c q ti) p P) j).2) ∧ x.2.2.1 = nI j) (by omega) ⟨rfl, rfl, rfl⟩ (fun j x hj hI => ?_) (fun x hI => ?_)
  · obtain ⟨a, b, i, cc⟩ := x
    obtain ⟨h1, h2, h3⟩ := hI
    simp only at h1 h2 h3
    subst h1 h2 h3
    obtain ⟨m2, ht⟩ := tak9 hR hL hM hN hw hr hj cc
    have hk := kap_al (R := R) (P := P) (by omega) hP
    have h0 := kap_pos (R := R) (P := P) (by omega) hP
    have h12 := ten12 hP
    have hm := Nat.mul_le_mul_left (kap R P) (bm_le hA j (by omega))
    have ha := Nat.mul_le_mul_left (kap R P) (hA j hj)
    generalize hAA : (fun p => eE R (uN2 mo da f q k w) p * OO R (uN2 mo da f q k w) (rkN R r c q ti) p P) = A at hm ⊢
    have hAj : eE R (uN2 mo da f q k w) j * OO R (uN2 mo da f q k w) (rkN R r c q ti) j P = A j := by rw [← hAA]
    rw [hAj] at ha ht
    show ∃ y, FX9_mostly_S28 mpu mmood mp md mti (nI w) (nI R) (bm A j).1 (lN (kap R P * (bm A j).2)) (nI j) cc = _ ∧ _
    have cm : (lN (kap R P * A j) ≤ lN (kap R P * (bm A j).2)) ↔ A j ≤ (bm A j).2 := (pk_lLE (by omega) (by omega)).trans (Nat.mul_le_mul_left_iff h0)
    unfold FX9_mostly_S28 FX9_mostly_J61L28
    rw [ht, hmpu, if_neg (nI_ge hj (by omega)), Option.bind_some, nI_1, bm_s]
    by_cases hc : A j ≤ (bm A j).2
    · rw [if_pos (cm.mpr hc), if_pos (cm.mpr hc), if_pos hc]
      exact ⟨_, rfl, rfl, rfl, rfl⟩
    · rw [if_neg (fun y => hc (cm.mp y)), if_neg (fun y => hc (cm.mp y)), if_neg hc]
      exact ⟨_, rfl, rfl, rfl, rfl⟩
  · obtain ⟨a, b, i, cc⟩ := x
    obtain ⟨h1, h2, h3⟩ := hI
    simp only at h1 h2 h3
    subst h1 h2 h3
    show ∃ y, FX9_mostly_S28 mpu mmood mp md mti (nI w) (nI R) _ _ (nI P) cc = _ ∧ _
    unfold FX9_mostly_S28
    rw [hmpu, if_pos (nI_le (Nat.le_refl P) (by omega))]
    exact ⟨_, rfl, rfl⟩
/-- the class looks -/
theorem rt_n (hR : RRos P r c k q d f lt rws cls tn nd td pu mpu mp) (hL : RLe N P da ti ld lti md mti) (hM : RMo mo mood mmood) {w R p : Nat} (hw : w ≤ 9) (hp : p < P) : FX3_rightTenths mood nd tn lt ld (nI p) (nI w) (if R = 3 then 1 else 0) = nI (erN mo da f q k w R p) := by
  have hP := hR.1
  obtain ⟨⟨b1, b2, b3, b4, b5, b6⟩, hlt, ⟨hrw, hcl, htn, hnd, htd⟩, -⟩ := hR.2.2.2 p hp
  have e1 : FX3_isUp mood ld lt nd (nI p) (1 : Int32) (nI w) = mayN mo (da p) (f p) (q p) w := by
    rw [ro_isUp hR hL hM hp hw]
    unfold mayN
    have h1 : decide (¬ (1 : Int32) = 0) = true := by decide
    rw [h1, Bool.true_and]
  have e2 : FX3_isRight nd (nI p) (1 : Int32) (nI w) = decide (q p ≤ w) := by
    rw [isRight_n (by omega) hnd b4 hw]
    have h1 : decide (¬ (1 : Int32) = 0) = true := by decide
    rw [h1, Bool.true_and]
  have z1 : ¬ (1 : Int32) = 0 := by decide
  have z0 : (0 : Int32) = nI 0 := rfl
  unfold FX3_rightTenths FX3_rightTenths_J14 FX3_rightTenths_J19 erN
  rw [e1, e2, gat_n (by omega) (by decide), htn]
  by_cases h3 : R = 3
  · rw [if_pos h3, if_neg z1, if_neg z1]
    by_cases hq : q p ≤ w
    · have hc : (R = 3 ∨ mayN mo (da p) (f p) (q p) w = true) ∧ q p ≤ w := ⟨Or.inl h3, hq⟩
      rw [if_pos (decide_eq_true hq), if_pos hc]
    · have hc : ¬ ((R = 3 ∨ mayN mo (da p) (f p) (q p) w = true) ∧ q p ≤ w) := fun y => hq y.2
      rw [if_neg (show ¬ decide (q p ≤ w) = true by rw [decide_eq_false hq]; decide), if_neg hc]; rfl
  · rw [if_neg h3, if_pos (show (0 : Int32) = 0 from rfl)]
    by_cases hm : mayN mo (da p) (f p) (q p) w = true
    · rw [if_pos hm, if_neg z1]
      by_cases hq : q p ≤ w
      · have hc : (R = 3 ∨ mayN mo (da p) (f p) (q p) w = true) ∧ q p ≤ w := ⟨Or.inr hm, hq⟩
        rw [if_pos (decide_eq_true hq), if_pos hc]
      · have hc : ¬ ((R = 3 ∨ mayN mo (da p) (f p) (q p) w = true) ∧ q p ≤ w) := fun y => hq y.2
        rw [if_neg (show ¬ decide (q p ≤ w) = true by rw [decide_eq_false hq]; decide), if_neg hc]; rfl
    · have hc : ¬ ((R = 3 ∨ mayN mo (da p) (f p) (q p) w = true) ∧ q p ≤ w) := fun y => y.1.elim h3 hm
      rw [if_neg hm, if_pos (show (0 : Int32) = 0 from rfl), if_neg hc]; rfl
theorem look0 (hR : RRos P r c k q d f lt rws cls tn nd td pu mpu mp) (hL : RLe N P da ti ld lti md mti) (hM : RMo mo mood mmood) {w R : Nat} (hw : w ≤ 9) (hr : R ≤ 4) (ra el er : Nat → Int32) : FX0_look pu mood rws cls nd lti ra lt tn ld el er (nI w) (nI R) = some (nI P, nI R, cpN P (fun p => nI (rkN R r c q ti p)) ra, cpN P (fun p => nI (eE R (uN2 mo da f q k w) p)) el, cpN P (fun p => nI (erN mo da f q k w R p)) er) := by
  have hP := hR.1
  have hpu := hR.2.1
  have c3 : (nI R = (3 : Int32)) ↔ R = 3 := nI_eq (b := 3) (by omega) (by decide)
  have hl : itr (fun v => FX0_look_S31 mood rws cls nd lti lt tn ld (nI w) (if R = 3 then 1 else 0) (nI P) (nI R) v.1 v.2.1 v.2.2.1 v.2.2.2) fu ((0 : Int32), ra, el, er) = some (cpN P (fun p => nI (rkN R r c q ti p)) ra, cpN P (fun p => nI (eE R (uN2 mo da f q k w) p)) el, cpN P (fun p => nI (erN mo da f q k w R p)) er) := by
    refine itr_Q (P := P) (g := fun j => (cpN j (fun p => nI (rkN R r c q ti p)) ra, cpN j (fun p => nI (eE R (uN2 mo da f q k w) p)) el, cpN j (fun p => nI (erN mo da f q k w R p)) er)) (by omega) _ (by rw [cpN_0, cpN_0, cpN_0]) (fun j hj => ?_) ?_
    · show FX0_look_S31 mood rws cls nd lti lt tn ld (nI w) (if R = 3 then 1 else 0) (nI P) (nI R) (nI j) (cpN j (fun p => nI (rkN R r c q ti p)) ra) (cpN j (fun p => nI (eE R (uN2 mo da f q k w) p)) el) (cpN j (fun p => nI (erN mo da f q k w R p)) er) = _
      have k1 := cpN_s j (fun p => nI (rkN R r c q ti p)) ra
      have k2 := cpN_s j (fun p => nI (eE R (uN2 mo da f q k w) p)) el
      have k3 := cpN_s j (fun p => nI (erN mo da f q k w R p)) er
      have hu := ro_up hR hL hM hj hw
      unfold FX0_look_S31 FX0_look_J82L31 nmb
      rw [if_neg (nI_ge hj (by omega)), rank_n hR hL hj hr, rt_n hR hL hM hw hj, hu]
      rw [gput_n (f := cpN j (fun p => nI (rkN R r c q ti p)) ra) (j := j) (by omega) (by decide), k1, nI_1]
      dsimp only
      by_cases h3 : R = 3
      · have ee : eE R (uN2 mo da f q k w) j = 10 := by unfold eE; rw [if_pos h3]
        rw [ee] at k2
        rw [if_pos h3, if_neg (show ¬ (1 : Int32) = 0 by decide), gput_n (j := j) (by omega) (by decide), gput_n (j := j) (by omega) (by decide), k3, show (10 : Int32) = nI 10 from rfl, k2]
      · have ee : eE R (uN2 mo da f q k w) j = upN mo (da j) (f j) (q j) (k j) w := by unfold eE; rw [if_neg h3]; rfl
        rw [ee] at k2
        rw [if_neg h3, if_pos (show (0 : Int32) = 0 from rfl), gput_n (j := j) (by omega) (by decide), gput_n (j := j) (by omega) (by decide), k3, k2]
    · show FX0_look_S31 mood rws cls nd lti lt tn ld (nI w) (if R = 3 then 1 else 0) (nI P) (nI R) (nI P) _ _ _ = _
      unfold FX0_look_S31
      rw [if_pos (nI_le (Nat.le_refl P) (by omega))]
  unfold FX0_look FX0_look_J26
  rw [hpu]
  by_cases h3 : R = 3
  · rw [if_pos h3] at hl
    rw [if_pos (c3.mpr h3), hl]
    rfl
  · rw [if_neg h3] at hl
    rw [if_neg (fun y => h3 (c3.mp y)), hl]
    rfl
theorem cpN_at {n : Nat} {o p : Nat → Int32} {j : Nat} (h : j < n) : cpN n o p j = o j := by
  unfold cpN
  rw [if_pos h]
theorem rk_ok (hR : RRos P r c k q d f lt rws cls tn nd td pu mpu mp) (hL : RLe N P da ti ld lti md mti) (hN : N < 4000) (R : Nat) (ra : Nat → Int32) : ∀ o, o < P → rkN R r c q ti o < 1000000 ∧ cpN P (fun p => nI (rkN R r c q ti p)) ra o = nI (rkN R r c q ti o) := fun o ho => by
  have h := rb_lt hR hL hN ho R
  have hP := hR.1
  refine ⟨?_, cpN_at ho⟩
  unfold rkN
  omega
theorem er_le (hR : RRos P r c k q d f lt rws cls tn nd td pu mpu mp) {w R p : Nat} (hp : p < P) : erN mo da f q k w R p ≤ 10 := by
  have hk := (hR.2.2.2 p hp).1.2.2.1
  unfold erN
  by_cases h1 : (R = 3 ∨ mayN mo (da p) (f p) (q p) w = true) ∧ q p ≤ w
  · rw [if_pos h1]; omega
  · rw [if_neg h1]; exact Nat.zero_le _
end O9
