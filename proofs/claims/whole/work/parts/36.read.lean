/-! the reference reads chunk by chunk -/
section RC
variable {b : Nat → Nat} {n : Nat} {tb mt : Nat → Int32}
theorem RD_new {m : Nat} {rd : Nat → Int32} {x0 x1 x2 x3 x4 x5 : Int32} (h : RD b m rd) (h0 : x0 = nI (fg b (6 * m + 1))) (h1 : x1 = nI (fg b (6 * m + 2))) (h2 : x2 = nI (fg b (6 * m + 3))) (h3 : x3 = nI (fg b (6 * m + 4))) (h4 : x4 = nI (fg b (6 * m + 5))) (h5 : x5 = (if b (6 * m) = 70 then 1 else 0)) : RD b (m + 1) (upd (upd (upd (upd (upd (upd rd (6 * m) x0) (6 * m + 1) x1) (6 * m + 2) x2) (6 * m + 3) x3) (6 * m + 4) x4) (6 * m + 5) x5) := fun p hp => by
  by_cases c : p = m
  · subst c
    refine ⟨?_, ?_, ?_, ?_, ?_, ?_⟩
    · rw [upd_n (by omega), upd_n (by omega), upd_n (by omega), upd_n (by omega), upd_n (by omega), upd_s, h0]
    · rw [upd_n (by omega), upd_n (by omega), upd_n (by omega), upd_n (by omega), upd_s, h1]
    · rw [upd_n (by omega), upd_n (by omega), upd_n (by omega), upd_s, h2]
    · rw [upd_n (by omega), upd_n (by omega), upd_s, h3]
    · rw [upd_n (by omega), upd_s, h4]
    · rw [upd_s, h5]
  · have key : ∀ k, k < 6 * m → upd (upd (upd (upd (upd (upd rd (6 * m) x0) (6 * m + 1) x1) (6 * m + 2) x2) (6 * m + 3) x3) (6 * m + 4) x4) (6 * m + 5) x5 k = rd k := fun k hk => by
      rw [upd_n (by omega), upd_n (by omega), upd_n (by omega), upd_n (by omega), upd_n (by omega), upd_n (by omega)]
    rw [key _ (by omega), key _ (by omega), key _ (by omega), key _ (by omega), key _ (by omega), key _ (by omega)]
    exact h p (by omega)
theorem fig_o {j A : Nat} (hn : n ≤ 72) (hm : ∀ j, j < n → b j < 256 ∧ mt j = nI (b j)) (hj : j < n) (hb : 48 ≤ b j ∧ b j ≤ 57) (hA : A < 2147483648) (ht : A.testBit (fg b j) = okN b j) (ho : okN b j = true) : FX9_figure (nI n) (nI j) (-9 : Int32) mt (nI A) = some (nI (fg b j), (-9 : Int32), nI (j + 1)) :=
  fig_ok hn hm hj hb.1 hb.2 hA (ht.trans ho)
theorem fig_f {j A : Nat} (hn : n ≤ 72) (hm : ∀ j, j < n → b j < 256 ∧ mt j = nI (b j)) (hj : j ≤ n) (hA : A < 2147483648) (ht : 48 ≤ b j → b j ≤ 57 → A.testBit (fg b j) = okN b j) (ho : j < n → okN b j = false) : FX9_figure (nI n) (nI j) (-9 : Int32) mt (nI A) = some ((0 : Int32), nI j, nI j) :=
  fig_no hn hm hA hj (fun h h1 h2 => (ht h1 h2).trans (ho h))
theorem chunk_ok {m : Nat} {rd : Nat → Int32} (hn : n ≤ 72) (hm : ∀ j, j < n → b j < 256 ∧ mt j = nI (b j)) (hmn : 6 * m + 6 ≤ n) (hrd : RD b m rd) (hok : ∀ j, j < 6 * m + 6 → okN b j = true) : ∃ rd2, FX9_readText_J58L16 (nI n) mt (nI (b (6 * m))) (nI (6 * m)) (-9 : Int32) (nI m) rd = some (.inl (nI (6 * (m + 1)), (-9 : Int32), nI (m + 1), rd2)) ∧ RD b (m + 1) rd2 := by
  have hok6 : ∀ j, j < 6 * m → okN b j = true := fun j hj => hok j (by omega)
  obtain ⟨a1, a2, -⟩ := ok_1 (hok (6 * m + 1) (by omega))
  obtain ⟨a3, a4, -⟩ := ok_2 (hok (6 * m + 2) (by omega))
  have a5 := ok_3 (j := 6 * m + 3) (by omega) (hok (6 * m + 3) (by omega))
  have a6 := ok_3 (j := 6 * m + 4) (by omega) (hok (6 * m + 4) (by omega))
  have a7 := ok_3 (j := 6 * m + 5) (by omega) (hok (6 * m + 5) (by omega))
  have hr4 := bN_lt (rwB b m) 4
  have h16 : 2 ^ 4 = 16 := rfl
  have hf6 := frW_lt (b := b) m (fg b (6 * m + 1))
  have hrows := rows_n (b := b) (m := m) (rd := rd) (by omega) hrd hok6
  have hfree := free_n (b := b) (m := m) (row := fg b (6 * m + 1)) (rd := rd) (by omega) (by unfold fg; omega) hrd hok6
  have f1 : FX9_figure (nI n) (nI (6 * m + 1)) (-9 : Int32) mt (nI (bN (rwB b m) 4)) = some (nI (fg b (6 * m + 1)), (-9 : Int32), nI (6 * m + 2)) := fig_o hn hm (by omega) ⟨a1, by omega⟩ (by omega) (row_t a1 (by omega)) (hok _ (by omega))
  have f2 : FX9_figure (nI n) (nI (6 * m + 2)) (-9 : Int32) mt (nI (frW b m (fg b (6 * m + 1)))) = some (nI (fg b (6 * m + 2)), (-9 : Int32), nI (6 * m + 3)) := fig_o hn hm (by omega) ⟨a3, by omega⟩ (by omega) (col_t a3 (by omega)) (hok _ (by omega))
  have f3 : FX9_figure (nI n) (nI (6 * m + 3)) (-9 : Int32) mt (1023 : Int32) = some (nI (fg b (6 * m + 3)), (-9 : Int32), nI (6 * m + 4)) := fig_o (A := 1023) hn hm (by omega) a5 (by decide) (oth_t (by omega) a5.1 a5.2) (hok _ (by omega))
  have f4 : FX9_figure (nI n) (nI (6 * m + 4)) (-9 : Int32) mt (1023 : Int32) = some (nI (fg b (6 * m + 4)), (-9 : Int32), nI (6 * m + 5)) := fig_o (A := 1023) hn hm (by omega) a6 (by decide) (oth_t (by omega) a6.1 a6.2) (hok _ (by omega))
  have f5 : FX9_figure (nI n) (nI (6 * m + 5)) (-9 : Int32) mt (1023 : Int32) = some (nI (fg b (6 * m + 5)), (-9 : Int32), nI (6 * (m + 1))) := fig_o (A := 1023) hn hm (by omega) a7 (by decide) (oth_t (by omega) a7.1 a7.2) (hok _ (by omega))
  have e0 : (6 : Int32) * nI m = nI (6 * m) := x6z m
  have e1 : nI (6 * m) + (1 : Int32) = nI (6 * m + 1) := nI_1 _
  have e2 : nI (6 * m) + (2 : Int32) = nI (6 * m + 2) := nadd _ 2
  have e3 : nI (6 * m) + (3 : Int32) = nI (6 * m + 3) := nadd _ 3
  have e4 : nI (6 * m) + (4 : Int32) = nI (6 * m + 4) := nadd _ 4
  have e5 : nI (6 * m) + (5 : Int32) = nI (6 * m + 5) := nadd _ 5
  have g : ∀ i, i < 72 → ¬ (nI i < 0 ∨ 72 ≤ i) := fun i hi => gd2 hi (by decide)
  have hbl := (hm (6 * m) (by omega)).1
  have c70 : (nI (b (6 * m)) = (70 : Int32)) ↔ b (6 * m) = 70 := nI_eq (b := 70) (by omega) (by decide)
  unfold FX9_readText_J58L16 FX9_readText_J218L16
  rw [if_neg (gl 12 (show m < 12 by omega) (by decide)), e0, e1, e2, e3, e4, e5, nI_clamp (n := 6 * m) (by omega), nI_clamp (n := 6 * m + 1) (by omega), nI_clamp (n := 6 * m + 2) (by omega), nI_clamp (n := 6 * m + 3) (by omega), nI_clamp (n := 6 * m + 4) (by omega), nI_clamp (n := 6 * m + 5) (by omega), hrows, nI_1 m]
  simp only [Option.bind_some, f1, hfree, f2, f3, f4, f5, if_neg (g (6 * m) (by omega)), if_neg (g (6 * m + 1) (by omega)), if_neg (g (6 * m + 2) (by omega)), if_neg (g (6 * m + 3) (by omega)), if_neg (g (6 * m + 4) (by omega)), if_neg (g (6 * m + 5) (by omega))]
  by_cases h : b (6 * m) = 70
  · rw [if_pos (c70.mpr h)]
    exact ⟨_, rfl, RD_new hrd rfl rfl rfl rfl rfl (by rw [if_pos h])⟩
  · rw [if_neg (fun y => h (c70.mp y))]
    exact ⟨_, rfl, RD_new hrd rfl rfl rfl rfl rfl (by rw [if_neg h])⟩
theorem chunk_no {m F : Nat} {rd : Nat → Int32} (hn : n ≤ 72) (hm : ∀ j, j < n → b j < 256 ∧ mt j = nI (b j)) (hmn : 6 * m < n) (hrd : RD b m rd) (h1F : 6 * m < F) (h2F : F < 6 * m + 6) (hFn : F ≤ n) (hok : ∀ j, j < F → okN b j = true) (hno : F < n → okN b F = false) : ∃ x rd2, FX9_readText_J58L16 (nI n) mt (nI (b (6 * m))) (nI (6 * m)) (-9 : Int32) (nI m) rd = some (.inl (x, nI F, nI (m + 1), rd2)) := by
  have hok6 : ∀ j, j < 6 * m → okN b j = true := fun j hj => hok j (by omega)
  have hr4 := bN_lt (rwB b m) 4
  have h16 : 2 ^ 4 = 16 := rfl
  have hf6 := frW_lt (b := b) m (fg b (6 * m + 1))
  have hrows := rows_n (b := b) (m := m) (rd := rd) (by omega) hrd hok6
  have hfr0 : FX9_free (nI m) rd (0 : Int32) = some (nI (frW b m 0)) := free_n (b := b) (m := m) (row := 0) (rd := rd) (by omega) (by decide) hrd hok6
  have e0 : (6 : Int32) * nI m = nI (6 * m) := x6z m
  have e1 : nI (6 * m) + (1 : Int32) = nI (6 * m + 1) := nI_1 _
  have e2 : nI (6 * m) + (2 : Int32) = nI (6 * m + 2) := nadd _ 2
  have e3 : nI (6 * m) + (3 : Int32) = nI (6 * m + 3) := nadd _ 3
  have e4 : nI (6 * m) + (4 : Int32) = nI (6 * m + 4) := nadd _ 4
  have e5 : nI (6 * m) + (5 : Int32) = nI (6 * m + 5) := nadd _ 5
  have g : ∀ i, i < 72 → ¬ (nI i < 0 ∨ 72 ≤ i) := fun i hi => gd2 hi (by decide)
  have hst : ∀ x y A : Int32, FX9_figure x y (nI F) mt A = some ((0 : Int32), nI F, y) := fun x y A => fig_st (by omega)
  have fin : ∀ (z : Prop) [Decidable z] (x y : Int32) (r s : Nat → Int32), ∃ x2 rd2, (if z then (some (Sum.inl (x, nI F, nI (m + 1), r)) : Option ((Int32 × Int32 × Int32 × (Nat → Int32)) ⊕ (Int32 × Int32 × Int32 × (Nat → Int32)))) else some (Sum.inl (y, nI F, nI (m + 1), s))) = some (Sum.inl (x2, nI F, nI (m + 1), rd2)) := fun z _ x y r s => by
    by_cases hz : z
    · rw [if_pos hz]; exact ⟨_, _, rfl⟩
    · rw [if_neg hz]; exact ⟨_, _, rfl⟩
  unfold FX9_readText_J58L16 FX9_readText_J218L16
  rw [if_neg (gl 12 (show m < 12 by omega) (by decide)), e0, e1, e2, e3, e4, e5, nI_clamp (n := 6 * m) (by omega), nI_clamp (n := 6 * m + 1) (by omega), nI_clamp (n := 6 * m + 2) (by omega), nI_clamp (n := 6 * m + 3) (by omega), nI_clamp (n := 6 * m + 4) (by omega), nI_clamp (n := 6 * m + 5) (by omega), hrows, nI_1 m]
  by_cases k1 : F = 6 * m + 1
  · have f1 : FX9_figure (nI n) (nI (6 * m + 1)) (-9 : Int32) mt (nI (bN (rwB b m) 4)) = some ((0 : Int32), nI F, nI F) := by
      have h := fig_f (A := bN (rwB b m) 4) hn hm (show F ≤ n from hFn) (by omega) (fun h1 h2 => by rw [k1] at h1 h2 ⊢; exact row_t h1 h2) hno
      rw [← k1]
      exact h
    simp only [Option.bind_some, f1, hfr0, hst, if_neg (g (6 * m) (by omega)), if_neg (g (6 * m + 1) (by omega)), if_neg (g (6 * m + 2) (by omega)), if_neg (g (6 * m + 3) (by omega)), if_neg (g (6 * m + 4) (by omega)), if_neg (g (6 * m + 5) (by omega))]
    exact fin _ _ _ _ _
  · obtain ⟨a1, a2, -⟩ := ok_1 (hok (6 * m + 1) (by omega))
    have hfree := free_n (b := b) (m := m) (row := fg b (6 * m + 1)) (rd := rd) (by omega) (by unfold fg; omega) hrd hok6
    have f1 : FX9_figure (nI n) (nI (6 * m + 1)) (-9 : Int32) mt (nI (bN (rwB b m) 4)) = some (nI (fg b (6 * m + 1)), (-9 : Int32), nI (6 * m + 2)) := fig_o hn hm (by omega) ⟨a1, by omega⟩ (by omega) (row_t a1 (by omega)) (hok _ (by omega))
    by_cases k2 : F = 6 * m + 2
    · have f2 : FX9_figure (nI n) (nI (6 * m + 2)) (-9 : Int32) mt (nI (frW b m (fg b (6 * m + 1)))) = some ((0 : Int32), nI F, nI F) := by
        have h := fig_f (A := frW b m (fg b (6 * m + 1))) hn hm (show F ≤ n from hFn) (by omega) (fun h1 h2 => by rw [k2] at h1 h2 ⊢; exact col_t h1 h2) hno
        rw [← k2]
        exact h
      simp only [Option.bind_some, f1, hfree, f2, hst, if_neg (g (6 * m) (by omega)), if_neg (g (6 * m + 1) (by omega)), if_neg (g (6 * m + 2) (by omega)), if_neg (g (6 * m + 3) (by omega)), if_neg (g (6 * m + 4) (by omega)), if_neg (g (6 * m + 5) (by omega))]
      exact fin _ _ _ _ _
    · obtain ⟨a3, a4, -⟩ := ok_2 (hok (6 * m + 2) (by omega))
      have f2 : FX9_figure (nI n) (nI (6 * m + 2)) (-9 : Int32) mt (nI (frW b m (fg b (6 * m + 1)))) = some (nI (fg b (6 * m + 2)), (-9 : Int32), nI (6 * m + 3)) := fig_o hn hm (by omega) ⟨a3, by omega⟩ (by omega) (col_t a3 (by omega)) (hok _ (by omega))
      have hlast : ∀ j, F = j → 3 ≤ j % 6 → FX9_figure (nI n) (nI j) (-9 : Int32) mt (1023 : Int32) = some ((0 : Int32), nI F, nI F) := fun j hj h3 => by
        have h := fig_f (A := 1023) hn hm (show F ≤ n from hFn) (by decide) (fun h1 h2 => by rw [hj] at h1 h2 ⊢; exact oth_t h3 h1 h2) hno
        rw [← hj]
        exact h
      by_cases k3 : F = 6 * m + 3
      · have f3 := hlast (6 * m + 3) k3 (by omega)
        simp only [Option.bind_some, f1, hfree, f2, f3, hst, if_neg (g (6 * m) (by omega)), if_neg (g (6 * m + 1) (by omega)), if_neg (g (6 * m + 2) (by omega)), if_neg (g (6 * m + 3) (by omega)), if_neg (g (6 * m + 4) (by omega)), if_neg (g (6 * m + 5) (by omega))]
        exact fin _ _ _ _ _
      · have a5 := ok_3 (j := 6 * m + 3) (by omega) (hok (6 * m + 3) (by omega))
        have f3 : FX9_figure (nI n) (nI (6 * m + 3)) (-9 : Int32) mt (1023 : Int32) = some (nI (fg b (6 * m + 3)), (-9 : Int32), nI (6 * m + 4)) := fig_o (A := 1023) hn hm (by omega) a5 (by decide) (oth_t (by omega) a5.1 a5.2) (hok _ (by omega))
        by_cases k4 : F = 6 * m + 4
        · have f4 := hlast (6 * m + 4) k4 (by omega)
          simp only [Option.bind_some, f1, hfree, f2, f3, f4, hst, if_neg (g (6 * m) (by omega)), if_neg (g (6 * m + 1) (by omega)), if_neg (g (6 * m + 2) (by omega)), if_neg (g (6 * m + 3) (by omega)), if_neg (g (6 * m + 4) (by omega)), if_neg (g (6 * m + 5) (by omega))]
          exact fin _ _ _ _ _
        · have a6 := ok_3 (j := 6 * m + 4) (by omega) (hok (6 * m + 4) (by omega))
          have f4 : FX9_figure (nI n) (nI (6 * m + 4)) (-9 : Int32) mt (1023 : Int32) = some (nI (fg b (6 * m + 4)), (-9 : Int32), nI (6 * m + 5)) := fig_o (A := 1023) hn hm (by omega) a6 (by decide) (oth_t (by omega) a6.1 a6.2) (hok _ (by omega))
          have f5 := hlast (6 * m + 5) (by omega) (by omega)
          simp only [Option.bind_some, f1, hfree, f2, f3, f4, f5, hst, if_neg (g (6 * m) (by omega)), if_neg (g (6 * m + 1) (by omega)), if_neg (g (6 * m + 2) (by omega)), if_neg (g (6 * m + 3) (by omega)), if_neg (g (6 * m + 4) (by omega)), if_neg (g (6 * m + 5) (by omega))]
          exact fin _ _ _ _ _
theorem nne9 {F : Nat} (hF : F ≤ 72) : ¬ nI F = (-9 : Int32) := fun y => by
  have h2 := nI_toInt (n := F) (by omega)
  rw [y] at h2
  have h3 : (-9 : Int32).toInt = -9 := by decide
  omega
theorem read_s {m : Nat} {rd : Nat → Int32} (hn : n ≤ 72) (hm : ∀ j, j < n → b j < 256 ∧ mt j = nI (b j)) (hmn : 6 * m < n) : FX9_readText_S16 (nI n) mt (nI (6 * m)) (-9 : Int32) (nI m) rd = if b (6 * m) = 80 ∨ b (6 * m) = 70 then FX9_readText_J58L16 (nI n) mt (nI (b (6 * m))) (nI (6 * m)) (-9 : Int32) (nI m) rd else some (.inl (nI (6 * m), nI (6 * m), nI m, rd)) := by
  have hbl := (hm (6 * m) hmn).1
  have c70 : (nI (b (6 * m)) = (70 : Int32)) ↔ b (6 * m) = 70 := nI_eq (b := 70) (by omega) (by decide)
  have c80 : (nI (b (6 * m)) = (80 : Int32)) ↔ b (6 * m) = 80 := nI_eq (b := 80) (by omega) (by decide)
  unfold FX9_readText_S16 FX9_readText_J232L16
  rw [if_pos rfl, if_neg (nI_ge hmn (by omega)), gdI (by omega) (by decide), nI_clamp (by omega), (hm (6 * m) hmn).2]
  by_cases h8 : b (6 * m) = 80
  · rw [if_pos (c80.mpr h8), if_pos (Or.inl h8)]
  · rw [if_neg (fun y => h8 (c80.mp y))]
    by_cases h7 : b (6 * m) = 70
    · rw [if_pos (c70.mpr h7), if_pos (Or.inr h7)]
    · rw [if_neg (fun y => h7 (c70.mp y)), if_neg (fun y => y.elim h8 h7)]
theorem read_n {F : Nat} (hn : n ≤ 72) (hm : ∀ j, j < n → b j < 256 ∧ mt j = nI (b j)) (hF : F ≤ n) (h1 : ∀ j, j < F → okN b j = true) (h2 : F < n → okN b F = false) (rd : Nat → Int32) : ∃ a q rd2, FX9_readText (nI n) mt rd = some (fauN n F, a, fauN n F, q, rd2) ∧ (F = n ∧ n % 6 = 0 → q = nI (n / 6) ∧ RD b (n / 6) rd2) := by
  have hl : ∃ r, itr (fun v => FX9_readText_S16 (nI n) mt v.1 v.2.1 v.2.2.1 v.2.2.2) fu ((0 : Int32), (-9 : Int32), (0 : Int32), rd) = some r ∧ (r.2.1 = fauN n F ∧ (F = n ∧ n % 6 = 0 → r.2.2.1 = nI (n / 6) ∧ RD b (n / 6) r.2.2.2)) := by
    refine itr_exP (P := if F = n ∧ n % 6 = 0 then n / 6 else F / 6 + 1) (I := fun k x => (k ≤ F / 6 ∧ x.1 = nI (6 * k) ∧ x.2.1 = (-9 : Int32) ∧ x.2.2.1 = nI k ∧ RD b k x.2.2.2) ∨ (F / 6 < k ∧ x.2.1 = nI F)) (by by_cases c : F = n ∧ n % 6 = 0 <;> simp [c] <;> omega) (Or.inl ⟨Nat.zero_le _, rfl, rfl, rfl, fun p hp => by omega⟩) (fun k x hk hI => ?_) (fun x hI => ?_)
    · obtain ⟨a, fa, rm, rd1⟩ := x
      rcases hI with ⟨i1, i2, i3, i4, i5⟩ | ⟨i1, i2⟩
      · simp only at i2 i3 i4 i5
        subst i2 i3 i4
        show ∃ y, FX9_readText_S16 (nI n) mt (nI (6 * k)) (-9 : Int32) (nI k) rd1 = _ ∧ _
        have hkn : 6 * k < n := by
          by_cases c : F = n ∧ n % 6 = 0
          · rw [if_pos c] at hk; omega
          · rcases Nat.lt_or_ge F n with h | h
            · omega
            · have hFn : F = n := by omega
              have hc : ¬ n % 6 = 0 := fun y => c ⟨hFn, y⟩
              omega
        rw [read_s hn hm hkn]
        by_cases ck : k < F / 6
        · have hl := ok_0 (h1 (6 * k) (by omega))
          obtain ⟨rd2, k1, k2⟩ := chunk_ok hn hm (show 6 * k + 6 ≤ n by omega) i5 (fun j hj => h1 j (by omega))
          rw [if_pos hl, k1]
          exact ⟨_, rfl, Or.inl ⟨by omega, rfl, rfl, rfl, k2⟩⟩
        · have hkF : k = F / 6 := by omega
          by_cases c6 : F = 6 * k
          · have hFn : F < n := by omega
            have hl : ¬ (b (6 * k) = 80 ∨ b (6 * k) = 70) := fun y => by
              have h3 := h2 hFn
              rw [c6] at h3
              unfold okN at h3
              rw [if_pos (show (6 * k) % 6 = 0 by omega)] at h3
              rcases y with y | y
              · rw [decide_eq_true y, Bool.true_or] at h3; cases h3
              · rw [decide_eq_true y, Bool.or_true] at h3; cases h3
            rw [if_neg hl]
            exact ⟨_, rfl, Or.inr ⟨by omega, by rw [c6]⟩⟩
          · have hl := ok_0 (h1 (6 * k) (by omega))
            obtain ⟨x, rd2, k1⟩ := chunk_no hn hm hkn i5 (show 6 * k < F by omega) (show F < 6 * k + 6 by omega) hF h1 h2
            rw [if_pos hl, k1]
            exact ⟨_, rfl, Or.inr ⟨by omega, rfl⟩⟩
      · by_cases c : F = n ∧ n % 6 = 0
        · rw [if_pos c] at hk; omega
        · rw [if_neg c] at hk; omega
    · obtain ⟨a, fa, rm, rd1⟩ := x
      by_cases c : F = n ∧ n % 6 = 0
      · rw [if_pos c] at hI
        rcases hI with ⟨i1, i2, i3, i4, i5⟩ | ⟨i1, i2⟩
        · simp only at i2 i3 i4 i5
          subst i2 i3 i4
          show ∃ y, FX9_readText_S16 (nI n) mt (nI (6 * (n / 6))) (-9 : Int32) (nI (n / 6)) rd1 = _ ∧ _
          unfold FX9_readText_S16
          rw [if_pos rfl, if_pos (nI_le (show n ≤ 6 * (n / 6) by omega) (by omega))]
          refine ⟨_, rfl, ?_, fun _ => ⟨rfl, i5⟩⟩
          unfold fauN
          rw [if_pos c]
        · omega
      · rw [if_neg c] at hI
        rcases hI with ⟨i1, -⟩ | ⟨i1, i2⟩
        · omega
        · simp only at i2
          subst i2
          show ∃ y, FX9_readText_S16 (nI n) mt a (nI F) rm rd1 = _ ∧ _
          unfold FX9_readText_S16
          rw [if_neg (nne9 (by omega))]
          refine ⟨_, rfl, ?_, fun y => absurd y c⟩
          unfold fauN
          rw [if_neg c]
  obtain ⟨⟨a, fa, rm, rd1⟩, k1, k2, k3⟩ := hl
  simp only at k2 k3
  subst k2
  unfold FX9_readText
  rw [k1, Option.bind_some]
  exact ⟨_, _, _, rfl, k3⟩
theorem seat8 {F : Nat} (hn : n ≤ 72) (hb : ∀ j, j < n → b j < 256 ∧ tb j = nI (b j)) (h6 : n % 6 = 0) (h1 : ∀ j, j < n → okN b j = true) (ti lt rw_ cl tn nd td da : Nat → Int32) : FX3_seatAll (nI n) ti tb lt rw_ cl tn nd td da = some (nI (n / 6), gfill ti 12 0, (0 : Int64), (0 : Int32), (0 : Int32), (0 : Int32), cpN (n / 6) (fun p => nI (b (6 * p))) lt, cpN (n / 6) (fun p => nI (fg b (6 * p + 1))) rw_, cpN (n / 6) (fun p => nI (fg b (6 * p + 2))) cl, cpN (n / 6) (fun p => nI (fg b (6 * p + 3))) tn, cpN (n / 6) (fun p => nI (fg b (6 * p + 4))) nd, cpN (n / 6) (fun p => nI (fg b (6 * p + 5))) td, cpN (n / 6) (fun p => nI (fg b (6 * p + 5))) da) := by
  have ed : nI n / (6 : Int32) = nI (n / 6) := pk_div (d := 6) (by omega) (by decide) (by decide)
  have hl : itr (fun v => FX3_seatAll_S20 (nI n) tb v.1 v.2.1 v.2.2.1 v.2.2.2.1 v.2.2.2.2.1 v.2.2.2.2.2.1 v.2.2.2.2.2.2.1 v.2.2.2.2.2.2.2) fu ((0 : Int32), lt, rw_, cl, tn, nd, td, da) = some (cpN (n / 6) (fun p => nI (b (6 * p))) lt, cpN (n / 6) (fun p => nI (fg b (6 * p + 1))) rw_, cpN (n / 6) (fun p => nI (fg b (6 * p + 2))) cl, cpN (n / 6) (fun p => nI (fg b (6 * p + 3))) tn, cpN (n / 6) (fun p => nI (fg b (6 * p + 4))) nd, cpN (n / 6) (fun p => nI (fg b (6 * p + 5))) td, cpN (n / 6) (fun p => nI (fg b (6 * p + 5))) da) := by
    refine itr_Q (P := n / 6) (g := fun j => (cpN j (fun p => nI (b (6 * p))) lt, cpN j (fun p => nI (fg b (6 * p + 1))) rw_, cpN j (fun p => nI (fg b (6 * p + 2))) cl, cpN j (fun p => nI (fg b (6 * p + 3))) tn, cpN j (fun p => nI (fg b (6 * p + 4))) nd, cpN j (fun p => nI (fg b (6 * p + 5))) td, cpN j (fun p => nI (fg b (6 * p + 5))) da)) (by omega) _ (by simp only [cpN_0]) (fun j hj => ?_) ?_
    · show FX3_seatAll_S20 (nI n) tb (nI j) (cpN j (fun p => nI (b (6 * p))) lt) (cpN j (fun p => nI (fg b (6 * p + 1))) rw_) (cpN j (fun p => nI (fg b (6 * p + 2))) cl) (cpN j (fun p => nI (fg b (6 * p + 3))) tn) (cpN j (fun p => nI (fg b (6 * p + 4))) nd) (cpN j (fun p => nI (fg b (6 * p + 5))) td) (cpN j (fun p => nI (fg b (6 * p + 5))) da) = _
      obtain ⟨a1, -, -⟩ := ok_1 (h1 (6 * j + 1) (by omega))
      obtain ⟨a2, -, -⟩ := ok_2 (h1 (6 * j + 2) (by omega))
      have a3 := (ok_3 (j := 6 * j + 3) (by omega) (h1 (6 * j + 3) (by omega))).1
      have a4 := (ok_3 (j := 6 * j + 4) (by omega) (h1 (6 * j + 4) (by omega))).1
      have a5 := (ok_3 (j := 6 * j + 5) (by omega) (h1 (6 * j + 5) (by omega))).1
      have e6 : nI j * (6 : Int32) = nI (6 * j) := by rw [Int32.mul_comm, nmul 6 j]
      have e0 : nI (6 * j) + (0 : Int32) = nI (6 * j) := nadd _ 0
      have e1 : nI (6 * j) + (1 : Int32) = nI (6 * j + 1) := nadd _ 1
      have e2 : nI (6 * j) + (2 : Int32) = nI (6 * j + 2) := nadd _ 2
      have e3 : nI (6 * j) + (3 : Int32) = nI (6 * j + 3) := nadd _ 3
      have e4 : nI (6 * j) + (4 : Int32) = nI (6 * j + 4) := nadd _ 4
      have e5 : nI (6 * j) + (5 : Int32) = nI (6 * j + 5) := nadd _ 5
      have k0 := cpN_s j (fun p => nI (b (6 * p))) lt
      have k1 := cpN_s j (fun p => nI (fg b (6 * p + 1))) rw_
      have k2 := cpN_s j (fun p => nI (fg b (6 * p + 2))) cl
      have k3 := cpN_s j (fun p => nI (fg b (6 * p + 3))) tn
      have k4 := cpN_s j (fun p => nI (fg b (6 * p + 4))) nd
      have k5 := cpN_s j (fun p => nI (fg b (6 * p + 5))) td
      have k6 := cpN_s j (fun p => nI (fg b (6 * p + 5))) da
      have s0 := sign_n hn hb (show 6 * j < n by omega)
      have s1 : FX6_figure tb (nI (6 * j + 1)) = nI (fg b (6 * j + 1)) := (figu_n hn hb (by omega)).trans (fig_s a1)
      have s2 : FX6_figure tb (nI (6 * j + 2)) = nI (fg b (6 * j + 2)) := (figu_n hn hb (by omega)).trans (fig_s a2)
      have s3 : FX6_figure tb (nI (6 * j + 3)) = nI (fg b (6 * j + 3)) := (figu_n hn hb (by omega)).trans (fig_s a3)
      have s4 : FX6_figure tb (nI (6 * j + 4)) = nI (fg b (6 * j + 4)) := (figu_n hn hb (by omega)).trans (fig_s a4)
      have s5 : FX6_figure tb (nI (6 * j + 5)) = nI (fg b (6 * j + 5)) := (figu_n hn hb (by omega)).trans (fig_s a5)
      unfold FX3_seatAll_S20 nmb
      rw [ed, if_neg (nI_ge hj (by omega)), e6, e0, e1, e2, e3, e4, e5, s0, s1, s2, s3, s4, s5, nI_1]
      simp only [gput_n (show j < 12 by omega) (show 12 < 2147483648 by decide), k0, k1, k2, k3, k4, k5, k6]
    · show FX3_seatAll_S20 (nI n) tb (nI (n / 6)) _ _ _ _ _ _ _ = _
      unfold FX3_seatAll_S20
      rw [ed, if_pos (nI_le (Nat.le_refl _) (by omega))]
  unfold FX3_seatAll FX2_begin nmb
  dsimp only
  rw [hl, Option.bind_some, ed]
theorem room9a (a0 a1 a2 a3 : Int32) (rd mp : Nat → Int32) : itr (fun v => FX9_room_S14 (a0, a1, a2, a3, rd) v.1 v.2) fu ((0 : Int32), mp) = some (cpN 72 rd mp) := by
  refine itr_Q (P := 72) (g := fun j => cpN j rd mp) (by decide) _ (cpN_0 _ _).symm (fun j hj => ?_) ?_
  · show FX9_room_S14 (a0, a1, a2, a3, rd) (nI j) (cpN j rd mp) = _
    unfold FX9_room_S14
    rw [if_neg (gl 72 hj (by decide)), gdI hj (by decide), gdI hj (by decide), nI_clamp (by omega), nI_1, cpN_s]
  · show FX9_room_S14 (a0, a1, a2, a3, rd) (nI 72) _ = _
    unfold FX9_room_S14
    rw [if_pos (by decide)]
theorem room9b (o md mti : Nat → Int32) : itr (fun v => FX9_room_S48 o v.1 v.2.1 v.2.2) fu ((0 : Int32), md, mti) = some (cpN 12 (fun p => o (6 * p + 4)) md, cpN 12 (fun _ => (0 : Int32)) mti) := by
  refine itr_Q (P := 12) (g := fun j => (cpN j (fun p => o (6 * p + 4)) md, cpN j (fun _ => (0 : Int32)) mti)) (by decide) _ (by rw [cpN_0, cpN_0]) (fun j hj => ?_) ?_
  · show FX9_room_S48 o (nI j) (cpN j (fun p => o (6 * p + 4)) md) (cpN j (fun _ => (0 : Int32)) mti) = _
    have e4 : (6 : Int32) * nI j + (4 : Int32) = nI (6 * j + 4) := x6 j 4
    have k1 := cpN_s j (fun p => o (6 * p + 4)) md
    have k2 := cpN_s j (fun _ => (0 : Int32)) mti
    unfold FX9_room_S48
    rw [if_neg (gl 12 hj (by decide)), e4, gdI (by omega) (by decide), gdI hj (by decide), gdI hj (by decide), nI_clamp (n := 6 * j + 4) (by omega), nI_clamp (n := j) (by omega), nI_1, k1, k2]
  · show FX9_room_S48 o (nI 12) _ _ = _
    unfold FX9_room_S48
    rw [if_pos (by decide)]
end RC
theorem gfill_at {f : Nat → Int32} {n j : Nat} {v : Int32} (h : j < n) : gfill f n v j = v := by
  unfold gfill
  rw [if_pos h]
