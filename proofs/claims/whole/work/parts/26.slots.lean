/-! trials' bits, slots, the text's bytes -/
def tbN (W : Nat) : Nat → Nat := sumN (fun i => if W.testBit i = true then 1 else 0)
theorem popN_tb (x : Nat) : popN x = tbN x := by
  unfold popN tbN
  congr 1
  funext i
  exact bit_t x i
theorem tbN_cut {W S : Nat} (h : W < 2 ^ S) : ∀ d, tbN W (S + d) = tbN W S
  | 0 => rfl
  | d + 1 => by
    have h1 := tbN_cut h d
    have h2 : W < 2 ^ (S + d) := Nat.lt_of_lt_of_le h (Nat.pow_le_pow_right (by decide) (by omega))
    have h3 : W.testBit (S + d) = false := Nat.testBit_lt_two_pow h2
    have e : tbN W (S + d + 1) = tbN W (S + d) + (if W.testBit (S + d) = true then 1 else 0) := rfl
    rw [show S + (d + 1) = S + d + 1 from rfl, e, h3, h1]
    simp
theorem pop_cut {W S n : Nat} (h : W < 2 ^ S) (hn : S ≤ n) : popN W n = tbN W S := by
  rw [popN_tb]
  have e := tbN_cut h (n - S)
  rw [show S + (n - S) = n by omega] at e
  exact e
theorem waits_n {S W : Nat} {mT : Int32} {mw : Nat → Int32} (hS : S ≤ 10) (hmT : mT = nI S) (hw : ∀ i, i < S → mw i = (if W.testBit i then 1 else 0)) : FX9_waits mT mw = some (nI (tbN W S)) := by
  have hl : itr (fun v => FX9_waits_S4 mT mw v.1 v.2) fu ((0 : Int32), (0 : Int32)) = some (nI (tbN W S)) := by
    refine itr_P (P := S) (g := fun j => nI (tbN W j)) (by omega) 0 rfl (fun j hj => ?_) ?_
    · show FX9_waits_S4 mT mw (nI (tbN W j)) (nI j) = _
      unfold FX9_waits_S4 FX9_waits_J27L4
      have ez : tbN W (j + 1) = tbN W j + (if W.testBit j = true then 1 else 0) := rfl
      have z0 : nI (tbN W j) + (0 : Int32) = nI (tbN W j) := nadd _ 0
      rw [hmT, if_neg (nI_ge hj (by omega)), gdI (by omega) (by decide), nI_clamp (by omega), hw j hj, nI_1, nI_1, z0, ez]
      by_cases c : W.testBit j = true
      · rw [if_pos c, if_pos c, if_neg (by decide)]
      · rw [if_neg c, if_neg c, if_pos rfl]
        rfl
    · show FX9_waits_S4 mT mw _ (nI S) = _
      unfold FX9_waits_S4
      rw [hmT, if_pos (nI_le (Nat.le_refl S) (by omega))]
  unfold FX9_waits
  rw [hl]
  rfl
theorem out11 {p : Int32} (h : FX8_outside p (0 : Int32) (11 : Int32) = true) : p < 0 ∨ (12 : Int32) ≤ p := by
  unfold FX8_outside at h
  by_cases c : p < 0
  · exact Or.inl c
  · rw [if_neg c] at h
    by_cases c2 : p ≤ (11 : Int32)
    · rw [if_pos c2] at h; cases h
    · refine Or.inr (Int32.le_iff_toInt_le.mpr ?_)
      have c3 : ¬ p.toInt ≤ 11 := fun q => c2 (Int32.le_iff_toInt_le.mpr q)
      have e : (12 : Int32).toInt = 12 := by decide
      omega
def cpN (n : Nat) (o p : Nat → Int32) : Nat → Int32 := fun j => if j < n then o j else p j
theorem cpN_s (n : Nat) (o p : Nat → Int32) : upd (cpN n o p) n (o n) = cpN (n + 1) o p := by
  funext j
  unfold upd cpN
  by_cases c : j = n
  · subst c; rw [if_pos rfl, if_pos (by omega)]
  · rw [if_neg c]
    by_cases c2 : j < n
    · rw [if_pos c2, if_pos (by omega)]
    · rw [if_neg c2, if_neg (by omega)]
theorem cpN_0 (o p : Nat → Int32) : cpN 0 o p = p := by
  funext j
  unfold cpN
  rw [if_neg (by omega)]
theorem become_n (sd : Int64) (q r w : Int32) (od pd ot pt : Nat → Int32) : FX2_become sd q r w od pd ot pt = some (cpN 12 od pd, cpN 12 ot pt, sd, q, r, w) := by
  have hl : itr (fun v => FX2_become_S2 od ot v.1 v.2.1 v.2.2) fu ((0 : Int32), pd, pt) = some (cpN 12 od pd, cpN 12 ot pt) := by
    refine itr_Q (P := 12) (g := fun j => (cpN j od pd, cpN j ot pt)) (by decide) (pd, pt) (by rw [cpN_0, cpN_0]) (fun j hj => ?_) ?_
    · show FX2_become_S2 od ot (nI j) (cpN j od pd) (cpN j ot pt) = _
      unfold FX2_become_S2 nmb
      rw [if_neg (gl 12 hj (by decide)), gput_n hj (by decide), gput_n hj (by decide), gat_n hj (by decide), gat_n hj (by decide), nI_1, cpN_s, cpN_s]
    · show FX2_become_S2 od ot (nI 12) _ _ = _
      unfold FX2_become_S2
      rw [if_pos (by decide)]
  unfold FX2_become
  rw [hl]
  rfl
/-- a row of 12 laid into a longer one at 12 s -/
def kcp (s n : Nat) (o p : Nat → Int32) : Nat → Int32 := fun j => if 12 * s ≤ j ∧ j < 12 * s + n then o (j - 12 * s) else p j
theorem kcp_s (s n : Nat) (o p : Nat → Int32) : upd (kcp s n o p) (12 * s + n) (o n) = kcp s (n + 1) o p := by
  funext j
  unfold upd kcp
  by_cases c : j = 12 * s + n
  · subst c
    rw [if_pos rfl, if_pos (by omega), Nat.add_sub_cancel_left]
  · rw [if_neg c]
    by_cases c2 : 12 * s ≤ j ∧ j < 12 * s + n
    · rw [if_pos c2, if_pos (by omega)]
    · rw [if_neg c2, if_neg (by omega)]
theorem kcp_0 (s : Nat) (o p : Nat → Int32) : kcp s 0 o p = p := by
  funext j
  unfold kcp
  rw [if_neg (by omega)]
theorem kcp_in {s : Nat} {o p : Nat → Int32} {j : Nat} (h : j < 12) : kcp s 12 o p (12 * s + j) = o j := by
  unfold kcp
  rw [if_pos (by omega), Nat.add_sub_cancel_left]
theorem kcp_out {s t : Nat} {o p : Nat → Int32} {j : Nat} (h : j < 12) (hn : t ≠ s) : kcp s 12 o p (12 * t + j) = p (12 * t + j) := by
  unfold kcp
  rw [if_neg (by omega)]
theorem keep9 {s : Nat} (hs : s < 2) (md mt kd kt : Nat → Int32) : itr (fun v => FX9_keep_S21 md mt (nI s) v.1 v.2.1 v.2.2) fu ((0 : Int32), kd, kt) = some (kcp s 12 md kd, kcp s 12 mt kt) := by
  refine itr_Q (P := 12) (g := fun j => (kcp s j md kd, kcp s j mt kt)) (by decide) (kd, kt) (by rw [kcp_0, kcp_0]) (fun j hj => ?_) ?_
  · show FX9_keep_S21 md mt (nI s) (nI j) (kcp s j md kd) (kcp s j mt kt) = _
    unfold FX9_keep_S21
    have e : (12 : Int32) * nI s + nI j = nI (12 * s + j) := by rw [nmul 12 s, nI_add]
    rw [if_neg (gl 12 hj (by decide)), e, gdI hj (by decide), gdI (by omega) (by decide), gdI hj (by decide), gdI (by omega) (by decide), nI_clamp (n := 12 * s + j) (by omega), nI_clamp (n := j) (by omega), nI_1, kcp_s, kcp_s]
  · show FX9_keep_S21 md mt (nI s) (nI 12) _ _ = _
    unfold FX9_keep_S21
    rw [if_pos (by decide)]
theorem again9 {s : Nat} (hs : s < 2) (kd kt md mt : Nat → Int32) : itr (fun v => FX9_again_S26 kd kt (nI s) v.1 v.2.1 v.2.2) fu ((0 : Int32), md, mt) = some (cpN 12 (fun j => kd (12 * s + j)) md, cpN 12 (fun j => kt (12 * s + j)) mt) := by
  refine itr_Q (P := 12) (g := fun j => (cpN j (fun j => kd (12 * s + j)) md, cpN j (fun j => kt (12 * s + j)) mt)) (by decide) (md, mt) (by rw [cpN_0, cpN_0]) (fun j hj => ?_) ?_
  · show FX9_again_S26 kd kt (nI s) (nI j) _ _ = _
    unfold FX9_again_S26
    have e : (12 : Int32) * nI s + nI j = nI (12 * s + j) := by rw [nmul 12 s, nI_add]
    rw [if_neg (gl 12 hj (by decide)), e, gdI (by omega) (by decide), gdI hj (by decide), gdI (by omega) (by decide), gdI hj (by decide), nI_clamp (n := 12 * s + j) (by omega), nI_clamp (n := j) (by omega), nI_1, ← cpN_s, ← cpN_s]
  · show FX9_again_S26 kd kt (nI s) (nI 12) _ _ = _
    unfold FX9_again_S26
    rw [if_pos (by decide)]
theorem bool1 : vp_nar .boolean (1 : Int32) = 1 := by decide
theorem bool0 : vp_nar .boolean (0 : Int32) = 0 := by decide
theorem slot_new {N P s : Nat} {da ti : Nat → Nat} {ld lt md mt a b : Nat → Int32} {sd md0 : Int64} {q r w mq mr mw : Int32} {mk kd kt : Nat → Int32} {kx : Nat → Int64} {kl : Nat → Int32} (hP : P ≤ 12) (hL : RLe N P da ti ld lt md mt) (e1 : sd = md0) (e2 : q = mq) (e3 : r = mr) (e4 : w = mw) : RSl N P s 1 (cpN 12 ld a) (cpN 12 lt b) sd q r w (upd mk s (vp_nar .boolean (1 : Int32))) (kcp s 12 md kd) (kcp s 12 mt kt) (vp_updL kx s md0) (upd (upd (upd kl (3 * s) mq) (3 * s + 1) mr) (3 * s + 2) mw) := by
  refine ⟨by rw [upd_s, bool1], Or.inr rfl, fun _ => ⟨⟨da, ti, fun p hp => ?_⟩, by rw [e1]; simp [vp_updL], ?_, ?_, ?_⟩⟩
  · obtain ⟨h1, h2, h3, h4, h5, h6⟩ := hL p hp
    refine ⟨h1, h2, ?_, ?_, ?_, ?_⟩
    · unfold cpN; rw [if_pos (by omega)]; exact h3
    · show kcp s 12 md kd (12 * s + p) = _
      rw [kcp_in (by omega)]; exact h4
    · unfold cpN; rw [if_pos (by omega)]; exact h5
    · show kcp s 12 mt kt (12 * s + p) = _
      rw [kcp_in (by omega)]; exact h6
  · rw [upd_n (by omega), upd_n (by omega), upd_s, e2]
  · rw [upd_n (by omega), upd_s, e3]
  · rw [upd_s, e4]
theorem slot_old {N P s o : Nat} {sk : Int32} {sd st : Nat → Int32} {ss md0 : Int64} {sq sr sw x mq mr mw : Int32} {mk kd kt md mt : Nat → Int32} {kx : Nat → Int64} {kl : Nat → Int32} (hP : P ≤ 12) (hn : o ≠ s) (h : RSl N P o sk sd st ss sq sr sw mk kd kt kx kl) : RSl N P o sk sd st ss sq sr sw (upd mk s x) (kcp s 12 md kd) (kcp s 12 mt kt) (vp_updL kx s md0) (upd (upd (upd kl (3 * s) mq) (3 * s + 1) mr) (3 * s + 2) mw) := by
  obtain ⟨h1, h2, h3⟩ := h
  refine ⟨by rw [upd_n hn]; exact h1, h2, fun e => ?_⟩
  obtain ⟨⟨da, ti, h4⟩, h5, h6, h7, h8⟩ := h3 e
  refine ⟨⟨da, ti, fun p hp => ?_⟩, ?_, ?_, ?_, ?_⟩
  · obtain ⟨g1, g2, g3, g4, g5, g6⟩ := h4 p hp
    refine ⟨g1, g2, g3, ?_, g5, ?_⟩
    · show kcp s 12 md kd (12 * o + p) = _
      rw [kcp_out (by omega) hn]; exact g4
    · show kcp s 12 mt kt (12 * o + p) = _
      rw [kcp_out (by omega) hn]; exact g6
  · rw [h5]; simp [vp_updL, hn]
  · rw [upd_n (by omega), upd_n (by omega), upd_n (by omega)]; exact h6
  · rw [upd_n (by omega), upd_n (by omega), upd_n (by omega)]; exact h7
  · rw [upd_n (by omega), upd_n (by omega), upd_n (by omega)]; exact h8
theorem x3 (s k : Nat) : (3 : Int32) * nI s + (OfNat.ofNat k : Int32) = nI (3 * s + k) := by rw [nmul 3 s]; exact nadd _ _
