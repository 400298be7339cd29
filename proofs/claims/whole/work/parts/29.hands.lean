/-! hands, given, likely -/
section HA
variable {N P mo : Nat} {r c k q d f da ti : Nat → Nat} {lt rws cls tn nd td ld lti md mti mp : Nat → Int32} {pu mpu mood mmood : Int32}
def yN (mo : Nat) (da f q : Nat → Nat) (w p : Nat) : Bool := mayN mo (da p) (f p) (q p) w
def zN (mo : Nat) (da f : Nat → Nat) (p : Nat) : Bool := decide (mo ≤ da p) && decide (f p = 1)
theorem ten_k {K : Nat} (hK : K ≤ 10) : ((10 : Int32) - nI K).toInt64 = lN (10 - K) := by
  rw [nlit 10, pk_sub hK, nI_l (by omega)]
theorem look_c (t s : Bool) {K : Nat} (hK : K ≤ 10) (j : Nat) (cc : Nat → Int64) (W : Nat → Nat → Nat) : (if t = true then FX1_look_J61L9 (bi s) (bi t) (nI K) (nI j) ((nI K).toInt64) (lay cc W) else FX1_look_J61L9 (bi s) (bi t) (nI K) (nI j) (0 : Int64) (lay cc W)) = some (.inl (nI (j + 1), lay cc (jn W (if t = true then K else 0) (if s = true then 10 - K else 0) (if t = true then 0 else K) (if s = true then 0 else 10 - K)))) := by
  have b1 : ¬ bi true = 0 := by decide
  have b0 : bi false = 0 := rfl
  have ek : (nI K).toInt64 = lN K := nI_l (by omega)
  have e10 := ten_k hK
  have z : (0 : Int64) = lN 0 := rfl
  unfold FX1_look_J61L9 FX1_look_J76L9 FX1_look_J88L9 FX1_look_J103L9
  rw [ek, e10, z, nI_1]
  cases t <;> cases s
  · simp only [if_neg b1, if_pos b0, join_n, Option.bind_some, Bool.false_eq_true, if_false]
  · simp only [if_neg b1, if_pos b0, join_n, Option.bind_some, Bool.false_eq_true, if_false, if_true]
  · simp only [if_neg b1, if_pos b0, join_n, Option.bind_some, Bool.false_eq_true, if_false, if_true]
  · simp only [if_neg b1, if_pos b0, join_n, Option.bind_some, Bool.false_eq_true, if_false, if_true]
theorem look8 (hR : RRos P r c k q d f lt rws cls tn nd td pu mpu mp) (hL : RLe N P da ti ld lti md mti) (hM : RMo mo mood mmood) {w : Nat} (hw : w ≤ 9) (ha : Nat → Int64) : FX1_look ha pu mood tn lt nd ld (nI w) = some (lay ha (jW (yN mo da f q w) (zN mo da f) k P)) := by
  have hP := hR.1
  have hpu := hR.2.1
  have hl : itr (fun v => FX1_look_S9 pu mood tn lt nd ld (nI w) v.1 v.2) fu ((0 : Int32), lay ha dl0) = some (lay ha (jW (yN mo da f q w) (zN mo da f) k P)) := by
    refine itr_Q (P := P) (g := fun j => lay ha (jW (yN mo da f q w) (zN mo da f) k j)) (by omega) _ rfl (fun j hj => ?_) ?_
    · show FX1_look_S9 pu mood tn lt nd ld (nI w) (nI j) (lay ha (jW (yN mo da f q w) (zN mo da f) k j)) = _
      have hb := hR.2.2.2 j hj
      have htn : tn j = nI (k j) := hb.2.2.1.2.2.1
      have e1 : FX3_isUp mood ld lt nd (nI j) (1 : Int32) (nI w) = yN mo da f q w j := by
        rw [ro_isUp hR hL hM hj hw]
        unfold yN mayN
        have h1 : decide (¬ (1 : Int32) = 0) = true := by decide
        rw [h1, Bool.true_and]
      have e0 : FX3_isUp mood ld lt nd (nI j) (0 : Int32) (nI w) = zN mo da f j := by
        rw [ro_isUp hR hL hM hj hw]
        unfold zN
        have h1 : decide (¬ (0 : Int32) = 0) = false := by decide
        rw [h1, Bool.false_and, Bool.or_false]
      unfold FX1_look_S9
      rw [hpu, if_neg (nI_ge hj (by omega)), e1, e0, gat_n (by omega) (by decide), htn]
      exact look_c (yN mo da f q w j) (zN mo da f j) (by omega) j ha _
    · show FX1_look_S9 pu mood tn lt nd ld (nI w) (nI P) _ = _
      unfold FX1_look_S9
      rw [hpu, if_pos (nI_le (Nat.le_refl P) (by omega))]
  unfold FX1_look nmb
  rw [begin_n]
  dsimp only
  rw [hl]
  rfl
/-- one pupil joins the reference's row -/
def flW (W : Nat → Nat → Nat) (i : Nat) : Nat := W (i / 13) (i % 13)
def flV (W : Nat → Nat → Nat) (yes no K i : Nat) : Nat := (if no = 0 then flW W i * (10 - K) else if i < no then 0 else flW W (i - no) * (10 - K)) + (if i < yes then 0 else flW W (i - yes) * K)
theorem swp_l {cc : Nat → Int64} {W : Nat → Nat → Nat} {B : Nat → Int64} {n m : Nat} (h : m < n) (h2 : m < 169) : swp (lay cc W) B n m = lN (flW W m) := by
  rw [swp_a h, lay_i h2]
  rfl
theorem joint_n {cc : Nat → Int64} {W V : Nat → Nat → Nat} {yes no K : Nat} (hK : K ≤ 10) (hy : yes < 170) (hn : no < 170) (hV : ∀ i, i < 169 → V (i / 13) (i % 13) = flV W yes no K i) (x : Int32) : FX9_layJoint_J142L31 (nI yes) (nI K) x (nI no) (lay cc W) = some (.inl (x + (1 : Int32), lay cc V)) := by
  have ek : (nI K).toInt64 = lN K := nI_l (by omega)
  have e10 := ten_k hK
  have z : (0 : Int64) = lN 0 := rfl
  have hl : itr (fun v => FX9_layJoint_S149 (nI yes) (nI K) (nI no) v.1 v.2) fu ((168 : Int32), lay cc W) = some (lay cc V) := by
    refine itr_D (P := 169) (g := fun n => swp (lay cc W) (lay cc V) n) (by decide) 168 (by decide) _ (lay_top cc W V).symm (fun i hi => ?_) ?_
    · show FX9_layJoint_S149 (nI yes) (nI K) (nI no) (nI i) (swp (lay cc W) (lay cc V) (i + 1)) = _
      have ev : lay cc V i = lN (flV W yes no K i) := by rw [lay_i hi, hV i hi]
      have cn : (nI no = 0) ↔ no = 0 := nI_eq (b := 0) (by omega) (by decide)
      have ci : (nI i < nI no) ↔ i < no := nI_ltI (by omega) (by omega)
      have cy : (nI i < nI yes) ↔ i < yes := nI_ltI (by omega) (by omega)
      have gi : ¬ (nI i < 0 ∨ 169 ≤ i) := gd2 hi (by decide)
      have fin : ∀ v, v = flV W yes no K i → some (Sum.inl (nI i + (-1 : Int32), vp_updL (swp (lay cc W) (lay cc V) (i + 1)) i (lN v))) = (some (Sum.inl (nI i + (-1 : Int32), swp (lay cc W) (lay cc V) i)) : Option ((Int32 × (Nat → Int64)) ⊕ (Nat → Int64))) := fun v hv => by
        rw [hv, ← ev, swp_s]
      have e236 : ∀ a b : Nat, FX9_layJoint_J236L149 (nI i) (nI i) (lN a) (lN b) (swp (lay cc W) (lay cc V) (i + 1)) = some (.inl (nI i + (-1 : Int32), vp_updL (swp (lay cc W) (lay cc V) (i + 1)) i (lN (a + b)))) := fun a b => by
        unfold FX9_layJoint_J236L149
        rw [nI_clamp (by omega), if_neg gi, lN_add]
      have e202 : ∀ a : Nat, FX9_layJoint_J202L149 (nI yes) (nI K) (nI i) (lN a) (swp (lay cc W) (lay cc V) (i + 1)) = some (.inl (nI i + (-1 : Int32), vp_updL (swp (lay cc W) (lay cc V) (i + 1)) i (lN (a + (if i < yes then 0 else flW W (i - yes) * K))))) := fun a => by
        unfold FX9_layJoint_J202L149
        by_cases h : i < yes
        · rw [if_pos (cy.mpr h), if_pos h, z, e236]
        · rw [if_neg (fun y => h (cy.mp y)), if_neg h, pk_sub (by omega), gdI (by omega) (by decide), nI_clamp (by omega), swp_l (by omega) (by omega), ek, lN_mul, e236]
      unfold FX9_layJoint_S149
      rw [if_neg (nI_pos (by omega)), e10]
      by_cases h1 : no = 0
      · rw [if_pos (cn.mpr h1), gdI hi (by decide), nI_clamp (by omega), swp_l (by omega) hi, lN_mul, e202]
        exact fin _ (by unfold flV; rw [if_pos h1])
      · rw [if_neg (fun y => h1 (cn.mp y))]
        by_cases h2 : i < no
        · rw [if_pos (ci.mpr h2), z, e202]
          exact fin _ (by unfold flV; rw [if_neg h1, if_pos h2])
        · rw [if_neg (fun y => h2 (ci.mp y)), pk_sub (by omega), gdI (by omega) (by decide), nI_clamp (n := i - no) (by omega), swp_l (by omega) (by omega), lN_mul, e202]
          exact fin _ (by unfold flV; rw [if_neg h1, if_neg h2])
    · show FX9_layJoint_S149 (nI yes) (nI K) (nI no) (-1 : Int32) (swp (lay cc W) (lay cc V) 0) = _
      unfold FX9_layJoint_S149
      rw [if_pos (by decide), swp_0]
  unfold FX9_layJoint_J142L31
  rw [hl]
  rfl
/-- the three ways to join -/
theorem fl_a {W : Nat → Nat → Nat} {K : Nat} (h0 : ∀ a b, (12 ≤ a ∨ 12 ≤ b) → W a b = 0) (i : Nat) : jn W K (10 - K) 0 0 (i / 13) (i % 13) = flV W 14 13 K i := by
  unfold jn flV flW
  by_cases c1 : i < 13
  · have e1 : i / 13 = 0 := by omega
    rw [if_neg (show ¬ (13 : Nat) = 0 by decide), if_pos c1, if_pos (show i < 14 by omega), if_pos e1, if_pos e1]
    omega
  · have e1 : ¬ i / 13 = 0 := by omega
    have e2 : (i - 13) / 13 = i / 13 - 1 := by omega
    have e3 : (i - 13) % 13 = i % 13 := by omega
    rw [if_neg (show ¬ (13 : Nat) = 0 by decide), if_neg c1, if_neg e1, if_neg e1, e2, e3]
    by_cases c2 : i % 13 = 0
    · rw [if_pos c2, if_pos c2]
      by_cases c3 : i < 14
      · rw [if_pos c3]; omega
      · have h := h0 ((i - 14) / 13) ((i - 14) % 13) (by omega)
        rw [if_neg c3, h]; omega
    · have e4 : (i - 14) / 13 = i / 13 - 1 := by omega
      have e5 : (i - 14) % 13 = i % 13 - 1 := by omega
      rw [if_neg c2, if_neg c2, if_neg (show ¬ i < 14 by omega), e4, e5]
      omega
theorem fl_b {W : Nat → Nat → Nat} {K : Nat} (h0 : ∀ a b, (12 ≤ a ∨ 12 ≤ b) → W a b = 0) (i : Nat) : jn W K 0 0 (10 - K) (i / 13) (i % 13) = flV W 14 0 K i := by
  unfold jn flV flW
  rw [if_pos (show (0 : Nat) = 0 from rfl)]
  by_cases c1 : i < 13
  · have e1 : i / 13 = 0 := by omega
    rw [if_pos (show i < 14 by omega), if_pos e1, if_pos e1]
    omega
  · have e1 : ¬ i / 13 = 0 := by omega
    rw [if_neg e1, if_neg e1]
    by_cases c2 : i % 13 = 0
    · rw [if_pos c2, if_pos c2]
      by_cases c3 : i < 14
      · rw [if_pos c3]; omega
      · have h := h0 ((i - 14) / 13) ((i - 14) % 13) (by omega)
        rw [if_neg c3, h]; omega
    · have e4 : (i - 14) / 13 = i / 13 - 1 := by omega
      have e5 : (i - 14) % 13 = i % 13 - 1 := by omega
      rw [if_neg c2, if_neg c2, if_neg (show ¬ i < 14 by omega), e4, e5]
      omega
theorem fl_c {W : Nat → Nat → Nat} {K : Nat} (h0 : ∀ a b, (12 ≤ a ∨ 12 ≤ b) → W a b = 0) (i : Nat) : jn W 0 0 K (10 - K) (i / 13) (i % 13) = flV W 1 0 K i := by
  unfold jn flV flW
  rw [if_pos (show (0 : Nat) = 0 from rfl)]
  by_cases c2 : i % 13 = 0
  · rw [if_pos c2]
    by_cases c3 : i < 1
    · rw [if_pos c3]; omega
    · have h := h0 ((i - 1) / 13) ((i - 1) % 13) (by omega)
      rw [if_neg c3, h]; omega
  · have e4 : (i - 1) / 13 = i / 13 := by omega
    have e5 : (i - 1) % 13 = i % 13 - 1 := by omega
    rw [if_neg c2, if_neg (show ¬ i < 1 by omega), e4, e5]
    omega
theorem look9s (hR : RRos P r c k q d f lt rws cls tn nd td pu mpu mp) (hL : RLe N P da ti ld lti md mti) (hM : RMo mo mood mmood) {w j : Nat} (hw : w ≤ 9) (hj : j < P) (cc : Nat → Int64) {W : Nat → Nat → Nat} (h0 : ∀ a b, (12 ≤ a ∨ 12 ≤ b) → W a b = 0) : FX9_layJoint_S31 mpu mmood mp md (nI w) (nI j) (lay cc W) = some (.inl (nI (j + 1), lay cc (jn W (if yN mo da f q w j = true then k j else 0) (if zN mo da f j = true then 10 - k j else 0) (if yN mo da f q w j = true then 0 else k j) (if zN mo da f j = true then 0 else 10 - k j)))) := by
  obtain ⟨hP, hpu, hmpu, hro⟩ := hR
  obtain ⟨⟨b1, b2, b3, b4, b5, b6⟩, hlt, ⟨hrw, hcl, htn, hnd, htd⟩, q0, q1, q2, q3, q4, q5⟩ := hro j hj
  obtain ⟨hd9, -, hld, hmd, -, -⟩ := hL j hj
  have hmo := hM.1
  have e5 : (6 : Int32) * nI j + (5 : Int32) = nI (6 * j + 5) := x6 j 5
  have e3 : (6 : Int32) * nI j + (3 : Int32) = nI (6 * j + 3) := x6 j 3
  have e2 : (6 : Int32) * nI j + (2 : Int32) = nI (6 * j + 2) := x6 j 2
  have g5 : ¬ (nI (6 * j + 5) < 0 ∨ 72 ≤ 6 * j + 5) := gd2 (by omega) (by decide)
  have g3 : ¬ (nI (6 * j + 3) < 0 ∨ 72 ≤ 6 * j + 3) := gd2 (by omega) (by decide)
  have g2 : ¬ (nI (6 * j + 2) < 0 ∨ 72 ≤ 6 * j + 2) := gd2 (by omega) (by decide)
  have g1 : ¬ (nI j < 0 ∨ 12 ≤ j) := gd2 (by omega) (by decide)
  have c5 : (nI (f j) = (1 : Int32)) ↔ f j = 1 := nI_eq (by omega) (by decide)
  have cd : (nI (da j) < nI mo) ↔ da j < mo := nI_ltI (by omega) (by omega)
  have cq : (nI w < nI (q j)) ↔ w < q j := nI_ltI (by omega) (by omega)
  have z1 : ¬ (1 : Int32) = 0 := by decide
  have ja := joint_n (cc := cc) (W := W) (V := jn W (k j) (10 - k j) 0 0) (yes := 14) (no := 13) (K := k j) (by omega) (by decide) (by decide) (fun i _ => fl_a h0 i) (nI j)
  have jb := joint_n (cc := cc) (W := W) (V := jn W (k j) 0 0 (10 - k j)) (yes := 14) (no := 0) (K := k j) (by omega) (by decide) (by decide) (fun i _ => fl_b h0 i) (nI j)
  have jc := joint_n (cc := cc) (W := W) (V := jn W 0 0 (k j) (10 - k j)) (yes := 1) (no := 0) (K := k j) (by omega) (by decide) (by decide) (fun i _ => fl_c h0 i) (nI j)
  rw [nI_1] at ja jb jc
  have n14 : nI 14 = (14 : Int32) := rfl
  have n13 : nI 13 = (13 : Int32) := rfl
  have n1 : nI 1 = (1 : Int32) := rfl
  have n0 : nI 0 = (0 : Int32) := rfl
  rw [n14, n13] at ja
  rw [n14, n0] at jb
  rw [n1, n0] at jc
  have y1 : yN mo da f q w j = mayN mo (da j) (f j) (q j) w := rfl
  have y2 : zN mo da f j = (decide (mo ≤ da j) && decide (f j = 1)) := rfl
  unfold FX9_layJoint_S31 FX9_layJoint_J71L31 FX9_layJoint_J110L31 FX9_layJoint_J106L31 FX9_layJoint_J111L31 FX9_layJoint_J124L31 FX9_layJoint_J141L31
  rw [hmpu, if_neg (nI_ge hj (by omega)), e5, e3, e2, nI_clamp (n := 6 * j + 5) (by omega), nI_clamp (n := 6 * j + 3) (by omega), nI_clamp (n := 6 * j + 2) (by omega), nI_clamp (n := j) (by omega), hmd, hM.2.2, q5, q3, q2, y1, y2]
  simp only [c5, cd, cq, if_neg g5, if_neg g1, if_neg g3, if_neg g2, if_neg z1, if_true]
  unfold mayN
  by_cases c1 : mo ≤ da j
  · have c1' : ¬ da j < mo := by omega
    by_cases c2 : f j = 1
    · simp only [c1, c1', c2, if_true, if_false, decide_true, Bool.true_and, Bool.and_true, Bool.true_or, if_neg z1]
      exact ja
    · by_cases c3 : q j ≤ w
      · have c3' : ¬ w < q j := by omega
        simp only [c1, c1', c2, c3, c3', if_true, if_false, decide_true, decide_false, Bool.true_and, Bool.and_true, Bool.and_false, Bool.false_or, Bool.or_true, if_neg z1, Bool.false_eq_true]
        exact jb
      · have c3' : w < q j := by omega
        simp only [c1, c1', c2, c3, c3', if_true, if_false, decide_true, decide_false, Bool.true_and, Bool.and_true, Bool.and_false, Bool.false_or, Bool.or_false, if_neg z1, Bool.false_eq_true]
        exact jc
  · have c1' : da j < mo := by omega
    simp only [c1, c1', if_true, if_false, decide_false, Bool.false_and, Bool.false_eq_true, ite_self]
    exact jc
theorem look9 (hR : RRos P r c k q d f lt rws cls tn nd td pu mpu mp) (hL : RLe N P da ti ld lti md mti) (hM : RMo mo mood mmood) {w : Nat} (hw : w ≤ 9) (mj : Nat → Int64) : FX9_layJoint mpu mmood mj mp md (nI w) = some (lay mj (jW (yN mo da f q w) (zN mo da f) k P)) := by
  have hP := hR.1
  have hpu := hR.2.2.1
  have hz : itr (fun v => FX9_layJoint_S2 v.1 v.2) fu ((0 : Int32), mj) = some (gfillL mj 169 0) := by
    refine itr_Q (P := 169) (g := fun j => gfillL mj j 0) (by decide) mj (by funext i; simp [gfillL]) (fun j hj => ?_) ?_
    · show FX9_layJoint_S2 (nI j) (gfillL mj j 0) = _
      unfold FX9_layJoint_S2
      have e : vp_updL (gfillL mj j 0) j 0 = gfillL mj (j + 1) 0 := by
        funext i
        unfold vp_updL gfillL
        by_cases h1 : i = j
        · rw [if_pos h1, if_pos (by omega)]
        · rw [if_neg h1]
          by_cases h2 : i < j
          · rw [if_pos h2, if_pos (by omega)]
          · rw [if_neg h2, if_neg (by omega)]
      rw [if_neg (gl 169 hj (by decide)), gdI hj (by decide), nI_clamp (by omega), nI_1, e]
    · show FX9_layJoint_S2 (nI 169) _ = _
      unfold FX9_layJoint_S2
      rw [if_pos (by decide)]
  have hb : vp_updL (gfillL mj 169 0) (0 : Int32).toNatClampNeg (1 : Int64) = lay mj dl0 := by
    rw [← begin_n]
    show _ = vp_updL (gfillL mj 169 (0 : Int64)) (((0 : Int32) * (13 : Int32) + (0 : Int32)).toNatClampNeg) (1 : Int64)
    have e : ((0 : Int32) * (13 : Int32) + (0 : Int32)).toNatClampNeg = (0 : Int32).toNatClampNeg := by decide
    rw [e]
  have hl : itr (fun v => FX9_layJoint_S31 mpu mmood mp md (nI w) v.1 v.2) fu ((0 : Int32), lay mj dl0) = some (lay mj (jW (yN mo da f q w) (zN mo da f) k P)) := by
    refine itr_Q (P := P) (g := fun j => lay mj (jW (yN mo da f q w) (zN mo da f) k j)) (by omega) _ rfl (fun j hj => ?_) ?_
    · exact look9s hR hL hM hw hj mj (fun a b h => jW_0 j a b (by omega))
    · show FX9_layJoint_S31 mpu mmood mp md (nI w) (nI P) _ = _
      unfold FX9_layJoint_S31
      rw [hpu, if_pos (nI_le (Nat.le_refl P) (by omega))]
  unfold FX9_layJoint
  rw [hz, Option.bind_some, if_neg (by decide), hb, hl]
  rfl
end HA
def besL (E : Nat → Int64) : Nat → Nat
  | 0 => 0
  | n + 1 => if E (n + 1) ≤ E (besL E n) then besL E n else n + 1
theorem besL_le (E : Nat → Int64) : ∀ n, besL E n ≤ n
  | 0 => Nat.le_refl 0
  | n + 1 => by
    have h := besL_le E n
    simp only [besL]
    by_cases c : E (n + 1) ≤ E (besL E n)
    · rw [if_pos c]; omega
    · rw [if_neg c]; exact Nat.le_refl _
theorem besL_s (E : Nat → Int64) (n : Nat) : besL E (n + 1) = if E (n + 1) ≤ E (besL E n) then besL E n else n + 1 := rfl
theorem like8 {cc : Nat → Int64} {W : Nat → Nat → Nat} {h : Nat} (hh : h < 13) : FX1_likeliestKnowing (lay cc W) (nI h) = some (nI (besL (fun n => lN (W h n)) 12)) := by
  generalize hE : (fun n => lN (W h n)) = E
  have hat : ∀ n, n < 13 → lay cc W (13 * h + n) = E n := fun n hn => by rw [lay_at hh hn, ← hE]
  have hl : itr (fun v => FX1_likeliestKnowing_S4 (lay cc W) (nI h) v.1 v.2) fu ((0 : Int32), (1 : Int32)) = some (nI (besL E 12)) := by
    refine itr_cnt (g := fun j => (nI (besL E j), nI (j + 1))) (e := 12) (fu_le (by decide)) rfl (fun j hj => ?_) ?_
    · show FX1_likeliestKnowing_S4 (lay cc W) (nI h) (nI (besL E j)) (nI (j + 1)) = _
      have hb := besL_le E j
      unfold FX1_likeliestKnowing_S4
      rw [if_neg (nlL 12 (by omega) (by decide)), gget_n hh (by omega), gget_n hh (by omega), hat (j + 1) (by omega), hat (besL E j) (by omega), nI_1, besL_s]
      by_cases cx : E (j + 1) ≤ E (besL E j)
      · rw [if_pos cx, if_pos cx]
      · rw [if_neg cx, if_neg cx]
    · show FX1_likeliestKnowing_S4 (lay cc W) (nI h) _ (nI 13) = _
      unfold FX1_likeliestKnowing_S4
      rw [if_pos (by decide)]
  unfold FX1_likeliestKnowing
  rw [hl]
  rfl
theorem like9 {cc : Nat → Int64} {W : Nat → Nat → Nat} {h : Nat} (hh : h < 13) : itr (fun v => FX9_likely_S45 (nI h) (lay cc W) v.1 v.2) fu ((0 : Int32), (1 : Int32)) = some (nI (besL (fun n => lN (W h n)) 12)) := by
  generalize hE : (fun n => lN (W h n)) = E
  have hat : ∀ n, n < 13 → lay cc W (13 * h + n) = E n := fun n hn => by rw [lay_at hh hn, ← hE]
  refine itr_cnt (g := fun j => (nI (besL E j), nI (j + 1))) (e := 12) (fu_le (by decide)) rfl (fun j hj => ?_) ?_
  · show FX9_likely_S45 (nI h) (lay cc W) (nI (besL E j)) (nI (j + 1)) = _
    have hb := besL_le E j
    unfold FX9_likely_S45
    rw [if_neg (gl 13 (by omega) (by decide)), x13, x13, gdI (by omega) (by decide), gdI (by omega) (by decide), nI_clamp (by omega), nI_clamp (by omega), hat (j + 1) (by omega), hat (besL E j) (by omega), nI_1, besL_s]
    by_cases cx : E (j + 1) ≤ E (besL E j)
    · rw [if_pos cx, if_pos cx]
    · rw [if_neg cx, if_neg cx]
  · show FX9_likely_S45 (nI h) (lay cc W) _ (nI 13) = _
    unfold FX9_likely_S45
    rw [if_pos (by decide)]
