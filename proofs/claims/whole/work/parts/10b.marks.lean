/-! The rows of marks: what bit v says. -/
def bw_t (q : Nat → Int64) (v : Nat) : Bool := (q (v / 64)).toBitVec.getLsbD (v % 64)
def bw_clr (q : Nat → Int64) (v : Nat) : Nat → Int64 := vp_updL q (v / 64) (q (v / 64) &&& (((1 : Int64) <<< ((nI (v % 64)).toInt64 &&& 63)) ^^^ (-1)))
def bw_set (q : Nat → Int64) (v : Nat) : Nat → Int64 := vp_updL q (v / 64) (q (v / 64) ||| ((1 : Int64) <<< ((nI (v % 64)).toInt64 &&& 63)))
theorem bw_tp : ∀ k, k < 64 → ∀ i, i < 64 → ((1 : Int64) <<< ((nI k).toInt64 &&& 63)).toBitVec.getLsbD i = decide (i = k) := by decide +kernel
theorem bw_tn : ∀ k, k < 64 → ∀ i, i < 64 → (((1 : Int64) <<< ((nI k).toInt64 &&& 63)) ^^^ (-1)).toBitVec.getLsbD i = !decide (i = k) := by decide +kernel
theorem bw_m64 (v : Nat) : v % 64 < 64 := Nat.mod_lt _ (by decide)
theorem bw_t_clr (q : Nat → Int64) (v w : Nat) : bw_t (bw_clr q v) w = (bw_t q w && !decide (w = v)) := by
  unfold bw_t bw_clr
  by_cases e : w / 64 = v / 64
  · rw [e, pk_uLs, Int64.toBitVec_and, BitVec.getLsbD_and, bw_tn _ (bw_m64 v) _ (bw_m64 w), show decide (w % 64 = v % 64) = decide (w = v) from decide_eq_decide.mpr (by omega)]
  · rw [pk_uLn e, show decide (w = v) = false from decide_eq_false (fun z => e (by rw [z]))]
    simp
theorem bw_t_set (q : Nat → Int64) (v w : Nat) : bw_t (bw_set q v) w = (bw_t q w || decide (w = v)) := by
  unfold bw_t bw_set
  by_cases e : w / 64 = v / 64
  · rw [e, pk_uLs, Int64.toBitVec_or, BitVec.getLsbD_or, bw_tp _ (bw_m64 v) _ (bw_m64 w), show decide (w % 64 = v % 64) = decide (w = v) from decide_eq_decide.mpr (by omega)]
  · rw [pk_uLn e, show decide (w = v) = false from decide_eq_false (fun z => e (by rw [z]))]
    simp
theorem bw_63 {v : Nat} (h : v < 2 ^ 31) : nI v &&& 63 = nI (v % 64) := pk_andN (by omega) 6 (by decide)
theorem bw_sh {v : Nat} (h : v < 2 ^ 31) : nI v >>> (6 &&& 31) = nI (v / 64) := pk_shrN h _ 6 (by decide)
theorem bw_u63 : ∀ k, k < 64 → ((nI k).toInt64.toUInt64 &&& Int64.toUInt64 63).toNat = k := by decide +kernel
theorem bw_read (q : Nat → Int64) (v : Nat) : (lg_cmp ((((q (v / 64)).toUInt64 >>> ((nI (v % 64)).toInt64.toUInt64 &&& Int64.toUInt64 63)).toInt64) &&& 1) 0) = 0 ↔ bw_t q v = false := by
  rw [lg_cmp_eq]
  exact ts_bit (bw_m64 v) (bw_u63 _ (bw_m64 v))
theorem bw_in1563 {v : Nat} (h : v ≤ 100000) : vp_in (nI (v / 64)) 1563 := vp_in_nI (by omega) (by decide)
theorem bw_cl {v : Nat} (h : v < 2 ^ 31) : (nI (v / 64)).toNatClampNeg = v / 64 := nI_clamp (by omega)
theorem bw_p54 (K21 : Int32 × (Nat → Int64) → Option ((Nat → Int64))) (K : Int32 × Int32 × (Nat → Int64) → Option ((Nat → Int64))) {p v : Nat} (hp : p ≤ 1000) (hv : v ≤ 200000) (q : Nat → Int64) : bX4_markPrimes_54 K21 K (nI p) (nI v) q = if 100000 < v then K21 (nI (p + 2), q) else K (nI p, nI (v + 2 * p), bw_clr q v) := by
  unfold bX4_markPrimes_54
  by_cases h : 100000 < v
  · rw [if_pos (show (100000 : Int32) < nI v from nI_lt (a := 100000) h (by omega)), if_pos h, show nI p + 2 = nI (p + 2) from nI_add p 2]
  · rw [if_neg (show ¬ (100000 : Int32) < nI v from nI_nlt (a := 100000) (by omega) (by decide)), if_neg h, bw_sh (by omega), gIn_ok (bw_in1563 (by omega)), gIn_ok (bw_in1563 (by omega)), bw_cl (by omega), bw_63 (by omega), show (2 : Int32) * nI p = nI (2 * p) from pk_mul 2 p, nI_add]
    rfl
def bw_swp (q : Nat → Int64) (p : Nat) : Nat → (Nat → Int64)
  | 0 => q
  | j + 1 => bw_clr (bw_swp q p j) (p * p + 2 * p * j)
theorem bw_t_swp (q : Nat → Int64) (p w : Nat) : ∀ j, bw_t (bw_swp q p j) w = true ↔ bw_t q w = true ∧ ∀ i, i < j → w ≠ p * p + 2 * p * i
  | 0 => ⟨fun h => ⟨h, fun i hi => by omega⟩, fun h => h.1⟩
  | j + 1 => by
    show bw_t (bw_clr (bw_swp q p j) (p * p + 2 * p * j)) w = true ↔ _
    rw [bw_t_clr, Bool.and_eq_true, bw_t_swp q p w j]
    constructor
    · rintro ⟨⟨h1, h2⟩, h3⟩
      refine ⟨h1, fun i hi => ?_⟩
      by_cases e : i = j
      · rw [e]
        intro z
        rw [decide_eq_true z] at h3
        cases h3
      · exact h2 i (by omega)
    · rintro ⟨h1, h2⟩
      refine ⟨⟨h1, fun i hi => h2 i (by omega)⟩, ?_⟩
      rw [decide_eq_false (h2 j (by omega))]
      rfl
def bw_N (p : Nat) : Nat := (100000 - p * p) / (2 * p) + 1
theorem bw_N_in {p j : Nat} (h : p * p ≤ 100000) (hj : j < bw_N p) : p * p + 2 * p * j ≤ 100000 := by
  unfold bw_N at hj
  have h1 : 2 * p * j ≤ 2 * p * ((100000 - p * p) / (2 * p)) := Nat.mul_le_mul_left _ (by omega)
  have h2 := Nat.mul_div_le (100000 - p * p) (2 * p)
  omega
theorem bw_N_out {p : Nat} (hp : 0 < p) : 100000 < p * p + 2 * p * bw_N p := by
  unfold bw_N
  have := Nat.lt_mul_div_succ (100000 - p * p) (show 0 < 2 * p by omega)
  omega
theorem bw_N_le {p : Nat} (h : p * p ≤ 100000) (hp3 : 3 ≤ p) (hp : p ≤ 1000) : p * p + 2 * p * bw_N p ≤ 200000 ∧ bw_N p ≤ 100001 := by
  have h1 := bw_N_in (p := p) (j := bw_N p - 1) h (by unfold bw_N; exact Nat.lt_succ_self _)
  have h2 : bw_N p = bw_N p - 1 + 1 := rfl
  have h3 : 2 * p * (bw_N p - 1 + 1) = 2 * p * (bw_N p - 1) + 2 * p := Nat.mul_succ _ _
  have h4 : (100000 - p * p) / (2 * p) ≤ 100000 - p * p := Nat.div_le_self _ _
  refine ⟨by rw [h2, h3]; omega, by unfold bw_N; omega⟩
theorem bw_inner (K21 : Int32 × (Nat → Int64) → Option ((Nat → Int64))) {p : Nat} (hp3 : 3 ≤ p) (hp : p ≤ 1000) (h : p * p ≤ 100000) (q : Nat → Int64) : loopF (fun k q => bX4_markPrimes_54 K21 k q.1 q.2.1 q.2.2) FU (nI p, nI (p * p), q) = K21 (nI (p + 2), bw_swp q p (bw_N p)) := by
  obtain ⟨l1, l2⟩ := bw_N_le h hp3 hp
  have e0 : nI (p * p) = nI (p * p + 2 * p * 0) := by rw [Nat.mul_zero, Nat.add_zero]
  rw [e0]
  refine loopF_run (bw_N p) (fun j => (nI p, nI (p * p + 2 * p * j), bw_swp q p j)) _ (fun j hj K => ?_) (fun K => ?_) (FU_gt (by omega))
  · have hj2 := bw_N_in h hj
    show bX4_markPrimes_54 K21 K (nI p) (nI (p * p + 2 * p * j)) (bw_swp q p j) = K (nI p, nI (p * p + 2 * p * (j + 1)), bw_clr (bw_swp q p j) (p * p + 2 * p * j))
    rw [bw_p54 K21 K hp (by omega), if_neg (by omega), Nat.mul_succ, Nat.add_assoc]
  · show bX4_markPrimes_54 K21 K (nI p) (nI (p * p + 2 * p * bw_N p)) (bw_swp q p (bw_N p)) = _
    rw [bw_p54 K21 K hp l1, if_pos (bw_N_out (by omega))]
def bw_pm (q : Nat → Int64) : Nat → (Nat → Int64)
  | 0 => q
  | i + 1 => if bw_t (bw_pm q i) (3 + 2 * i) then bw_swp (bw_pm q i) (3 + 2 * i) (bw_N (3 + 2 * i)) else bw_pm q i
theorem bw_outer (q : Nat → Int64) : loopF (fun k q => bX4_markPrimes_21 k q.1 q.2) FU (nI 3, q) = some (bw_pm q 157) := by
  refine loopF_run 157 (fun i => (nI (3 + 2 * i), bw_pm q i)) _ (fun i hi K => ?_) (fun K => ?_) (FU_gt (by omega))
  · have hp : 3 + 2 * i ≤ 315 := by omega
    have hpp : (3 + 2 * i) * (3 + 2 * i) ≤ 315 * 315 := Nat.mul_le_mul hp hp
    show bX4_markPrimes_21 K (nI (3 + 2 * i)) (bw_pm q i) = K (nI (3 + 2 * (i + 1)), if bw_t (bw_pm q i) (3 + 2 * i) then bw_swp (bw_pm q i) (3 + 2 * i) (bw_N (3 + 2 * i)) else bw_pm q i)
    have e2 : 3 + 2 * (i + 1) = 3 + 2 * i + 2 := by omega
    rw [e2]
    generalize hP : 3 + 2 * i = P at hp hpp
    generalize bw_pm q i = r
    unfold bX4_markPrimes_21
    rw [pk_mul, if_neg (show ¬ (100000 : Int32) < nI (P * P) from nI_nlt (a := 100000) (by omega) (by decide)), bw_sh (by omega), gIn_ok (bw_in1563 (by omega)), bw_cl (by omega), bw_63 (by omega), show nI P + 2 = nI (P + 2) from nI_add P 2, bw_inner K (by omega) (by omega) (by omega)]
    cases hb : bw_t r P with
    | false => rw [if_pos ((bw_read r P).mpr hb)]; rfl
    | true => rw [if_neg (fun z => by have := (bw_read r P).mp z; rw [hb] at this; cases this)]; rfl
  · show bX4_markPrimes_21 K (nI (3 + 2 * 157)) (bw_pm q 157) = _
    unfold bX4_markPrimes_21
    rw [if_pos (by decide)]
def bw_fl (c : Int64) (i : Nat) : Nat → Int64 := fun k => if k < i then c else 0
theorem bw_fl_s (c : Int64) (i : Nat) : vp_updL (bw_fl c i) i c = bw_fl c (i + 1) := by
  funext k
  unfold vp_updL bw_fl
  by_cases h : k = i
  · rw [if_pos h, if_pos (by omega)]
  · rw [if_neg h]
    by_cases h2 : k < i
    · rw [if_pos h2, if_pos (by omega)]
    · rw [if_neg h2, if_neg (by omega)]
theorem bw_fill (c : Int64) : fJ7_fill_d0a16 (fun _ => 0) c = some (bw_fl c 1563) := by
  unfold fJ7_fill_d0a16
  have e0 : (fun _ => 0 : Nat → Int64) = bw_fl c 0 := by funext k; unfold bw_fl; rw [if_neg (by omega)]
  rw [e0]
  refine loopF_run 1563 (fun i => (nI i, nI 1563, bw_fl c i)) _ (fun i hi K => ?_) (fun K => ?_) (FU_gt (by omega))
  · show bJ7_fill_d0a16_6 K c (nI i) (nI 1563) (bw_fl c i) = K (nI (i + 1), nI 1563, bw_fl c (i + 1))
    unfold bJ7_fill_d0a16_6
    rw [if_neg (nI_ge hi (by decide)), gIn_ok (vp_in_nI hi (by decide)), nI_clamp (by omega), bw_fl_s, nI_1]
  · show bJ7_fill_d0a16_6 K c (nI 1563) (nI 1563) (bw_fl c 1563) = _
    unfold bJ7_fill_d0a16_6
    rw [if_pos (nI_le (Nat.le_refl _) (by decide))]
def bw_q0 : Nat → Int64 := vp_updL (bw_fl (-6148914691236517206) 1563) 0 (-6148914691236517204)
def bw_PM : Nat → Int64 := bw_pm bw_q0 157
theorem bw_primes : fX4_markPrimes (fun _ => 0) = some bw_PM := by
  unfold fX4_markPrimes
  rw [bw_fill, bnd_some, gIn_ok (show vp_in 0 1563 from vp_in_nI (n := 0) (by decide) (by decide))]
  exact bw_outer bw_q0
/-! which bits are left -/
def bw_S (p v : Nat) : Prop := 2 ≤ v ∧ ∀ e, 2 ≤ e → e < p → e * e ≤ v → ¬ v % e = 0
theorem bw_S_mono {p v : Nat} (h : bw_S (p + 2) v) : bw_S p v := ⟨h.1, fun e h1 h2 h3 => h.2 e h1 (by omega) h3⟩
theorem bw_dv {v p d : Nat} (h1 : v % p = 0) (h2 : p % d = 0) : v % d = 0 := Nat.mod_eq_zero_of_dvd (Nat.dvd_trans (Nat.dvd_of_mod_eq_zero h2) (Nat.dvd_of_mod_eq_zero h1))
theorem bw_S_up {p v : Nat} (hp : 3 ≤ p) (ho : p % 2 = 1) (h : bw_S p v) (hk : p * p ≤ v → ¬ v % p = 0) : bw_S (p + 2) v := by
  refine ⟨h.1, fun e h1 h2 h3 h4 => ?_⟩
  rcases Nat.lt_trichotomy e p with q | q | q
  · exact h.2 e h1 q h3 h4
  · subst q; exact hk h3 h4
  · have e1 : e = p + 1 := by omega
    have e2 : v % 2 = 0 := bw_dv h4 (by omega)
    have : 2 * 2 ≤ e * e := Nat.mul_le_mul h1 h1
    exact h.2 2 (by omega) (by omega) (by omega) e2
theorem bw_S_A {p v : Nat} (hp : 3 ≤ p) (ho : p % 2 = 1) (hc : ¬ bw_S p p) : bw_S (p + 2) v ↔ bw_S p v := by
  refine ⟨bw_S_mono, fun h => bw_S_up hp ho h (fun h3 h4 => ?_)⟩
  apply hc
  refine ⟨by omega, fun d d1 d2 d3 d4 => ?_⟩
  have : p * 1 ≤ p * p := Nat.mul_le_mul_left p (by omega)
  exact h.2 d d1 d2 (by omega) (bw_dv h4 d4)
theorem bw_S_B {p v : Nat} (hp : 3 ≤ p) (ho : p % 2 = 1) (hv : v ≤ 100000) : bw_S (p + 2) v ↔ bw_S p v ∧ ∀ i, i < bw_N p → v ≠ p * p + 2 * p * i := by
  have hpp : 3 * 3 ≤ p * p := Nat.mul_le_mul hp hp
  have form : ∀ i, p * p + 2 * p * i = p * (p + 2 * i) := fun i => by rw [Nat.mul_add, Nat.mul_comm 2 p, Nat.mul_assoc]
  constructor
  · intro h
    refine ⟨bw_S_mono h, fun i _ hi => ?_⟩
    refine h.2 p (by omega) (by omega) (by omega) ?_
    rw [hi, form]
    exact Nat.mul_mod_right _ _
  · rintro ⟨h, hn⟩
    refine bw_S_up hp ho h (fun h3 h4 => ?_)
    obtain ⟨m, hm⟩ := Nat.dvd_of_mod_eq_zero h4
    have hpm : p ≤ m := Nat.le_of_mul_le_mul_left (a := p) (by rw [← hm]; exact h3) (by omega)
    rcases Nat.mod_two_eq_zero_or_one m with e | e
    · refine h.2 2 (by omega) (by omega) (by omega) ?_
      rw [hm, Nat.mul_mod, e, Nat.mul_zero]
    · have hmi : m = p + 2 * ((m - p) / 2) := by omega
      have hv2 : v = p * p + 2 * p * ((m - p) / 2) := by rw [form, ← hmi]; exact hm
      rcases Nat.lt_or_ge ((m - p) / 2) (bw_N p) with q | q
      · exact hn _ q hv2
      · have h5 := bw_N_out (p := p) (by omega)
        have h6 : 2 * p * bw_N p ≤ 2 * p * ((m - p) / 2) := Nat.mul_le_mul_left _ q
        omega
theorem bw_odd : ∀ i, i < 64 → (-6148914691236517206 : Int64).toBitVec.getLsbD i = decide (i % 2 = 1) := by decide +kernel
theorem bw_odd0 : ∀ i, i < 64 → (-6148914691236517204 : Int64).toBitVec.getLsbD i = decide (i = 2 ∨ (i % 2 = 1 ∧ i ≠ 1)) := by decide +kernel
theorem bw_S3 (v : Nat) : bw_S 3 v ↔ 2 ≤ v ∧ (4 ≤ v → ¬ v % 2 = 0) := by
  constructor
  · intro h; exact ⟨h.1, fun h4 => h.2 2 (by omega) (by omega) (by omega)⟩
  · intro h
    refine ⟨h.1, fun e h1 h2 h3 => ?_⟩
    have : e = 2 := by omega
    subst this
    exact h.2 (by omega)
theorem bw_base {v : Nat} (hv : v ≤ 100000) : bw_t bw_q0 v = true ↔ bw_S 3 v := by
  rw [bw_S3]
  unfold bw_t bw_q0
  by_cases h : v / 64 = 0
  · rw [h, pk_uLs, bw_odd0 _ (bw_m64 v), decide_eq_true_iff, show v % 64 = v by omega]
    omega
  · rw [pk_uLn h]
    unfold bw_fl
    rw [if_pos (by omega), bw_odd _ (bw_m64 v), decide_eq_true_iff]
    omega
theorem bw_marks : ∀ i, i ≤ 157 → ∀ v, v ≤ 100000 → (bw_t (bw_pm bw_q0 i) v = true ↔ bw_S (3 + 2 * i) v)
  | 0, _, v, hv => bw_base hv
  | i + 1, hi, v, hv => by
    have ih := bw_marks i (by omega)
    show bw_t (if bw_t (bw_pm bw_q0 i) (3 + 2 * i) then bw_swp (bw_pm bw_q0 i) (3 + 2 * i) (bw_N (3 + 2 * i)) else bw_pm bw_q0 i) v = true ↔ bw_S (3 + 2 * i + 2) v
    by_cases hb : bw_t (bw_pm bw_q0 i) (3 + 2 * i) = true
    · rw [if_pos hb, bw_t_swp, ih v hv, bw_S_B (by omega) (by omega) hv]
    · rw [if_neg hb, ih v hv, bw_S_A (by omega) (by omega) (fun z => hb ((ih (3 + 2 * i) (by omega)).mpr z))]
theorem bw_PM_is {v : Nat} (h1 : 1 ≤ v) (hv : v ≤ 100000) : bw_t bw_PM v = lwB 0 v := by
  have h := bw_marks 157 (Nat.le_refl _) v hv
  have e : bw_S (3 + 2 * 157) v ↔ Lw 0 v := by
    constructor
    · intro q
      refine ⟨by have := q.1; omega, fun e he hee => q.2 e he ?_ hee⟩
      rcases Nat.lt_or_ge e 317 with z | z
      · exact z
      · have : 317 * 317 ≤ e * e := Nat.mul_le_mul z z
        omega
    · intro q
      have q : Pr v := q
      exact ⟨by have := q.1; omega, fun e he _ hee => q.2 e he hee⟩
  have h2 : bw_t bw_PM v = true ↔ lwB 0 v = true := by
    rw [lwB_iff]
    exact ⟨fun z => ⟨h1, e.mp (h.mp z)⟩, fun z => h.mpr (e.mpr z.2)⟩
  exact Bool.eq_iff_iff.mpr h2
/-! by the digits' sum -/
theorem bw_rd_ext {v N : Nat} (h : Nd v N) : ∀ k, rd v (N + k) = rd v N
  | 0 => rfl
  | k + 1 => by
    show rd v (N + k) + v / 10 ^ (N + k) % 10 = rd v N
    have h0 : v / 10 ^ (N + k) = 0 := by rw [Nat.pow_add, ← Nat.div_div_eq_div_mul, h.1, Nat.zero_div]
    rw [bw_rd_ext h k, h0]
    rfl
theorem bw_rd7 {v N : Nat} (h : Nd v N) (h7 : N ≤ 7) : rd v N = rd v 7 := by
  have := bw_rd_ext h (7 - N)
  rw [show N + (7 - N) = 7 by omega] at this
  exact this.symm
theorem bw_rd_s (v : Nat) : ∀ k, rd v (k + 1) = v % 10 + rd (v / 10) k
  | 0 => by show 0 + v / 10 ^ 0 % 10 = v % 10 + 0; rw [Nat.pow_zero, Nat.div_one]; omega
  | k + 1 => by
    show rd v (k + 1) + v / 10 ^ (k + 1) % 10 = v % 10 + (rd (v / 10) k + v / 10 / 10 ^ k % 10)
    rw [bw_rd_s v k, Nat.div_div_eq_div_mul, show 10 * 10 ^ k = 10 ^ (k + 1) by rw [Nat.pow_succ, Nat.mul_comm]]
    omega
theorem bw_rd10 (i j : Nat) (hj : j < 10) : rd (10 * i + j) 7 = rd (10 * i) 7 + j := by
  rw [bw_rd_s (10 * i + j) 6, bw_rd_s (10 * i) 6, show (10 * i + j) / 10 = i by omega, show 10 * i / 10 = i by omega]
  omega
def bw_ds (v : Nat) : Bool := decide (0 < rd v 7 ∧ v % rd v 7 = 0)
def bw_dm : Nat → (Nat → Int64)
  | 0 => fun _ => 0
  | n + 1 => if bw_ds n then bw_set (bw_dm n) n else bw_dm n
theorem bw_t_dm (v : Nat) : ∀ n, bw_t (bw_dm n) v = (decide (v < n) && bw_ds v)
  | 0 => by
    rw [decide_eq_false (by omega)]
    unfold bw_t bw_dm
    exact BitVec.getLsbD_zero
  | n + 1 => by
    show bw_t (if bw_ds n then bw_set (bw_dm n) n else bw_dm n) v = _
    cases hb : bw_ds n with
    | true =>
      rw [if_pos rfl, bw_t_set, bw_t_dm v n]
      by_cases e : v = n
      · subst e
        rw [hb, decide_eq_true (rfl : v = v), decide_eq_true (Nat.lt_succ_self v)]
        simp
      · rw [decide_eq_false e, Bool.or_false, show decide (v < n) = decide (v < n + 1) from decide_eq_decide.mpr (by omega)]
    | false =>
      rw [if_neg (by decide), bw_t_dm v n]
      by_cases e : v = n
      · subst e; rw [hb, Bool.and_false, Bool.and_false]
      · rw [show decide (v < n) = decide (v < n + 1) from decide_eq_decide.mpr (by omega)]
theorem bw_mult {v d : Nat} (hv : v ≤ 1000000) (hd : d ≤ 1000000) : fX4_isMultipleOf (nI v) (nI d) = if (0 < d ∧ v % d = 0) then some 1 else some 0 := by
  rcases Nat.eq_zero_or_pos d with h | h
  · subst h
    rw [if_neg (fun z => Nat.lt_irrefl 0 z.1)]
    unfold fX4_isMultipleOf
    rw [if_pos (show nI 0 ≤ 0 by decide)]
  · rw [c_multiple hv h hd]
    by_cases e : v % d = 0
    · rw [if_pos e, if_pos ⟨h, e⟩]
    · rw [if_neg e, if_neg (fun z => e z.2)]
theorem bw_rdle (v : Nat) : rd v 7 ≤ 63 := rd_le v 7
theorem bw_d21 (K8 : Int32 × (Nat → Int64) → Option ((Nat → Int64))) (K : Int32 × Int32 × Int32 × (Nat → Int64) → Option ((Nat → Int64))) {i j : Nat} (hi : i ≤ 10000) (hj : j ≤ 10) (q : Nat → Int64) : bX4_markByDigitSum_21 K8 K (nI (10 * i)) (nI (rd (10 * i) 7)) (nI (10 * i + j)) q = if j = 10 ∨ 100000 < 10 * i + j then K8 (nI (10 * i + 10), q) else K (nI (10 * i), nI (rd (10 * i) 7), nI (10 * i + j + 1), if bw_ds (10 * i + j) then bw_set q (10 * i + j) else q) := by
  unfold bX4_markByDigitSum_21
  rw [show nI (10 * i) + 10 = nI (10 * i + 10) from nI_add _ 10]
  by_cases h : j = 10
  · rw [if_pos (nI_le (by omega) (by omega)), if_pos (Or.inl h)]
  · rw [if_neg (nI_ge (by omega) (by omega))]
    by_cases h2 : 100000 < 10 * i + j
    · rw [if_pos (show (100000 : Int32) < nI (10 * i + j) from nI_lt (a := 100000) h2 (by omega)), if_pos (Or.inr h2)]
    · have hr := bw_rdle (10 * i)
      rw [if_neg (show ¬ (100000 : Int32) < nI (10 * i + j) from nI_nlt (a := 100000) (by omega) (by decide)), if_neg (by omega), nI_add, pk_sub (by omega), show rd (10 * i) 7 + (10 * i + j) - 10 * i = rd (10 * i) 7 + j by omega, ← bw_rd10 i j (by omega), bw_mult (by omega) (by have := bw_rdle (10 * i + j); omega), bw_sh (by omega), gIn_ok (bw_in1563 (by omega)), gIn_ok (bw_in1563 (by omega)), bw_cl (by omega), bw_63 (by omega), nI_1]
      cases hb : bw_ds (10 * i + j) with
      | true =>
        rw [if_pos (of_decide_eq_true hb), bnd_some, if_neg n10]
        rfl
      | false =>
        rw [if_neg (of_decide_eq_false hb), bnd_some, if_pos rfl]
        rfl
def bw_lim (i : Nat) : Nat := if i ≤ 10000 then 10 * i else 100001
def bw_DM : Nat → Int64 := bw_dm 100001
theorem bw_digits : fX4_markByDigitSum (fun _ => 0) = some bw_DM := by
  unfold fX4_markByDigitSum
  refine loopF_run 10001 (fun i => (nI (10 * i), bw_dm (bw_lim i))) _ (fun i hi K => ?_) (fun K => ?_) (FU_gt (by omega))
  · show bX4_markByDigitSum_8 K (nI (10 * i)) (bw_dm (bw_lim i)) = K (nI (10 * (i + 1)), bw_dm (bw_lim (i + 1)))
    have el : bw_lim i = 10 * i := if_pos (by omega)
    obtain ⟨N, hN7, hN⟩ := Nd_ex (10 * i) (by omega)
    unfold bX4_markByDigitSum_8
    rw [if_neg (show ¬ (100000 : Int32) < nI (10 * i) from nI_nlt (a := 100000) (by omega) (by decide)), c_digitSum (by omega) hN hN7, bnd_some, bw_rd7 hN hN7, el]
    obtain ⟨n, hn⟩ : ∃ n, n = if i = 10000 then 1 else 10 := ⟨_, rfl⟩
    have hn1 : i = 10000 → n = 1 := fun e => by rw [hn, if_pos e]
    have hn2 : ¬ i = 10000 → n = 10 := fun e => by rw [hn, if_neg e]
    have e0 : nI (10 * i) = nI (10 * i + 0) := rfl
    have hlim : bw_lim (i + 1) = 10 * i + n := by
      unfold bw_lim
      by_cases e : i = 10000
      · rw [if_neg (by omega), hn1 e, e]
      · rw [if_pos (by omega), hn2 e]; omega
    rw [hlim]
    refine loopF_run n (fun j => (nI (10 * i), nI (rd (10 * i) 7), nI (10 * i + j), bw_dm (10 * i + j))) _ (fun j hj K2 => ?_) (fun K2 => ?_) (FU_gt (by by_cases e : i = 10000 <;> omega))
    · show bX4_markByDigitSum_21 K K2 (nI (10 * i)) (nI (rd (10 * i) 7)) (nI (10 * i + j)) (bw_dm (10 * i + j)) = K2 (nI (10 * i), nI (rd (10 * i) 7), nI (10 * i + j + 1), if bw_ds (10 * i + j) then bw_set (bw_dm (10 * i + j)) (10 * i + j) else bw_dm (10 * i + j))
      rw [bw_d21 K K2 (by omega) (by by_cases e : i = 10000 <;> omega), if_neg (by by_cases e : i = 10000 <;> omega)]
    · show bX4_markByDigitSum_21 K K2 (nI (10 * i)) (nI (rd (10 * i) 7)) (nI (10 * i + n)) (bw_dm (10 * i + n)) = K (nI (10 * (i + 1)), bw_dm (10 * i + n))
      rw [bw_d21 K K2 (by omega) (by by_cases e : i = 10000 <;> omega), if_pos (by by_cases e : i = 10000 <;> omega), show 10 * (i + 1) = 10 * i + 10 by omega]
  · show bX4_markByDigitSum_8 K (nI (10 * 10001)) (bw_dm (bw_lim 10001)) = some bw_DM
    unfold bX4_markByDigitSum_8
    rw [if_pos (by decide), show bw_lim 10001 = 100001 from if_neg (by omega)]
    rfl
theorem bw_DM_is {v : Nat} (h1 : 1 ≤ v) (hv : v ≤ 100000) : bw_t bw_DM v = lwB 3 v := by
  unfold bw_DM
  rw [bw_t_dm, decide_eq_true (show v < 100001 by omega), Bool.true_and]
  apply Bool.eq_iff_iff.mpr
  rw [lwB_iff]
  unfold bw_ds
  rw [decide_eq_true_iff]
  obtain ⟨N, hN7, hN⟩ := Nd_ex v (by omega)
  have e7 := bw_rd7 hN hN7
  constructor
  · intro h; exact ⟨h1, N, hN, by rw [e7]; exact h.2⟩
  · rintro ⟨_, M, hM, h⟩
    have hp := rd_pos h1 hN
    rw [Nd_one hM hN, e7] at h
    exact ⟨by rw [← e7]; exact hp, h⟩
/-! counting the marks -/
theorem bw_mA : ∀ k, k < 64 → ∀ i, i < 64 → ((-1 : Int64) <<< ((nI k).toInt64 &&& 63)).toBitVec.getLsbD i = decide (k ≤ i) := by decide +kernel
theorem bw_mB : ∀ k, k < 64 → ∀ i, i < 64 → (((-1 : Int64).toUInt64 >>> ((63 - nI k : Int32).toInt64.toUInt64 &&& Int64.toUInt64 63)).toInt64).toBitVec.getLsbD i = decide (i ≤ k) := by decide +kernel
def bw_id (q : Nat → Int64) (a b v : Nat) : Nat := if (a ≤ v ∧ v ≤ b) ∧ bw_t q v = true then 1 else 0
theorem bw_79 (q : Nat → Int64) (a b : Nat) (K : Int32 × Int32 × Int32 × Int32 → Option Int32) (v3 v4 : Int32) (w : Nat) (x : Int64) (hx : ∀ i, i < 64 → x.toBitVec.getLsbD i = (decide (a ≤ 64 * w + i ∧ 64 * w + i ≤ b) && (q w).toBitVec.getLsbD i)) : bX4_countMarks_79 K v3 v4 (nI (bw_sm (64 * w) (bw_id q a b))) (nI w) x = K (v3, v4, nI (bw_sm (64 * (w + 1)) (bw_id q a b)), nI (w + 1)) := by
  unfold bX4_countMarks_79
  rw [c_bitCountL, bnd_some, nI_add, nI_1, show 64 * (w + 1) = 64 * w + 64 by omega, bw_sm_split]
  congr 6
  refine bw_sm_cong 64 (fun i hi => ?_)
  rw [hx i hi]
  unfold bw_id bw_t
  rw [show (64 * w + i) / 64 = w by omega, show (64 * w + i) % 64 = i by omega]
  by_cases h : a ≤ 64 * w + i ∧ 64 * w + i ≤ b
  · rw [decide_eq_true h, Bool.true_and]
    by_cases h2 : (q w).toBitVec.getLsbD i = true
    · rw [if_pos h2, if_pos ⟨h, h2⟩]
    · rw [if_neg h2, if_neg (fun z => h2 z.2)]
  · rw [decide_eq_false h, Bool.false_and, if_neg (by decide), if_neg (fun z => h z.1)]
theorem bw_56 (q : Nat → Int64) {a b : Nat} (hb : b ≤ 100000) (K : Int32 × Int32 × Int32 × Int32 → Option Int32) (v3 : Int32) {w : Nat} (hw : w ≤ b / 64) (x : Int64) (hx : ∀ i, i < 64 → x.toBitVec.getLsbD i = (decide (a ≤ 64 * w + i) && (q w).toBitVec.getLsbD i)) : bX4_countMarks_56 K (nI b) v3 (nI (b / 64)) (nI (bw_sm (64 * w) (bw_id q a b))) (nI w) x = K (v3, nI (b / 64), nI (bw_sm (64 * (w + 1)) (bw_id q a b)), nI (w + 1)) := by
  unfold bX4_countMarks_56
  by_cases h : w = b / 64
  · rw [if_pos (by rw [h]), bw_63 (by omega)]
    refine bw_79 q a b K v3 _ w _ (fun i hi => ?_)
    rw [Int64.toBitVec_and, BitVec.getLsbD_and, hx i hi, bw_mB _ (bw_m64 b) i hi]
    have e1 : (i ≤ b % 64) ↔ (64 * w + i ≤ b) := by omega
    rw [show decide (i ≤ b % 64) = decide (64 * w + i ≤ b) from decide_eq_decide.mpr e1, Bool.decide_and]
    cases decide (a ≤ 64 * w + i) <;> cases (q w).toBitVec.getLsbD i <;> cases decide (64 * w + i ≤ b) <;> rfl
  · rw [if_neg (ne_lit (by omega) (by omega) h)]
    refine bw_79 q a b K v3 _ w _ (fun i hi => ?_)
    rw [hx i hi, show decide (a ≤ 64 * w + i) = decide (a ≤ 64 * w + i ∧ 64 * w + i ≤ b) from decide_eq_decide.mpr (by omega)]
theorem c_countMarks (q : Nat → Int64) {a b : Nat} (hab : a ≤ b) (hb : b ≤ 100000) : fX4_countMarks q (nI a) (nI b) = some (nI (bw_cn (bw_t q) a (b + 1 - a))) := by
  unfold fX4_countMarks
  rw [bw_sh (by omega), bw_sh (by omega)]
  have x0 : bw_sm (64 * (a / 64 + 0)) (bw_id q a b) = 0 := bw_sm_none _ (fun v hv => if_neg (fun z => by have := z.1.1; omega))
  have e0 : (nI (a / 64), nI (b / 64), (0 : Int32), nI (a / 64)) = (nI (a / 64), nI (b / 64), nI (bw_sm (64 * (a / 64 + 0)) (bw_id q a b)), nI (a / 64 + 0)) := by rw [x0]; rfl
  have xN : bw_sm (64 * (b / 64 + 1)) (bw_id q a b) = bw_cn (bw_t q) a (b + 1 - a) := by
    rw [show 64 * (b / 64 + 1) = a + ((b + 1 - a) + (64 * (b / 64 + 1) - (b + 1))) by omega, bw_sm_split, bw_sm_split, bw_sm_none (f := bw_id q a b) a (fun v hv => if_neg (fun z => by have := z.1.1; omega)), bw_sm_none (f := fun i => bw_id q a b (a + (b + 1 - a + i))) (64 * (b / 64 + 1) - (b + 1)) (fun v hv => if_neg (fun z => by have := z.1.2; omega)), Nat.zero_add, Nat.add_zero]
    refine bw_sm_cong _ (fun i hi => ?_)
    unfold bw_id
    by_cases h : bw_t q (a + i) = true
    · rw [if_pos ⟨by omega, h⟩, if_pos h]
    · rw [if_neg (fun z => h z.2), if_neg h]
  rw [e0, ← xN]
  refine loopF_run (b / 64 + 1 - a / 64) (fun i => (nI (a / 64), nI (b / 64), nI (bw_sm (64 * (a / 64 + i)) (bw_id q a b)), nI (a / 64 + i))) _ (fun i hi K => ?_) (fun K => ?_) (FU_gt (by omega))
  · show bX4_countMarks_17 K q (nI a) (nI b) (nI (a / 64)) (nI (b / 64)) (nI (bw_sm (64 * (a / 64 + i)) (bw_id q a b))) (nI (a / 64 + i)) = K (nI (a / 64), nI (b / 64), nI (bw_sm (64 * (a / 64 + i + 1)) (bw_id q a b)), nI (a / 64 + i + 1))
    generalize hw : a / 64 + i = w
    unfold bX4_countMarks_17
    rw [if_neg (nI_nlt (by omega) (by omega)), if_neg (show ¬ (1563 : Int32) ≤ nI w from nI_ge (b := 1563) (by omega) (by decide)), gIn_ok (vp_in_nI (by omega) (by decide)), nI_clamp (by omega)]
    by_cases h : w = a / 64
    · rw [if_pos (by rw [h]), bw_63 (by omega)]
      refine bw_56 q hb K _ (by omega) _ (fun j hj => ?_)
      rw [Int64.toBitVec_and, BitVec.getLsbD_and, bw_mA _ (bw_m64 a) j hj, show decide (a % 64 ≤ j) = decide (a ≤ 64 * w + j) from decide_eq_decide.mpr (by omega), Bool.and_comm]
    · rw [if_neg (ne_lit (by omega) (by omega) h)]
      refine bw_56 q hb K _ (by omega) _ (fun j hj => ?_)
      rw [decide_eq_true (show a ≤ 64 * w + j by omega), Bool.true_and]
  · show bX4_countMarks_17 K q (nI a) (nI b) (nI (a / 64)) (nI (b / 64)) (nI (bw_sm (64 * (a / 64 + (b / 64 + 1 - a / 64))) (bw_id q a b))) (nI (a / 64 + (b / 64 + 1 - a / 64))) = _
    rw [show a / 64 + (b / 64 + 1 - a / 64) = b / 64 + 1 by omega]
    unfold bX4_countMarks_17
    rw [if_pos (nI_lt (by omega) (by omega))]
