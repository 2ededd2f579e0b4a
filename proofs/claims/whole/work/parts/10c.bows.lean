/-! bows on both sides -/
theorem bw_within {x a b : Nat} (hx : x < 2 ^ 31) (ha : a < 2 ^ 31) (hb : b < 2 ^ 31) : fX9_isWithin (nI x) (nI a) (nI b) = some (if a ≤ x ∧ x < b + 1 then 1 else 0) := by
  unfold fX9_isWithin
  by_cases h1 : x < a
  · rw [if_pos (nI_lt h1 ha), if_neg (by omega)]
  · rw [if_neg (nI_nlt (by omega) hx)]
    by_cases h2 : b < x
    · rw [if_pos (nI_lt h2 hx), if_neg (by omega)]
    · rw [if_neg (nI_nlt (by omega) hb), if_pos (by omega)]
/-! squares -/
theorem bw_sq : ∀ v r, r * r ≤ v → v < (r + 1) * (r + 1) → bw_cn (lwB 1) 1 v = r
  | 0, r, h1, h2 => by
    rcases Nat.eq_zero_or_pos r with h | h
    · subst h; rfl
    · have : 1 * 1 ≤ r * r := Nat.mul_le_mul h h
      omega
  | v + 1, r, h1, h2 => by
    rw [bw_cn_s]
    by_cases e : r * r = v + 1
    · have hr : 1 ≤ r := by
        rcases Nat.eq_zero_or_pos r with h | h
        · subst h; omega
        · exact h
      have e1 : r - 1 + 1 = r := by omega
      have h3 : (r - 1) * (r - 1) < r * r := Nat.mul_lt_mul'' (by omega) (by omega)
      rw [bw_sq v (r - 1) (by omega) (by rw [e1]; omega), if_pos (show lwB 1 (1 + v) = true from lwB_iff.mpr ⟨by omega, show ∃ x, x * x = 1 + v from ⟨r, by omega⟩⟩)]
      omega
    · rw [bw_sq v r (by omega) (by omega), if_neg (fun z => by
        obtain ⟨_, hx0⟩ := lwB_iff.mp z
        obtain ⟨x, hx⟩ : ∃ x, x * x = 1 + v := hx0
        have q1 : r < x := sq_lt (by omega)
        have q2 : x < r + 1 := sq_lt (by omega)
        omega), Nat.add_zero]
theorem bw_squares {a b : Nat} (ha : 1 ≤ a) (hab : a ≤ b) (hb : b ≤ 100000) : ((fX4_rootOf (nI b)).bind fun r1 => (fX4_rootOf (nI a - 1)).bind fun r2 => some (r1 - r2)) = some (nI (bw_cn (lwB 1) a (b + 1 - a))) := by
  obtain ⟨r, e1, r1, r2, r3⟩ := c_root (v := b) (by omega)
  obtain ⟨t, f1, t1, t2, t3⟩ := c_root (v := a - 1) (by omega)
  have h1 := bw_sq b r r1 r2
  have h2 := bw_sq (a - 1) t t1 t2
  have h3 := bw_cn_split (lwB 1) 1 (a - 1) (b + 1 - a)
  rw [show a - 1 + (b + 1 - a) = b by omega, show 1 + (a - 1) = a by omega, h1, h2] at h3
  rw [e1, bnd_some, show nI a - 1 = nI (a - 1) from pk_sub (b := 1) ha, f1, bnd_some, pk_sub (by omega), h3, Nat.add_sub_cancel_left]
/-! powers of two -/
theorem bw_p2 : ∀ i, i ≤ 16 → 2 ^ i ≤ 65536 := by decide
theorem bw_powsum {v : Nat} (h1 : 1 ≤ v) (hv : v ≤ 100000) : bw_sm 17 (fun i => if 2 ^ i = v then 1 else 0) = if lwB 4 v then 1 else 0 := by
  obtain ⟨k, hk, k1, k2⟩ := p2_ex v h1 (by omega)
  have hk16 : k ≤ 16 := by
    rcases Nat.lt_or_ge 16 k with q | q
    · have : 2 ^ 17 ≤ 2 ^ k := Nat.pow_le_pow_right (by decide) q
      omega
    · exact q
  have uq : ∀ i, 2 ^ i = v → i = k := by
    intro i hi
    rcases Nat.lt_trichotomy i k with q | q | q
    · have := Nat.pow_lt_pow_right (a := 2) (by decide) q
      omega
    · exact q
    · have : 2 ^ (k + 1) ≤ 2 ^ i := Nat.pow_le_pow_right (by decide) q
      omega
  have l4 : (nI v &&& (nI v - 1)) = 0 ↔ v = 2 ^ k := lw4 (by omega) k1 k2 (by omega)
  by_cases h : v = 2 ^ k
  · rw [if_pos (show lwB 4 v = true from lwB_iff.mpr ⟨h1, l4.mpr h⟩), bw_sm_cong (g := fun i => if i = k then 1 else 0) 17 (fun i _ => by
      by_cases e : i = k
      · rw [if_pos e, if_pos (by rw [e]; exact h.symm)]
      · rw [if_neg e, if_neg (fun z => e (uq i z))]), bw_sm_one, if_pos (by omega)]
  · rw [if_neg (show ¬ lwB 4 v = true from fun z => h (l4.mp (lwB_iff.mp z).2))]
    exact bw_sm_none 17 (fun i _ => if_neg (fun z => h (by rw [← uq i z]; exact z.symm)))
theorem bw_ifs (c : Prop) [Decidable c] (x : Nat) : (if (if c then (1 : Int32) else 0) = 0 then nI x else nI x + 1) = nI (x + if c then 1 else 0) := by
  by_cases h : c
  · rw [if_pos h, if_neg n10, if_pos h, nI_1]
  · rw [if_neg h, if_pos rfl, if_neg h]; rfl
theorem c_countPowers {a b : Nat} (ha : 1 ≤ a) (hab : a ≤ b) (hb : b ≤ 100000) : fX4_countPowers (nI a) (nI b) = some (nI (bw_cn (lwB 4) a (b + 1 - a))) := by
  unfold fX4_countPowers
  have hN : bw_sm 17 (fun i => if a ≤ 2 ^ i ∧ 2 ^ i < b + 1 then 1 else 0) = bw_cn (lwB 4) a (b + 1 - a) := by
    rw [← bw_list (g := fun i => 2 ^ i) (m := 17) (fun v h1 h2 => bw_powsum (by omega) (by omega))]
    exact bw_sm_cong 17 (fun i _ => by rw [show a + (b + 1 - a) = b + 1 by omega])
  rw [← hN]
  refine loopF_run 17 (fun i => (nI (bw_sm i (fun i => if a ≤ 2 ^ i ∧ 2 ^ i < b + 1 then 1 else 0)), nI (2 ^ i))) _ (fun i hi K => ?_) (fun K => ?_) (FU_gt (by omega))
  · have hp := bw_p2 i (by omega)
    show bX4_countPowers_4 K (nI a) (nI b) (nI (bw_sm i (fun i => if a ≤ 2 ^ i ∧ 2 ^ i < b + 1 then 1 else 0))) (nI (2 ^ i)) = K (nI (bw_sm i (fun i => if a ≤ 2 ^ i ∧ 2 ^ i < b + 1 then 1 else 0) + if a ≤ 2 ^ i ∧ 2 ^ i < b + 1 then 1 else 0), nI (2 ^ (i + 1)))
    generalize bw_sm i (fun i => if a ≤ 2 ^ i ∧ 2 ^ i < b + 1 then 1 else 0) = X
    have e2 : nI (2 ^ i) * 2 = nI (2 ^ (i + 1)) := by rw [Nat.pow_succ]; exact pk_mul (2 ^ i) 2
    unfold bX4_countPowers_4 bX4_countPowers_22
    rw [if_neg (show ¬ (100000 : Int32) < nI (2 ^ i) from nI_nlt (a := 100000) (by omega) (by decide)), bw_within (by omega) (by omega) (by omega), bnd_some, e2]
    by_cases h : a ≤ 2 ^ i ∧ 2 ^ i < b + 1
    · rw [if_pos h, if_neg n10, if_pos h, nI_1]
    · rw [if_neg h, if_pos rfl, if_neg h]; rfl
  · show bX4_countPowers_4 K (nI a) (nI b) (nI (bw_sm 17 (fun i => if a ≤ 2 ^ i ∧ 2 ^ i < b + 1 then 1 else 0))) (nI (2 ^ 17)) = _
    unfold bX4_countPowers_4
    rw [if_pos (by decide)]
/-! mirrored numbers: by their upper halves -/
def bw_E (h : Nat) : Nat := if h < 10 then 11 * h else if h < 100 then 100 * h + 10 * (h % 10) + h / 10 else 1000 * h + 100 * (h % 10) + 10 * (h / 10 % 10) + h / 100
def bw_O (h : Nat) : Nat := if h < 10 then h else if h < 100 then 10 * h + h / 10 else 100 * h + 10 * (h / 10 % 10) + h / 100
theorem bw_Ea {h : Nat} (q : h < 10) : bw_E h = 11 * h := if_pos q
theorem bw_Eb {h : Nat} (p : 10 ≤ h) (q : h < 100) : bw_E h = 100 * h + 10 * (h % 10) + h / 10 := by unfold bw_E; rw [if_neg (by omega), if_pos q]
theorem bw_Ec {h : Nat} (q : 100 ≤ h) : bw_E h = 1000 * h + 100 * (h % 10) + 10 * (h / 10 % 10) + h / 100 := by unfold bw_E; rw [if_neg (by omega), if_neg (by omega)]
theorem bw_Oa {h : Nat} (q : h < 10) : bw_O h = h := if_pos q
theorem bw_Ob {h : Nat} (p : 10 ≤ h) (q : h < 100) : bw_O h = 10 * h + h / 10 := by unfold bw_O; rw [if_neg (by omega), if_pos q]
theorem bw_Oc {h : Nat} (q : 100 ≤ h) : bw_O h = 100 * h + 10 * (h / 10 % 10) + h / 100 := by unfold bw_O; rw [if_neg (by omega), if_neg (by omega)]
theorem bw_Nd0 : Nd 0 0 := ⟨by decide, fun i hi => by omega⟩
theorem bw_Nd1 {v : Nat} (p : 1 ≤ v) (q : v < 10) : Nd v 1 := ⟨by show v / 10 = 0; omega, fun i hi => by
  obtain rfl : i = 0 := by omega
  show 0 < v / 1; omega⟩
theorem bw_Nd2 {v : Nat} (p : 10 ≤ v) (q : v < 100) : Nd v 2 := ⟨by show v / 100 = 0; omega, fun i hi => by
  have : i = 0 ∨ i = 1 := by omega
  rcases this with rfl | rfl
  · show 0 < v / 1; omega
  · show 0 < v / 10; omega⟩
theorem bw_Nd3 {v : Nat} (p : 100 ≤ v) (q : v < 1000) : Nd v 3 := ⟨by show v / 1000 = 0; omega, fun i hi => by
  have : i = 0 ∨ i = 1 ∨ i = 2 := by omega
  rcases this with rfl | rfl | rfl
  · show 0 < v / 1; omega
  · show 0 < v / 10; omega
  · show 0 < v / 100; omega⟩
theorem bw_Nd4 {v : Nat} (p : 1000 ≤ v) (q : v < 10000) : Nd v 4 := ⟨by show v / 10000 = 0; omega, fun i hi => by
  have : i = 0 ∨ i = 1 ∨ i = 2 ∨ i = 3 := by omega
  rcases this with rfl | rfl | rfl | rfl
  · show 0 < v / 1; omega
  · show 0 < v / 10; omega
  · show 0 < v / 100; omega
  · show 0 < v / 1000; omega⟩
theorem bw_Nd5 {v : Nat} (p : 10000 ≤ v) (q : v < 100000) : Nd v 5 := ⟨by show v / 100000 = 0; omega, fun i hi => by
  have : i = 0 ∨ i = 1 ∨ i = 2 ∨ i = 3 ∨ i = 4 := by omega
  rcases this with rfl | rfl | rfl | rfl | rfl
  · show 0 < v / 1; omega
  · show 0 < v / 10; omega
  · show 0 < v / 100; omega
  · show 0 < v / 1000; omega
  · show 0 < v / 10000; omega⟩
theorem bw_Nd6 {v : Nat} (p : 100000 ≤ v) (q : v < 1000000) : Nd v 6 := ⟨by show v / 1000000 = 0; omega, fun i hi => by
  have : i = 0 ∨ i = 1 ∨ i = 2 ∨ i = 3 ∨ i = 4 ∨ i = 5 := by omega
  rcases this with rfl | rfl | rfl | rfl | rfl | rfl
  · show 0 < v / 1; omega
  · show 0 < v / 10; omega
  · show 0 < v / 100; omega
  · show 0 < v / 1000; omega
  · show 0 < v / 10000; omega
  · show 0 < v / 100000; omega⟩
theorem bw_ra1 (a v : Nat) : ra a v 1 = 10 * a + v % 10 := by show 10 * a + v / 1 % 10 = _; omega
theorem bw_ra2 (a v : Nat) : ra a v 2 = 100 * a + 10 * (v % 10) + v / 10 % 10 := by show 10 * (10 * a + v / 1 % 10) + v / 10 % 10 = _; omega
theorem bw_ra3 (a v : Nat) : ra a v 3 = 1000 * a + 100 * (v % 10) + 10 * (v / 10 % 10) + v / 100 % 10 := by show 10 * (10 * (10 * a + v / 1 % 10) + v / 10 % 10) + v / 100 % 10 = _; omega
theorem bw_ra4 (a v : Nat) : ra a v 4 = 10000 * a + 1000 * (v % 10) + 100 * (v / 10 % 10) + 10 * (v / 100 % 10) + v / 1000 % 10 := by show 10 * ra a v 3 + v / 1000 % 10 = _; rw [bw_ra3]; omega
theorem bw_ra5 (a v : Nat) : ra a v 5 = 100000 * a + 10000 * (v % 10) + 1000 * (v / 10 % 10) + 100 * (v / 100 % 10) + 10 * (v / 1000 % 10) + v / 10000 % 10 := by show 10 * ra a v 4 + v / 10000 % 10 = _; rw [bw_ra4]; omega
theorem bw_ra6 (a v : Nat) : ra a v 6 = 1000000 * a + 100000 * (v % 10) + 10000 * (v / 10 % 10) + 1000 * (v / 100 % 10) + 100 * (v / 1000 % 10) + 10 * (v / 10000 % 10) + v / 100000 % 10 := by show 10 * ra a v 5 + v / 100000 % 10 = _; rw [bw_ra5]; omega
theorem c_mirE {h : Nat} (h1 : 1 ≤ h) (h2 : h ≤ 999) : fX4_withMirrored (nI h) (nI h) = some (nI (bw_E h)) := by
  by_cases a : h < 10
  · rw [c_mirror (by omega) (bw_Nd1 h1 a) (by omega), bw_ra1, bw_Ea a]
    congr 2; omega
  · by_cases b : h < 100
    · rw [c_mirror (by omega) (bw_Nd2 (by omega) b) (by omega), bw_ra2, bw_Eb (by omega) b]
      congr 2; omega
    · rw [c_mirror (by omega) (bw_Nd3 (by omega) (by omega)) (by omega), bw_ra3, bw_Ec (by omega)]
      congr 2; omega
theorem c_mirO {h : Nat} (h1 : 1 ≤ h) (h2 : h ≤ 999) : fX4_withMirrored (nI h) (nI h / 10) = some (nI (bw_O h)) := by
  rw [show nI h / 10 = nI (h / 10) from pk_div (d := 10) (by omega) (by decide) (by decide)]
  by_cases a : h < 10
  · rw [show h / 10 = 0 by omega, c_mirror (by omega) bw_Nd0 (by omega), bw_Oa a]; rfl
  · by_cases b : h < 100
    · rw [c_mirror (by omega) (bw_Nd1 (by omega) (by omega)) (by omega), bw_ra1, bw_Ob (by omega) b]
      congr 2; omega
    · rw [c_mirror (by omega) (bw_Nd2 (by omega) (by omega)) (by omega), bw_ra2, bw_Oc (by omega)]
      congr 2; omega
def bw_half (v : Nat) : Nat := if v < 10 then v else if v < 1000 then v / 10 else v / 100
theorem bw_ha {v : Nat} (q : v < 10) : bw_half v = v := if_pos q
theorem bw_hb {v : Nat} (p : 10 ≤ v) (q : v < 1000) : bw_half v = v / 10 := by unfold bw_half; rw [if_neg (by omega), if_pos q]
theorem bw_hc {v : Nat} (q : 1000 ≤ v) : bw_half v = v / 100 := by unfold bw_half; rw [if_neg (by omega), if_neg (by omega)]
theorem bw_Eh {h : Nat} (h1 : 1 ≤ h) (h2 : h ≤ 999) (hv : bw_E h ≤ 100000) : h = bw_half (bw_E h) := by
  by_cases a : h < 10
  · rw [bw_Ea a] at hv ⊢; rw [bw_hb (by omega) (by omega)]; omega
  · by_cases b : h < 100
    · rw [bw_Eb (by omega) b] at hv ⊢; rw [bw_hc (by omega)]; omega
    · rw [bw_Ec (by omega)] at hv; omega
theorem bw_Oh {h : Nat} (h1 : 1 ≤ h) (h2 : h ≤ 999) : h = bw_half (bw_O h) := by
  by_cases a : h < 10
  · rw [bw_Oa a, bw_ha a]
  · by_cases b : h < 100
    · rw [bw_Ob (by omega) b, bw_hb (by omega) (by omega)]; omega
    · rw [bw_Oc (by omega), bw_hc (by omega)]; omega
def bw_fE (v : Nat) : Bool := decide (bw_E (bw_half v) = v)
def bw_fO (v : Nat) : Bool := decide (bw_O (bw_half v) = v)
theorem bw_pal {v N : Nat} (h1 : 1 ≤ v) (hv : v ≤ 100000) (hN : Nd v N) (hr : ra 0 v N < 2 ^ 31) : lwB 2 v = true ↔ ra 0 v N = v := by
  rw [lwB_iff]
  constructor
  · rintro ⟨_, M, hM, h⟩
    rw [Nd_one hM hN] at h
    exact (nI_eq hr (by omega)).mp h
  · intro h; exact ⟨h1, N, hN, by rw [h]⟩
theorem bw_dg (v : Nat) : v / 10 / 10 = v / 100 ∧ v / 100 / 10 = v / 1000 ∧ v / 1000 / 10 = v / 10000 ∧ v / 10000 / 10 = v / 100000 ∧ v / 100 / 100 = v / 10000 := by
  simp only [Nat.div_div_eq_div_mul]
  decide
theorem bw_u4 : ∀ x0, x0 < 10 → ∀ x1, x1 < 10 → ∀ x2, x2 < 10 → ∀ x3, x3 < 10 → (1000 * x0 + 100 * x1 + 10 * x2 + x3 = 1000 * x3 + 100 * x2 + 10 * x1 + x0 ↔ x0 = x3 ∧ x1 = x2) := by decide +kernel
theorem bw_u5 : ∀ x0, x0 < 10 → ∀ x1, x1 < 10 → ∀ x3, x3 < 10 → ∀ x4, x4 < 10 → (10000 * x0 + 1000 * x1 + 10 * x3 + x4 = 10000 * x4 + 1000 * x3 + 10 * x1 + x0 ↔ x0 = x4 ∧ x1 = x3) := by decide +kernel
theorem bw_mir4 {v : Nat} (h1 : 1000 ≤ v) (h2 : v < 10000) : (ra 0 v 4 = v ↔ bw_E (bw_half v) = v) ∧ ¬ bw_O (bw_half v) = v := by
  obtain ⟨x0, e0⟩ : ∃ x, x = v % 10 := ⟨_, rfl⟩
  obtain ⟨x1, e1⟩ : ∃ x, x = v / 10 % 10 := ⟨_, rfl⟩
  obtain ⟨x2, e2⟩ : ∃ x, x = v / 100 % 10 := ⟨_, rfl⟩
  obtain ⟨x3, e3⟩ : ∃ x, x = v / 1000 % 10 := ⟨_, rfl⟩
  obtain ⟨g1, g2, g3, g4, g5⟩ := bw_dg v
  have hv : v = 1000 * x3 + 100 * x2 + 10 * x1 + x0 := by omega
  have hh : v / 100 = 10 * x3 + x2 := by omega
  have l0 : x0 < 10 := by omega
  have l1 : x1 < 10 := by omega
  have l2 : x2 < 10 := by omega
  have l3 : x3 < 10 := by omega
  have hu := bw_u4 x0 l0 x1 l1 x2 l2 x3 l3
  rw [bw_hc h1, hh, bw_ra4, ← e0, ← e1, ← e2, ← e3]
  clear e0 e1 e2 e3 g1 g2 g3 g4 g5 hh
  rw [bw_Eb (by omega) (by omega), bw_Ob (by omega) (by omega), show (10 * x3 + x2) % 10 = x2 by omega, show (10 * x3 + x2) / 10 = x3 by omega]
  constructor
  · omega
  · omega
theorem bw_mir5 {v : Nat} (h1 : 10000 ≤ v) (h2 : v < 100000) : (ra 0 v 5 = v ↔ bw_O (bw_half v) = v) ∧ ¬ bw_E (bw_half v) = v := by
  obtain ⟨x0, e0⟩ : ∃ x, x = v % 10 := ⟨_, rfl⟩
  obtain ⟨x1, e1⟩ : ∃ x, x = v / 10 % 10 := ⟨_, rfl⟩
  obtain ⟨x2, e2⟩ : ∃ x, x = v / 100 % 10 := ⟨_, rfl⟩
  obtain ⟨x3, e3⟩ : ∃ x, x = v / 1000 % 10 := ⟨_, rfl⟩
  obtain ⟨x4, e4⟩ : ∃ x, x = v / 10000 % 10 := ⟨_, rfl⟩
  obtain ⟨g1, g2, g3, g4, g5⟩ := bw_dg v
  have hv : v = 10000 * x4 + 1000 * x3 + 100 * x2 + 10 * x1 + x0 := by omega
  have hh : v / 100 = 100 * x4 + 10 * x3 + x2 := by omega
  have l0 : x0 < 10 := by omega
  have l1 : x1 < 10 := by omega
  have l2 : x2 < 10 := by omega
  have l3 : x3 < 10 := by omega
  have l4 : x4 < 10 := by omega
  have hu := bw_u5 x0 l0 x1 l1 x3 l3 x4 l4
  rw [bw_hc (by omega), hh, bw_ra5, ← e0, ← e1, ← e2, ← e3, ← e4]
  clear e0 e1 e2 e3 e4 g1 g2 g3 g4 g5 hh
  rw [bw_Ec (by omega), bw_Oc (by omega), show (100 * x4 + 10 * x3 + x2) % 10 = x2 by omega, show (100 * x4 + 10 * x3 + x2) / 10 = 10 * x4 + x3 by omega, show (10 * x4 + x3) % 10 = x3 by omega, show (100 * x4 + 10 * x3 + x2) / 100 = x4 by omega]
  constructor
  · omega
  · omega
theorem bw_mir {v : Nat} (h1 : 1 ≤ v) (hv : v ≤ 100000) : (if bw_fE v then 1 else 0) + (if bw_fO v then 1 else 0) = if lwB 2 v then 1 else 0 := by
  have fin : ∀ (A B C : Prop) [Decidable A] [Decidable B], (lwB 2 v = true ↔ C) → (bw_E (bw_half v) = v ↔ A) → (bw_O (bw_half v) = v ↔ B) → (C ↔ A ∨ B) → ¬ (A ∧ B) → (if bw_fE v then 1 else 0) + (if bw_fO v then 1 else 0) = if lwB 2 v then 1 else 0 := by
    intro A B C _ _ hC hA hB hAB hn
    unfold bw_fE bw_fO
    by_cases a : A
    · have b : ¬ B := fun b => hn ⟨a, b⟩
      rw [decide_eq_true (hA.mpr a), decide_eq_false (fun z => b (hB.mp z)), if_pos (hC.mpr (hAB.mpr (Or.inl a)))]; rfl
    · by_cases b : B
      · rw [decide_eq_false (fun z => a (hA.mp z)), decide_eq_true (hB.mpr b), if_pos (hC.mpr (hAB.mpr (Or.inr b)))]; rfl
      · rw [decide_eq_false (fun z => a (hA.mp z)), decide_eq_false (fun z => b (hB.mp z)), if_neg (show ¬ lwB 2 v = true from fun z => by rcases hAB.mp (hC.mp z) with q | q; exact a q; exact b q)]; rfl
  obtain ⟨g1, g2, g3, g4, g5⟩ := bw_dg v
  by_cases c1 : v < 10
  · have hp := bw_pal h1 hv (bw_Nd1 h1 c1) (by rw [bw_ra1]; omega)
    rw [bw_ra1] at hp
    refine fin _ _ _ hp (by rw [bw_ha c1, bw_Ea c1]) (by rw [bw_ha c1, bw_Oa c1]) ?_ ?_ <;> omega
  · by_cases c2 : v < 100
    · have hp := bw_pal h1 hv (bw_Nd2 (by omega) c2) (by rw [bw_ra2]; omega)
      rw [bw_ra2] at hp
      refine fin _ _ _ hp (by rw [bw_hb (by omega) (by omega), bw_Ea (by omega)]) (by rw [bw_hb (by omega) (by omega), bw_Oa (by omega)]) ?_ ?_ <;> omega
    · by_cases c3 : v < 1000
      · have hp := bw_pal h1 hv (bw_Nd3 (by omega) c3) (by rw [bw_ra3]; omega)
        rw [bw_ra3] at hp
        refine fin _ _ _ hp (by rw [bw_hb (by omega) (by omega), bw_Eb (by omega) (by omega)]) (by rw [bw_hb (by omega) (by omega), bw_Ob (by omega) (by omega)]) ?_ ?_ <;> omega
      · by_cases c4 : v < 10000
        · have hp := bw_pal h1 hv (bw_Nd4 (by omega) c4) (by rw [bw_ra4]; omega)
          obtain ⟨k1, k2⟩ := bw_mir4 (v := v) (by omega) c4
          exact fin _ _ _ hp Iff.rfl Iff.rfl ⟨fun z => Or.inl (k1.mp z), fun z => by rcases z with z | z; exact k1.mpr z; exact absurd z k2⟩ (fun z => k2 z.2)
        · by_cases c5 : v < 100000
          · have hp := bw_pal h1 hv (bw_Nd5 (by omega) c5) (by rw [bw_ra5]; omega)
            obtain ⟨k1, k2⟩ := bw_mir5 (v := v) (by omega) c5
            exact fin _ _ _ hp Iff.rfl Iff.rfl ⟨fun z => Or.inr (k1.mp z), fun z => by rcases z with z | z; exact absurd z k2; exact k1.mpr z⟩ (fun z => k2 z.1)
          · obtain rfl : v = 100000 := by omega
            have hp := bw_pal h1 hv (bw_Nd6 (by omega) (by omega)) (by rw [bw_ra6]; omega)
            rw [bw_ra6] at hp
            refine fin _ _ _ hp (by rw [bw_hc (by omega), bw_Ec (by omega)]) (by rw [bw_hc (by omega), bw_Oc (by omega)]) ?_ ?_ <;> omega
theorem bw_halfin {v : Nat} (h1 : 1 ≤ v) : 1 ≤ bw_half v := by
  by_cases a : v < 10
  · rw [bw_ha a]; exact h1
  · by_cases b : v < 1000
    · rw [bw_hb (by omega) b]; omega
    · rw [bw_hc (by omega)]; omega
theorem bw_sumE {v : Nat} (h1 : 1 ≤ v) (hv : v ≤ 100000) : bw_sm 999 (fun i => if bw_E (i + 1) = v then 1 else 0) = if bw_fE v then 1 else 0 := by
  have hh := bw_halfin h1
  unfold bw_fE
  by_cases h : bw_E (bw_half v) = v
  · have hb : bw_half v ≤ 999 := by
      by_cases a : v < 100000
      · by_cases c : v < 10
        · rw [bw_ha c]; omega
        · by_cases d : v < 1000
          · rw [bw_hb (by omega) d]; omega
          · rw [bw_hc (by omega)]; omega
      · obtain rfl : v = 100000 := by omega
        rw [bw_hc (by omega), bw_Ec (by omega)] at h
        omega
    rw [decide_eq_true h, if_pos rfl, bw_sm_cong (g := fun i => if i = bw_half v - 1 then 1 else 0) 999 (fun i hi => by
      by_cases e : i = bw_half v - 1
      · rw [if_pos e, if_pos (by rw [show i + 1 = bw_half v by omega]; exact h)]
      · rw [if_neg e, if_neg (fun z => e (by have := bw_Eh (h := i + 1) (by omega) (by omega) (by omega); rw [z] at this; omega))]), bw_sm_one, if_pos (by omega)]
  · rw [decide_eq_false h, if_neg (by decide)]
    exact bw_sm_none 999 (fun i hi => if_neg (fun z => h (by have := bw_Eh (h := i + 1) (by omega) (by omega) (by omega); rw [z] at this; rw [← this]; exact z)))
theorem bw_sumO {v : Nat} (h1 : 1 ≤ v) (hv : v ≤ 100000) : bw_sm 999 (fun i => if bw_O (i + 1) = v then 1 else 0) = if bw_fO v then 1 else 0 := by
  have hh := bw_halfin h1
  unfold bw_fO
  by_cases h : bw_O (bw_half v) = v
  · have hb : bw_half v ≤ 999 := by
      by_cases a : v < 100000
      · by_cases c : v < 10
        · rw [bw_ha c]; omega
        · by_cases d : v < 1000
          · rw [bw_hb (by omega) d]; omega
          · rw [bw_hc (by omega)]; omega
      · obtain rfl : v = 100000 := by omega
        rw [bw_hc (by omega), bw_Oc (by omega)] at h
        omega
    rw [decide_eq_true h, if_pos rfl, bw_sm_cong (g := fun i => if i = bw_half v - 1 then 1 else 0) 999 (fun i hi => by
      by_cases e : i = bw_half v - 1
      · rw [if_pos e, if_pos (by rw [show i + 1 = bw_half v by omega]; exact h)]
      · rw [if_neg e, if_neg (fun z => e (by have := bw_Oh (h := i + 1) (by omega) (by omega); rw [z] at this; omega))]), bw_sm_one, if_pos (by omega)]
  · rw [decide_eq_false h, if_neg (by decide)]
    exact bw_sm_none 999 (fun i hi => if_neg (fun z => h (by have := bw_Oh (h := i + 1) (by omega) (by omega); rw [z] at this; rw [← this]; exact z)))
theorem bw_Ebd {h : Nat} (h2 : h ≤ 999) : bw_E h < 2 ^ 31 ∧ bw_O h < 2 ^ 31 := by
  by_cases a : h < 10
  · rw [bw_Ea a, bw_Oa a]; omega
  · by_cases b : h < 100
    · rw [bw_Eb (by omega) b, bw_Ob (by omega) b]; omega
    · rw [bw_Ec (by omega), bw_Oc (by omega)]; omega
theorem bw_mstep (K : Int32 × Int32 → Option Int32) {a b h X : Nat} (ha : a ≤ 100000) (hb : b ≤ 100000) (h1 : 1 ≤ h) (h2 : h ≤ 999) : bX4_countMirrored_4 K (nI a) (nI b) (nI X) (nI h) = K (nI (X + ((if a ≤ bw_E h ∧ bw_E h < b + 1 then 1 else 0) + (if a ≤ bw_O h ∧ bw_O h < b + 1 then 1 else 0))), nI (h + 1)) := by
  have bd := bw_Ebd h2
  have inner : ∀ Y, bX4_countMirrored_27 K (nI a) (nI b) (nI Y) (nI h) = K (nI (Y + (if a ≤ bw_O h ∧ bw_O h < b + 1 then 1 else 0)), nI (h + 1)) := by
    intro Y
    unfold bX4_countMirrored_27
    rw [c_mirO h1 h2, bnd_some, bw_within bd.2 (by omega) (by omega), bnd_some, nI_1 h]
    by_cases c : a ≤ bw_O h ∧ bw_O h < b + 1
    · rw [if_pos c, if_neg n10, if_pos c, nI_1]
    · rw [if_neg c, if_pos rfl, if_neg c]; rfl
  unfold bX4_countMirrored_4
  rw [if_neg (show ¬ (999 : Int32) < nI h from nI_nlt (a := 999) (by omega) (by decide)), c_mirE h1 h2, bnd_some, bw_within bd.1 (by omega) (by omega), bnd_some, nI_1 X, inner, inner]
  by_cases c : a ≤ bw_E h ∧ bw_E h < b + 1
  · rw [if_pos c, if_neg n10, if_pos c, Nat.add_assoc]
  · rw [if_neg c, if_pos rfl, if_neg c, Nat.zero_add]
theorem c_countMirrored {a b : Nat} (ha : 1 ≤ a) (hab : a ≤ b) (hb : b ≤ 100000) : fX4_countMirrored (nI a) (nI b) = some (nI (bw_cn (lwB 2) a (b + 1 - a))) := by
  unfold fX4_countMirrored
  have hE : bw_sm 999 (fun i => if a ≤ bw_E (i + 1) ∧ bw_E (i + 1) < b + 1 then 1 else 0) = bw_cn bw_fE a (b + 1 - a) := by
    rw [← bw_list (g := fun i => bw_E (i + 1)) (m := 999) (fun v h1 h2 => bw_sumE (by omega) (by omega))]
    exact bw_sm_cong 999 (fun i _ => by rw [show a + (b + 1 - a) = b + 1 by omega])
  have hO : bw_sm 999 (fun i => if a ≤ bw_O (i + 1) ∧ bw_O (i + 1) < b + 1 then 1 else 0) = bw_cn bw_fO a (b + 1 - a) := by
    rw [← bw_list (g := fun i => bw_O (i + 1)) (m := 999) (fun v h1 h2 => bw_sumO (by omega) (by omega))]
    exact bw_sm_cong 999 (fun i _ => by rw [show a + (b + 1 - a) = b + 1 by omega])
  have hN : bw_sm 999 (fun i => (if a ≤ bw_E (i + 1) ∧ bw_E (i + 1) < b + 1 then 1 else 0) + (if a ≤ bw_O (i + 1) ∧ bw_O (i + 1) < b + 1 then 1 else 0)) = bw_cn (lwB 2) a (b + 1 - a) := by
    rw [bw_sm_add, hE, hO]
    unfold bw_cn
    rw [← bw_sm_add]
    exact bw_sm_cong _ (fun i hi => bw_mir (by omega) (by omega))
  rw [← hN]
  refine loopF_run 999 (fun i => (nI (bw_sm i (fun i => (if a ≤ bw_E (i + 1) ∧ bw_E (i + 1) < b + 1 then 1 else 0) + (if a ≤ bw_O (i + 1) ∧ bw_O (i + 1) < b + 1 then 1 else 0))), nI (i + 1))) _ (fun i hi K => ?_) (fun K => ?_) (FU_gt (by omega))
  · exact bw_mstep K (by omega) hb (by omega) (by omega)
  · show bX4_countMirrored_4 K (nI a) (nI b) _ (nI (999 + 1)) = _
    unfold bX4_countMirrored_4
    rw [if_pos (by decide)]
/-! both sides -/
theorem c_countBetween {l a b : Nat} (hl : l ≤ 4) (ha : 1 ≤ a) (hab : a ≤ b) (hb : b ≤ 100000) : fX4_countBetween bw_PM bw_DM (nI l) (nI a) (nI b) = some (nI (bw_cn (lwB l) a (b + 1 - a))) := by
  unfold fX4_countBetween
  have hl5 : l = 0 ∨ l = 1 ∨ l = 2 ∨ l = 3 ∨ l = 4 := by omega
  rcases hl5 with rfl | rfl | rfl | rfl | rfl
  · rw [if_pos (show nI 0 = 0 from rfl), c_countMarks _ hab hb, bw_cn_cong (fun v h1 h2 => bw_PM_is (by omega) (by omega))]
  · rw [if_neg (show ¬ nI 1 = 0 by decide), if_pos (show nI 1 = 1 from rfl), bw_squares ha hab hb]
  · rw [if_neg (show ¬ nI 2 = 0 by decide), if_neg (show ¬ nI 2 = 1 by decide), if_pos (show nI 2 = 2 from rfl), c_countMirrored ha hab hb]
  · rw [if_neg (show ¬ nI 3 = 0 by decide), if_neg (show ¬ nI 3 = 1 by decide), if_neg (show ¬ nI 3 = 2 by decide), if_pos (show nI 3 = 3 from rfl), c_countMarks _ hab hb, bw_cn_cong (fun v h1 h2 => bw_DM_is (by omega) (by omega))]
  · rw [if_neg (show ¬ nI 4 = 0 by decide), if_neg (show ¬ nI 4 = 1 by decide), if_neg (show ¬ nI 4 = 2 by decide), if_neg (show ¬ nI 4 = 3 by decide), c_countPowers ha hab hb]
theorem r_bows (a1 a2 a3 : Int32) : ∃ r, fX9_bows bw_PM bw_DM a1 a2 a3 = some r ∧ fX10_bows a1 a2 a3 = some r := by
  unfold fX9_bows fX10_bows
  rw [isLaw_is]
  rcases win a1 0 4 (by decide) (by decide) with ⟨e1, e2⟩ | ⟨l, _, hl, rfl, e1, e2⟩
  · exact ⟨-2, by rw [show fX9_isWithin a1 0 4 = some 0 from e1]; rfl, by rw [show fX10_in a1 0 4 = some 0 from e2]; rfl⟩
  · rw [show fX9_isWithin (nI l) 0 4 = some 1 from e1, show fX10_in (nI l) 0 4 = some 1 from e2, bnd_some, bnd_some, if_neg n10, if_neg n10]
    rcases win a2 1 100000 (by decide) (by decide) with ⟨e1, e2⟩ | ⟨a, ha, ha2, rfl, e1, e2⟩
    · exact ⟨-2, by rw [show fX9_isWithin a2 1 100000 = some 0 from e1]; rfl, by rw [show fX10_in a2 1 100000 = some 0 from e2]; rfl⟩
    · rw [show fX9_isWithin (nI a) 1 100000 = some 1 from e1, show fX10_in (nI a) 1 100000 = some 1 from e2, bnd_some, bnd_some, if_neg n10, if_neg n10]
      rcases win a3 1 100000 (by decide) (by decide) with ⟨e1, e2⟩ | ⟨b, hb, hb2, rfl, e1, e2⟩
      · exact ⟨-2, by rw [show fX9_isWithin a3 1 100000 = some 0 from e1]; rfl, by rw [show fX10_in a3 1 100000 = some 0 from e2]; rfl⟩
      · rw [show fX9_isWithin (nI b) 1 100000 = some 1 from e1, show fX10_in (nI b) 1 100000 = some 1 from e2, bnd_some, bnd_some, if_neg n10, if_neg n10]
        refine ⟨nI (bw_cn (lwB l) a (b + 1 - a)), ?_, m_bowsLoop hl ha ha2 hb2⟩
        by_cases h : a ≤ b
        · rw [if_pos (nI_le h (by omega)), c_countBetween hl ha h hb2]
        · rw [if_neg (nI_ge (by omega) (by omega)), show b + 1 - a = 0 by omega]; rfl
