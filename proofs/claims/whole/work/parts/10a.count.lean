/-! Counting: sums over a stretch; how many bits a word of 64 has. -/
def bw_sm : Nat → (Nat → Nat) → Nat
  | 0, _ => 0
  | n + 1, f => bw_sm n f + f n
theorem bw_sm_cong {f g : Nat → Nat} : ∀ n, (∀ i, i < n → f i = g i) → bw_sm n f = bw_sm n g
  | 0, _ => rfl
  | n + 1, h => by
    show bw_sm n f + f n = bw_sm n g + g n
    rw [bw_sm_cong n (fun i hi => h i (by omega)), h n (by omega)]
theorem bw_sm_add {f g : Nat → Nat} : ∀ n, bw_sm n (fun i => f i + g i) = bw_sm n f + bw_sm n g
  | 0 => rfl
  | n + 1 => by
    show bw_sm n (fun i => f i + g i) + (f n + g n) = (bw_sm n f + f n) + (bw_sm n g + g n)
    rw [bw_sm_add n]; omega
theorem bw_sm_zero : ∀ n, bw_sm n (fun _ => 0) = 0
  | 0 => rfl
  | n + 1 => by show bw_sm n (fun _ => 0) + 0 = 0; rw [bw_sm_zero n]
theorem bw_sm_none {f : Nat → Nat} (n : Nat) (h : ∀ i, i < n → f i = 0) : bw_sm n f = 0 := by rw [bw_sm_cong (g := fun _ => 0) n h, bw_sm_zero]
theorem bw_sm_swap {f : Nat → Nat → Nat} (m : Nat) : ∀ n, bw_sm n (fun i => bw_sm m (fun j => f i j)) = bw_sm m (fun j => bw_sm n (fun i => f i j))
  | 0 => (bw_sm_zero m).symm
  | n + 1 => by
    show bw_sm n (fun i => bw_sm m (fun j => f i j)) + bw_sm m (fun j => f n j) = bw_sm m (fun j => bw_sm n (fun i => f i j) + f n j)
    rw [bw_sm_add m, bw_sm_swap m n]
theorem bw_sm_one (k : Nat) : ∀ n, bw_sm n (fun i => if i = k then 1 else 0) = if k < n then 1 else 0
  | 0 => by rw [if_neg (by omega)]; rfl
  | n + 1 => by
    show bw_sm n (fun i => if i = k then 1 else 0) + (if n = k then 1 else 0) = _
    rw [bw_sm_one k n]
    by_cases h1 : k < n
    · rw [if_pos h1, if_neg (by omega), if_pos (by omega)]
    · by_cases h2 : n = k
      · rw [if_neg h1, if_pos h2, if_pos (by omega)]
      · rw [if_neg h1, if_neg h2, if_neg (by omega)]
theorem bw_sm_split (f : Nat → Nat) (n : Nat) : ∀ m, bw_sm (n + m) f = bw_sm n f + bw_sm m (fun i => f (n + i))
  | 0 => rfl
  | m + 1 => by
    show bw_sm (n + m) f + f (n + m) = bw_sm n f + (bw_sm m (fun i => f (n + i)) + f (n + m))
    rw [bw_sm_split f n m]; omega
/-- of how many of the n numbers from a on f holds -/
def bw_cn (f : Nat → Bool) (a n : Nat) : Nat := bw_sm n (fun i => if f (a + i) then 1 else 0)
theorem bw_cn_s (f : Nat → Bool) (a n : Nat) : bw_cn f a (n + 1) = bw_cn f a n + if f (a + n) then 1 else 0 := rfl
theorem bw_cn_le (f : Nat → Bool) (a : Nat) : ∀ n, bw_cn f a n ≤ n
  | 0 => Nat.le_refl _
  | n + 1 => by
    rw [bw_cn_s]
    have := bw_cn_le f a n
    split <;> omega
theorem bw_cn_cong {f g : Nat → Bool} {a n : Nat} (h : ∀ v, a ≤ v → v < a + n → f v = g v) : bw_cn f a n = bw_cn g a n :=
  bw_sm_cong n (fun i hi => by rw [h (a + i) (by omega) (by omega)])
theorem bw_cn_split (f : Nat → Bool) (a n m : Nat) : bw_cn f a (n + m) = bw_cn f a n + bw_cn f (a + n) m := by
  unfold bw_cn
  rw [bw_sm_split]
  congr 1
  exact bw_sm_cong m (fun i _ => by rw [Nat.add_assoc])
/-- a number within a stretch is one of them -/
theorem bw_in (x a n : Nat) : bw_sm n (fun j => if x = a + j then 1 else 0) = if a ≤ x ∧ x < a + n then 1 else 0 := by
  by_cases h : a ≤ x
  · rw [bw_sm_cong (g := fun i => if i = x - a then 1 else 0) n (fun i _ => by
      by_cases e : x = a + i
      · rw [if_pos e, if_pos (by omega)]
      · rw [if_neg e, if_neg (by omega)]), bw_sm_one]
    by_cases h2 : x < a + n
    · rw [if_pos (by omega), if_pos ⟨h, h2⟩]
    · rw [if_neg (by omega), if_neg (fun z => h2 z.2)]
  · rw [if_neg (fun z => h z.1)]
    exact bw_sm_none n (fun i _ => if_neg (by omega))
/-- counting by a list g of m numbers that names each number of the stretch just once -/
theorem bw_list {f : Nat → Bool} {g : Nat → Nat} {a n m : Nat} (h : ∀ v, a ≤ v → v < a + n → bw_sm m (fun i => if g i = v then 1 else 0) = if f v then 1 else 0) : bw_sm m (fun i => if a ≤ g i ∧ g i < a + n then 1 else 0) = bw_cn f a n := by
  unfold bw_cn
  rw [bw_sm_cong (f := fun i => if f (a + i) then 1 else 0) (g := fun j => bw_sm m (fun i => if g i = a + j then 1 else 0)) n (fun i hi => (h (a + i) (by omega) (by omega)).symm), bw_sm_swap]
  exact bw_sm_cong m (fun i _ => (bw_in (g i) a n).symm)
/-! the reference's count -/
theorem m_bowsLoop {l a b : Nat} (hl : l ≤ 4) (ha : 1 ≤ a) (ha2 : a ≤ 100000) (hb : b ≤ 100000) : loopF (fun k q => bX10_bows_38 k (nI l) (nI b) q.1 q.2) FU (0, nI a) = some (nI (bw_cn (lwB l) a (b + 1 - a))) := by
  refine loopF_run (b + 1 - a) (fun i => (nI (bw_cn (lwB l) a i), nI (a + i))) _ (fun i hi K => ?_) (fun K => ?_) (FU_gt (by omega))
  · show bX10_bows_38 K (nI l) (nI b) (nI (bw_cn (lwB l) a i)) (nI (a + i)) = K (nI (bw_cn (lwB l) a (i + 1)), nI (a + (i + 1)))
    unfold bX10_bows_38 bX10_bows_60
    rw [if_neg (nI_nlt (by omega) (by omega)), (law_both hl (by omega)).2, bnd_some, bw_cn_s, nI_1]
    cases hb : lwB l (a + i) with
    | true => rw [if_neg (by decide), show nI (bw_cn (lwB l) a i) + 1 = _ from nI_1 _]; rfl
    | false => rw [if_pos (by decide), show nI (bw_cn (lwB l) a i) + 0 = _ from nI_add _ 0]; rfl
  · show bX10_bows_38 K (nI l) (nI b) (nI (bw_cn (lwB l) a (b + 1 - a))) (nI (a + (b + 1 - a))) = _
    unfold bX10_bows_38
    rw [if_pos (nI_lt (by omega) (by omega))]
/-! rows of kit/laws/BITS.to-paste -/
theorem wb_tb (n : Nat) : (lN n).toBitVec = BitVec.ofNat 64 n := rfl
theorem wb_inj {a b : Int64} (h : a.toBitVec = b.toBitVec) : a = b := Int64.toBitVec_inj.mp h
theorem wb_tn {n : Nat} (h : n < 2 ^ 64) : (lN n).toBitVec.toNat = n := by rw [wb_tb, BitVec.toNat_ofNat, Nat.mod_eq_of_lt h]
theorem wb_of (x : Int64) : ∃ n, n < 2 ^ 64 ∧ x = lN n := ⟨x.toBitVec.toNat, x.toBitVec.isLt, wb_inj (by rw [wb_tb]; simp)⟩
theorem wb_of32 (x : Int32) : ∃ n, n < 2 ^ 32 ∧ x = nI n := ⟨x.toBitVec.toNat, x.toBitVec.isLt, Int32.toBitVec_inj.mp (by show _ = BitVec.ofNat 32 _; simp)⟩
theorem wb_c : ∀ k, k < 64 → ((nI k).toInt64 &&& 63) = lN k := by decide +kernel
theorem wb_cu : ∀ k, k < 64 → ((nI k).toInt64.toUInt64 &&& Int64.toUInt64 63) = UInt64.ofNat k := by decide +kernel
theorem wb_shr {n k : Nat} (hn : n < 2 ^ 64) (hk : k < 64) : ((lN n).toUInt64 >>> ((nI k).toInt64.toUInt64 &&& Int64.toUInt64 63)).toInt64 = lN (n / 2 ^ k) := by
  rw [wb_cu k hk]
  apply wb_inj
  apply BitVec.eq_of_toNat_eq
  show ((lN n).toUInt64 >>> UInt64.ofNat k).toNat = (BitVec.ofNat 64 _).toNat
  have h1 : (UInt64.ofNat k).toNat = k := by
    show (BitVec.ofNat 64 k).toNat = k
    rw [BitVec.toNat_ofNat, Nat.mod_eq_of_lt (by omega)]
  have h2 : (lN n).toUInt64.toNat = n := wb_tn hn
  rw [UInt64.toNat_shiftRight, h1, h2, Nat.mod_eq_of_lt hk, Nat.shiftRight_eq_div_pow, BitVec.toNat_ofNat, Nat.mod_eq_of_lt (Nat.lt_of_le_of_lt (Nat.div_le_self _ _) hn)]
theorem wb_and {a b : Nat} (ha : a < 2 ^ 64) (hb : b < 2 ^ 64) : lN a &&& lN b = lN (a &&& b) := by
  apply wb_inj
  rw [Int64.toBitVec_and, wb_tb, wb_tb, wb_tb]
  apply BitVec.eq_of_toNat_eq
  rw [BitVec.toNat_and, BitVec.toNat_ofNat, BitVec.toNat_ofNat, BitVec.toNat_ofNat, Nat.mod_eq_of_lt ha, Nat.mod_eq_of_lt hb, Nat.mod_eq_of_lt (Nat.and_lt_two_pow _ hb)]
theorem ts_bit {w : Int64} {s : UInt64} {j : Nat} (hj : j < 64) (hs : s.toNat = j) : ((w.toUInt64 >>> s).toInt64 &&& 1) = 0 ↔ w.toBitVec.getLsbD j = false := by
  have e : (w.toUInt64 >>> s).toInt64.toBitVec = w.toBitVec >>> j := by
    apply BitVec.eq_of_toNat_eq
    show (w.toUInt64 >>> s).toNat = _
    rw [UInt64.toNat_shiftRight, hs, Nat.mod_eq_of_lt hj, BitVec.toNat_ushiftRight]
    rfl
  rw [← Int64.toBitVec_inj, Int64.toBitVec_and, e]
  show w.toBitVec >>> j &&& 1#64 = 0#64 ↔ _
  constructor
  · intro h
    have t := congrArg (fun x => x.getLsbD 0) h
    simpa using t
  · intro h
    apply BitVec.eq_of_getLsbD_eq
    intro i hi
    cases i with
    | zero => simp [h]
    | succ i => simp
/-! bits of a word -/
theorem bw_and (m M : Nat) {c d : Nat} (hc : c < 256) (hd : d < 256) : (256 * m + c) &&& (256 * M + d) = 256 * (m &&& M) + (c &&& d) := by
  apply Nat.eq_of_testBit_eq
  intro i
  have h1 : c &&& d < 2 ^ 8 := Nat.lt_of_le_of_lt Nat.and_le_left hc
  rw [Nat.testBit_and, show 256 * m + c = 2 ^ 8 * m + c from rfl, show 256 * M + d = 2 ^ 8 * M + d from rfl, show 256 * (m &&& M) + (c &&& d) = 2 ^ 8 * (m &&& M) + (c &&& d) from rfl, Nat.testBit_two_pow_mul_add m hc, Nat.testBit_two_pow_mul_add M hd, Nat.testBit_two_pow_mul_add (m &&& M) h1]
  by_cases h : i < 8
  · rw [if_pos h, if_pos h, if_pos h, Nat.testBit_and]
  · rw [if_neg h, if_neg h, if_neg h, Nat.testBit_and]
def bw_M (c : Nat) : Nat → Nat
  | 0 => 0
  | k + 1 => 256 * bw_M c k + c
def bw_1 (k n : Nat) : Nat := n - ((n / 2) &&& bw_M 85 k)
def bw_2 (k y : Nat) : Nat := (y &&& bw_M 51 k) + ((y / 4) &&& bw_M 51 k)
def bw_3 (k y : Nat) : Nat := (y + y / 16) &&& bw_M 15 k
def bw_c1 (b : Nat) : Nat := b - ((b / 2) &&& 85)
def bw_c2 (c : Nat) : Nat := (c &&& 51) + ((c / 4) &&& 51)
def bw_c3 (d : Nat) : Nat := (d + d / 16) &&& 15
theorem bw_d1 : ∀ b, b < 256 → ∀ t, t < 2 → (128 * t + b / 2) &&& 85 = (b / 2) &&& 85 := by decide +kernel
theorem bw_d2 : ∀ c, c < 256 → ∀ t, t < 4 → (64 * t + c / 4) &&& 51 = (c / 4) &&& 51 := by decide +kernel
theorem bw_d2b : ∀ c, c < 256 → bw_c2 c < 256 ∧ bw_c2 c % 16 ≤ 6 ∧ bw_c2 c / 16 ≤ 6 := by decide +kernel
theorem bw_d3 : ∀ d, d < 112 → ∀ t, t < 7 → (d + d / 16 + 16 * t) &&& 15 = (d + d / 16) &&& 15 := by decide +kernel
theorem bw_d4 : ∀ b, b < 256 → bw_c1 b < 256 ∧ bw_c3 (bw_c2 (bw_c1 b)) = pop8 b ∧ pop8 b ≤ 8 ∧ bw_sm 8 (fun i => if b.testBit i then 1 else 0) = pop8 b := by decide +kernel
theorem bw_s1 (k m b : Nat) (hb : b < 256) : bw_1 (k + 1) (256 * m + b) = 256 * bw_1 k m + bw_c1 b := by
  unfold bw_1 bw_c1
  have e : (256 * m + b) / 2 = 256 * (m / 2) + (128 * (m % 2) + b / 2) := by omega
  have h1 : (m / 2) &&& bw_M 85 k ≤ m / 2 := Nat.and_le_left
  have h2 : (b / 2) &&& 85 ≤ b / 2 := Nat.and_le_left
  rw [e]
  show 256 * m + b - ((256 * (m / 2) + (128 * (m % 2) + b / 2)) &&& (256 * bw_M 85 k + 85)) = _
  rw [bw_and _ _ (by omega) (by omega), bw_d1 b hb (m % 2) (by omega)]
  omega
theorem bw_s2 (k y c : Nat) (hc : c < 256) : bw_2 (k + 1) (256 * y + c) = 256 * bw_2 k y + bw_c2 c := by
  unfold bw_2 bw_c2
  have e : (256 * y + c) / 4 = 256 * (y / 4) + (64 * (y % 4) + c / 4) := by omega
  rw [e]
  show ((256 * y + c) &&& (256 * bw_M 51 k + 51)) + ((256 * (y / 4) + (64 * (y % 4) + c / 4)) &&& (256 * bw_M 51 k + 51)) = _
  rw [bw_and _ _ hc (by omega), bw_and _ _ (by omega) (by omega), bw_d2 c hc (y % 4) (by omega)]
  omega
theorem bw_2n : ∀ (k y : Nat), bw_2 k y % 16 ≤ 6
  | 0, y => by unfold bw_2; simp [bw_M]
  | k + 1, y => by
    have e : y = 256 * (y / 256) + y % 256 := by omega
    have hc : y % 256 < 256 := Nat.mod_lt _ (by decide)
    rw [e, bw_s2 k _ _ hc]
    have := (bw_d2b _ hc).2.1
    omega
theorem bw_s3 (k z d : Nat) (hz : z % 16 ≤ 6) (h1 : d % 16 ≤ 6) (h2 : d / 16 ≤ 6) : bw_3 (k + 1) (256 * z + d) = 256 * bw_3 k z + bw_c3 d := by
  unfold bw_3 bw_c3
  have e : (256 * z + d) + (256 * z + d) / 16 = 256 * (z + z / 16) + (d + d / 16 + 16 * (z % 16)) := by omega
  rw [e]
  show (256 * (z + z / 16) + (d + d / 16 + 16 * (z % 16))) &&& (256 * bw_M 15 k + 15) = _
  rw [bw_and _ _ (by omega) (by omega), bw_d3 d (by omega) (z % 16) (by omega)]
def bw_g : Nat → Nat → Nat
  | 0, _ => 0
  | k + 1, n => 256 * bw_g k (n / 256) + pop8 (n % 256)
theorem bw_gv : ∀ (k n : Nat), bw_3 k (bw_2 k (bw_1 k n)) = bw_g k n
  | 0, n => by unfold bw_3; simp [bw_M, bw_g]
  | k + 1, n => by
    have e : n = 256 * (n / 256) + n % 256 := by omega
    have hb : n % 256 < 256 := Nat.mod_lt _ (by decide)
    obtain ⟨q1, q2, _, _⟩ := bw_d4 _ hb
    obtain ⟨_, q4, q5⟩ := bw_d2b _ q1
    show _ = 256 * bw_g k (n / 256) + pop8 (n % 256)
    rw [show bw_1 (k + 1) n = bw_1 (k + 1) (256 * (n / 256) + n % 256) by rw [← e], bw_s1 k _ _ hb, bw_s2 k _ _ q1, bw_s3 k _ _ (bw_2n k _) q4 q5, bw_gv k, q2]
def bw_p : Nat → Nat → Nat
  | 0, _ => 0
  | k + 1, n => pop8 (n % 256) + bw_p k (n / 256)
theorem bw_pb : ∀ (k n : Nat), bw_sm (8 * k) (fun i => if n.testBit i then 1 else 0) = bw_p k n
  | 0, n => rfl
  | k + 1, n => by
    rw [show 8 * (k + 1) = 8 + 8 * k by omega, bw_sm_split]
    show _ = pop8 (n % 256) + bw_p k (n / 256)
    rw [← bw_pb k (n / 256), ← (bw_d4 _ (Nat.mod_lt n (by decide))).2.2.2]
    congr 1
    · refine bw_sm_cong 8 (fun i hi => ?_)
      rw [show n % 256 = n % 2 ^ 8 from rfl, Nat.testBit_mod_two_pow, show decide (i < 8) = true from decide_eq_true hi, Bool.true_and]
    · refine bw_sm_cong (8 * k) (fun i _ => ?_)
      rw [show n / 256 = n / 2 ^ 8 from rfl, Nat.testBit_div_two_pow, Nat.add_comm]
theorem bw_dv1 {A B c : Nat} (h : c ≤ 64) (e : A = 256 * B + c) : A / 256 = B := by omega
theorem bw_dv2 {A B E c d : Nat} (h : c ≤ 64) (h2 : d ≤ 64) (e : A = 256 * B + c) (e2 : B = 256 * E + d) : A / 65536 = E := by omega
theorem bw_dv4 {A B E F G c d f g : Nat} (h : c ≤ 64) (h2 : d ≤ 64) (h3 : f ≤ 64) (h4 : g ≤ 64) (e : A = 256 * B + c) (e2 : B = 256 * E + d) (e3 : E = 256 * F + f) (e4 : F = 256 * G + g) : A / 4294967296 = G := by
  have q1 := bw_dv2 h h2 e e2
  have q2 := bw_dv2 h3 h4 e3 e4
  rw [show 4294967296 = 65536 * 65536 from rfl, ← Nat.div_div_eq_div_mul, q1, q2]
theorem bw_md {A B E F c d s : Nat} (e : A = 256 * B + c) (e2 : E = 256 * F + d) (h : c + d ≤ 64) (hs : c + d = s) : (A + E) % 128 = s := by omega
theorem bw_le {A B c X : Nat} (e : A = 256 * B + c) (h : c ≤ 8) (hB : B ≤ X) : A ≤ 256 * X + 8 := by omega
theorem bw_sum {A B E F G c d : Nat} (e : A = 256 * B + c) (e2 : E = 256 * F + d) (hG : G = B + F) : A + E = 256 * G + (c + d) := by omega
theorem bw_fold (c0 c1 c2 c3 c4 c5 c6 c7 i : Nat) (h0 : c0 ≤ 8) (h1 : c1 ≤ 8) (h2 : c2 ≤ 8) (h3 : c3 ≤ 8) (h4 : c4 ≤ 8) (h5 : c5 ≤ 8) (h6 : c6 ≤ 8) (h7 : c7 ≤ 8)
    (e : i = 256 * (256 * (256 * (256 * (256 * (256 * (256 * (256 * 0 + c7) + c6) + c5) + c4) + c3) + c2) + c1) + c0) :
    i + i / 256 < 2 ^ 62 ∧ i + i / 256 + (i + i / 256) / 65536 < 2 ^ 63 ∧ (i + i / 256 + (i + i / 256) / 65536 + (i + i / 256 + (i + i / 256) / 65536) / 4294967296) % 128 = c0 + (c1 + (c2 + (c3 + (c4 + (c5 + (c6 + (c7 + 0))))))) := by
  obtain ⟨A7, e7⟩ : ∃ A, A = 256 * 0 + c7 := ⟨_, rfl⟩
  obtain ⟨A6, e6⟩ : ∃ A, A = 256 * A7 + c6 := ⟨_, rfl⟩
  obtain ⟨A5, e5⟩ : ∃ A, A = 256 * A6 + c5 := ⟨_, rfl⟩
  obtain ⟨A4, e4⟩ : ∃ A, A = 256 * A5 + c4 := ⟨_, rfl⟩
  obtain ⟨A3, e3⟩ : ∃ A, A = 256 * A4 + c3 := ⟨_, rfl⟩
  obtain ⟨A2, e2⟩ : ∃ A, A = 256 * A3 + c2 := ⟨_, rfl⟩
  obtain ⟨A1, e1⟩ : ∃ A, A = 256 * A2 + c1 := ⟨_, rfl⟩
  rw [← e7, ← e6, ← e5, ← e4, ← e3, ← e2, ← e1] at e
  have b7 : A7 ≤ 8 := by rw [e7]; simpa using h7
  have b6 := bw_le e6 h6 b7
  have b5 := bw_le e5 h5 b6
  have b4 := bw_le e4 h4 b5
  have b3 := bw_le e3 h3 b4
  have b2 := bw_le e2 h2 b3
  have b1 := bw_le e1 h1 b2
  have b0 := bw_le e h0 b1
  have q1 : i / 256 = A1 := bw_dv1 (Nat.le_trans h0 (by decide)) e
  rw [q1]
  have s0 : i + A1 = 256 * (A1 + A2) + (c0 + c1) := bw_sum e e1 rfl
  have s1 : A1 + A2 = 256 * (A2 + A3) + (c1 + c2) := bw_sum e1 e2 rfl
  have s2 : A2 + A3 = 256 * (A3 + A4) + (c2 + c3) := bw_sum e2 e3 rfl
  have s3 : A3 + A4 = 256 * (A4 + A5) + (c3 + c4) := bw_sum e3 e4 rfl
  have s4 : A4 + A5 = 256 * (A5 + A6) + (c4 + c5) := bw_sum e4 e5 rfl
  have s5 : A5 + A6 = 256 * (A6 + A7) + (c5 + c6) := bw_sum e5 e6 rfl
  have s6 : A6 + A7 = 256 * (A7 + 0) + (c6 + c7) := bw_sum e6 e7 rfl
  have q2 : (i + A1) / 65536 = A2 + A3 := bw_dv2 (by clear e e1 e2 e3 e4 e5 e6 e7 s0 s1 s2 s3 s4 s5 s6 q1 b0 b1 b2 b3 b4 b5 b6 b7; omega) (by clear e e1 e2 e3 e4 e5 e6 e7 s0 s1 s2 s3 s4 s5 s6 q1 b0 b1 b2 b3 b4 b5 b6 b7; omega) s0 s1
  rw [q2]
  have t0 : i + A1 + (A2 + A3) = 256 * (A1 + A2 + (A3 + A4)) + (c0 + c1 + (c2 + c3)) := bw_sum s0 s2 rfl
  have t1 : A1 + A2 + (A3 + A4) = 256 * (A2 + A3 + (A4 + A5)) + (c1 + c2 + (c3 + c4)) := bw_sum s1 s3 rfl
  have t2 : A2 + A3 + (A4 + A5) = 256 * (A3 + A4 + (A5 + A6)) + (c2 + c3 + (c4 + c5)) := bw_sum s2 s4 rfl
  have t3 : A3 + A4 + (A5 + A6) = 256 * (A4 + A5 + (A6 + A7)) + (c3 + c4 + (c5 + c6)) := bw_sum s3 s5 rfl
  have t4 : A4 + A5 + (A6 + A7) = 256 * (A5 + A6 + (A7 + 0)) + (c4 + c5 + (c6 + c7)) := bw_sum s4 s6 rfl
  have q3 : (i + A1 + (A2 + A3)) / 4294967296 = A4 + A5 + (A6 + A7) := by
    refine bw_dv4 ?_ ?_ ?_ ?_ t0 t1 t2 t3 <;> (clear e e1 e2 e3 e4 e5 e6 e7 s0 s1 s2 s3 s4 s5 s6 q1 q2 b0 b1 b2 b3 b4 b5 b6 b7 t0 t1 t2 t3 t4; omega)
  refine ⟨?_, ?_, ?_⟩
  · clear e e1 e2 e3 e4 e5 e6 e7 s0 s1 s2 s3 s4 s5 s6 q1 q2 q3 b2 b3 b4 b5 b6 b7 t0 t1 t2 t3 t4
    simp only [Nat.reduceMul, Nat.reduceAdd] at b0 b1
    omega
  · clear e e1 e2 e3 e4 e5 e6 e7 s0 s1 s2 s3 s4 s5 s6 q1 q2 q3 b4 b5 b6 b7 t0 t1 t2 t3 t4
    simp only [Nat.reduceMul, Nat.reduceAdd] at b0 b1 b2 b3
    omega
  · rw [q3]
    refine bw_md t0 t4 ?_ ?_ <;> (clear e e1 e2 e3 e4 e5 e6 e7 s0 s1 s2 s3 s4 s5 s6 q1 q2 q3 b0 b1 b2 b3 b4 b5 b6 b7 t0 t1 t2 t3 t4; omega)
theorem bw_pop8le (n : Nat) : pop8 (n % 256) ≤ 8 := (bw_d4 _ (Nat.mod_lt n (by decide))).2.2.1
theorem bw_k85 : bw_M 85 8 = 6148914691236517205 := by decide +kernel
theorem bw_k51 : bw_M 51 8 = 3689348814741910323 := by decide +kernel
theorem bw_k15 : bw_M 15 8 = 1085102592571150095 := by decide +kernel
theorem bw_e1 {n : Nat} (h : n < 2 ^ 64) : lN n - ((((lN n).toUInt64 >>> ((1 : Int32).toInt64.toUInt64 &&& Int64.toUInt64 63)).toInt64) &&& 6148914691236517205) = lN (bw_1 8 n) := by
  have a1 : n / 2 &&& 6148914691236517205 ≤ n / 2 := Nat.and_le_left
  have c1 : ((lN n).toUInt64 >>> ((1 : Int32).toInt64.toUInt64 &&& Int64.toUInt64 63)).toInt64 = lN (n / 2) := wb_shr (k := 1) h (by decide)
  have c2 : lN (n / 2) &&& 6148914691236517205 = lN (n / 2 &&& 6148914691236517205) := wb_and (b := 6148914691236517205) (by omega) (by decide)
  rw [c1, c2, lN_sub (by omega)]
  unfold bw_1
  rw [bw_k85]
theorem bw_l1 {n : Nat} (h : n < 2 ^ 64) : bw_1 8 n < 2 ^ 64 := by
  unfold bw_1
  generalize n / 2 &&& bw_M 85 8 = z
  omega
theorem bw_e2 {y : Nat} (h : y < 2 ^ 64) : (lN y &&& 3689348814741910323) + ((((lN y).toUInt64 >>> ((2 : Int32).toInt64.toUInt64 &&& Int64.toUInt64 63)).toInt64) &&& 3689348814741910323) = lN (bw_2 8 y) := by
  have c1 : ((lN y).toUInt64 >>> ((2 : Int32).toInt64.toUInt64 &&& Int64.toUInt64 63)).toInt64 = lN (y / 4) := wb_shr (k := 2) h (by decide)
  have c2 : lN y &&& 3689348814741910323 = lN (y &&& 3689348814741910323) := wb_and (b := 3689348814741910323) h (by decide)
  have c3 : lN (y / 4) &&& 3689348814741910323 = lN (y / 4 &&& 3689348814741910323) := wb_and (b := 3689348814741910323) (by omega) (by decide)
  rw [c1, c2, c3, lN_add]
  unfold bw_2
  rw [bw_k51]
theorem bw_l2 (y : Nat) : bw_2 8 y < 2 ^ 63 := by
  have a2 : y &&& bw_M 51 8 ≤ bw_M 51 8 := Nat.and_le_right
  have a3 : (y / 4) &&& bw_M 51 8 ≤ bw_M 51 8 := Nat.and_le_right
  unfold bw_2
  rw [bw_k51] at a2 a3 ⊢
  omega
theorem bw_e3 {z : Nat} (h : z < 2 ^ 63) : (lN z + (((lN z).toUInt64 >>> ((4 : Int32).toInt64.toUInt64 &&& Int64.toUInt64 63)).toInt64)) &&& 1085102592571150095 = lN (bw_3 8 z) := by
  have c1 : ((lN z).toUInt64 >>> ((4 : Int32).toInt64.toUInt64 &&& Int64.toUInt64 63)).toInt64 = lN (z / 16) := wb_shr (k := 4) (by omega) (by decide)
  have c2 : lN (z + z / 16) &&& 1085102592571150095 = lN ((z + z / 16) &&& 1085102592571150095) := wb_and (b := 1085102592571150095) (by omega) (by decide)
  rw [c1, lN_add, c2]
  unfold bw_3
  rw [bw_k15]
theorem bw_fin {G s : Nat} (f1 : G + G / 256 < 2 ^ 62) (f2 : G + G / 256 + (G + G / 256) / 65536 < 2 ^ 63) (f3 : (G + G / 256 + (G + G / 256) / 65536 + (G + G / 256 + (G + G / 256) / 65536) / 4294967296) % 128 = s) :
    (((lN G + (((lN G : Int64).toUInt64 >>> ((8 : Int32).toInt64.toUInt64 &&& Int64.toUInt64 63)).toInt64) + (((lN G + (((lN G : Int64).toUInt64 >>> ((8 : Int32).toInt64.toUInt64 &&& Int64.toUInt64 63)).toInt64) : Int64).toUInt64 >>> ((16 : Int32).toInt64.toUInt64 &&& Int64.toUInt64 63)).toInt64)) + (((lN G + (((lN G : Int64).toUInt64 >>> ((8 : Int32).toInt64.toUInt64 &&& Int64.toUInt64 63)).toInt64) + (((lN G + (((lN G : Int64).toUInt64 >>> ((8 : Int32).toInt64.toUInt64 &&& Int64.toUInt64 63)).toInt64) : Int64).toUInt64 >>> ((16 : Int32).toInt64.toUInt64 &&& Int64.toUInt64 63)).toInt64) : Int64).toUInt64 >>> ((32 : Int32).toInt64.toUInt64 &&& Int64.toUInt64 63)).toInt64) : Int64).toInt32) &&& 127 = nI s := by
  have l0 : G < 2 ^ 64 := by clear f2 f3; omega
  have c1 : ((lN G).toUInt64 >>> ((8 : Int32).toInt64.toUInt64 &&& Int64.toUInt64 63)).toInt64 = lN (G / 256) := wb_shr (k := 8) l0 (by decide)
  rw [c1, lN_add]
  generalize G + G / 256 = E at f1 f2 f3
  have l1 : E < 2 ^ 64 := by clear f2 f3; omega
  have c2 : ((lN E).toUInt64 >>> ((16 : Int32).toInt64.toUInt64 &&& Int64.toUInt64 63)).toInt64 = lN (E / 65536) := wb_shr (k := 16) l1 (by decide)
  rw [c2, lN_add]
  generalize E + E / 65536 = F at f2 f3
  have l2 : F < 2 ^ 64 := by clear f3; omega
  have c3 : ((lN F).toUInt64 >>> ((32 : Int32).toInt64.toUInt64 &&& Int64.toUInt64 63)).toInt64 = lN (F / 4294967296) := wb_shr (k := 32) l2 (by decide)
  rw [c3, lN_add, lN_i]
  generalize F + F / 4294967296 = J at f3
  rw [pk_and (nI J) (m := 127) 7 (by decide), show (nI J).toBitVec.toNat = J % 2 ^ 32 from rfl, ← f3]
  congr 1
  clear f3 f2 f1
  omega
/-- Long.bitCount: how many bits -/
theorem c_bitCountL (x : Int64) : fJ13_bitCount_95d88 x = some (nI (bw_sm 64 (fun i => if x.toBitVec.getLsbD i then 1 else 0))) := by
  obtain ⟨n, hn⟩ : ∃ n, n = x.toBitVec.toNat := ⟨_, rfl⟩
  have hlt : n < 2 ^ 64 := by rw [hn]; exact x.toBitVec.isLt
  have hx : x = lN n := Int64.toBitVec_inj.mp (by show _ = BitVec.ofNat 64 n; rw [hn]; simp)
  have hbits : bw_sm 64 (fun i => if x.toBitVec.getLsbD i then 1 else 0) = bw_p 8 n := by
    rw [← bw_pb 8 n]
    exact bw_sm_cong 64 (fun i _ => by rw [hn]; rfl)
  rw [hbits, hx]
  clear hbits hn hx
  unfold fJ13_bitCount_95d88
  rw [bw_e1 hlt, bw_e2 (bw_l1 hlt), bw_e3 (bw_l2 _), bw_gv]
  have hfold := bw_fold (pop8 (n % 256)) (pop8 (n / 256 % 256)) (pop8 (n / 256 / 256 % 256)) (pop8 (n / 256 / 256 / 256 % 256)) (pop8 (n / 256 / 256 / 256 / 256 % 256)) (pop8 (n / 256 / 256 / 256 / 256 / 256 % 256)) (pop8 (n / 256 / 256 / 256 / 256 / 256 / 256 % 256)) (pop8 (n / 256 / 256 / 256 / 256 / 256 / 256 / 256 % 256)) (bw_g 8 n) (bw_pop8le _) (bw_pop8le _) (bw_pop8le _) (bw_pop8le _) (bw_pop8le _) (bw_pop8le _) (bw_pop8le _) (bw_pop8le _) (by unfold bw_g bw_g bw_g bw_g bw_g bw_g bw_g bw_g bw_g; rfl)
  obtain ⟨f1, f2, f3⟩ := hfold
  rw [bw_fin f1 f2 f3]
  unfold bw_p bw_p bw_p bw_p bw_p bw_p bw_p bw_p bw_p
  rfl
