
def gw (a w : Nat) : Nat := if a = 0 then w else if w = 0 then 1 else 0
def sm (f : Nat → Nat) : Nat → Nat
  | 0 => 0
  | n + 1 => sm f n + f n
theorem sm_cong {f g : Nat → Nat} : ∀ n, (∀ i, i < n → f i = g i) → sm f n = sm g n
  | 0, _ => rfl
  | n + 1, h => by
    show sm f n + f n = sm g n + g n
    rw [sm_cong n (fun i hi => h i (by omega)), h n (by omega)]
theorem sm_split {f : Nat → Nat} (a : Nat) : ∀ b, sm f (a + b) = sm f a + sm (fun i => f (a + i)) b
  | 0 => rfl
  | b + 1 => by
    show sm f (a + b) + f (a + b) = sm f a + (sm (fun i => f (a + i)) b + f (a + b))
    rw [sm_split a b]; omega
theorem sm_add {f g : Nat → Nat} : ∀ n, sm (fun i => f i + g i) n = sm f n + sm g n
  | 0 => rfl
  | n + 1 => by
    show sm (fun i => f i + g i) n + (f n + g n) = sm f n + f n + (sm g n + g n)
    rw [sm_add n]; omega
theorem sm_mul {f : Nat → Nat} (k : Nat) : ∀ n, sm (fun i => k * f i) n = k * sm f n
  | 0 => rfl
  | n + 1 => by
    show sm (fun i => k * f i) n + k * f n = k * (sm f n + f n)
    rw [sm_mul k n, Nat.mul_add]
def wl (p h c m : Nat) : Nat → Nat
  | 0 => c
  | i + 1 => if m.testBit i then h else wl p h c m i - p
def wt (q m : Nat) : Nat → Nat
  | 0 => 1
  | i + 1 => wt q m i * (if m.testBit i then q else 10 - q)
def AA (q p h c : Nat) (g : Nat → Nat) (n : Nat) : Nat := sm (fun m => wt q m n * g (wl p h c m n)) (2 ^ n)
def CA (q p h c : Nat) (g : Nat → Nat) (n : Nat) : Nat := sm (fun i => (10 - q) ^ i * q * 10 ^ (n - 1 - i) * g (h - i * p)) n + (10 - q) ^ n * g (c - n * p)
theorem wl_low {p h c m n : Nat} : ∀ i, i ≤ n → wl p h c (2 ^ n + m) i = wl p h c m i
  | 0, _ => rfl
  | i + 1, hi => by
    show (if (2 ^ n + m).testBit i then h else wl p h c (2 ^ n + m) i - p) = if m.testBit i then h else wl p h c m i - p
    rw [wl_low i (by omega), Nat.testBit_two_pow_add_gt (by omega)]
theorem wt_low {q m n : Nat} : ∀ i, i ≤ n → wt q (2 ^ n + m) i = wt q m i
  | 0, _ => rfl
  | i + 1, hi => by
    show wt q (2 ^ n + m) i * (if (2 ^ n + m).testBit i then q else 10 - q) = wt q m i * (if m.testBit i then q else 10 - q)
    rw [wt_low i (by omega), Nat.testBit_two_pow_add_gt (by omega)]
theorem AA_s (q p h c : Nat) (g : Nat → Nat) (n : Nat) : AA q p h c g (n + 1) = AA q p h c (fun w => (10 - q) * g (w - p) + q * g h) n := by
  unfold AA
  rw [Nat.pow_succ, Nat.mul_two, sm_split]
  rw [← sm_add]
  apply sm_cong
  intro m hm
  have h1 : m.testBit n = false := Nat.testBit_lt_two_pow hm
  have h2 : (2 ^ n + m).testBit n = true := by rw [Nat.testBit_two_pow_add_eq, h1]; rfl
  show wt q m n * (if m.testBit n then q else 10 - q) * g (if m.testBit n then h else wl p h c m n - p) + wt q (2 ^ n + m) n * (if (2 ^ n + m).testBit n then q else 10 - q) * g (if (2 ^ n + m).testBit n then h else wl p h c (2 ^ n + m) n - p) = wt q m n * ((10 - q) * g (wl p h c m n - p) + q * g h)
  rw [h1, h2, wt_low n (Nat.le_refl _)]
  simp only [if_true, if_false, Bool.false_eq_true]
  rw [Nat.mul_add, Nat.mul_assoc, Nat.mul_assoc]
theorem ten {q : Nat} (hq : q ≤ 10) : ∀ n, sm (fun i => (10 - q) ^ i * q * 10 ^ (n - 1 - i)) n + (10 - q) ^ n = 10 ^ n
  | 0 => rfl
  | n + 1 => by
    have e : sm (fun i => (10 - q) ^ i * q * 10 ^ (n + 1 - 1 - i)) n = 10 * sm (fun i => (10 - q) ^ i * q * 10 ^ (n - 1 - i)) n := by
      rw [← sm_mul]
      apply sm_cong
      intro i hi
      rw [show n + 1 - 1 - i = (n - 1 - i) + 1 by omega, Nat.pow_succ, Nat.mul_comm 10, Nat.mul_assoc ((10 - q) ^ i * q)]
    show sm (fun i => (10 - q) ^ i * q * 10 ^ (n + 1 - 1 - i)) n + (10 - q) ^ n * q * 10 ^ (n + 1 - 1 - n) + (10 - q) ^ (n + 1) = 10 ^ (n + 1)
    have := ten hq n
    rw [e, show n + 1 - 1 - n = 0 by omega, Nat.pow_succ, Nat.pow_succ, ← this, Nat.pow_zero, Nat.mul_one]
    have e3 : (10 - q) ^ n * q + (10 - q) ^ n * (10 - q) = (10 - q) ^ n * 10 := by rw [← Nat.mul_add, show q + (10 - q) = 10 by omega]
    generalize sm (fun i => (10 - q) ^ i * q * 10 ^ (n - 1 - i)) n = s at *
    generalize (10 - q) ^ n * q = u at *
    generalize (10 - q) ^ n * (10 - q) = v at *
    omega
theorem AA_CA {q : Nat} (hq : q ≤ 10) (p h c : Nat) : ∀ n g, AA q p h c g n = CA q p h c g n
  | 0, g => by
    show 0 + 1 * g c = 0 + 1 * g (c - 0 * p)
    rw [Nat.zero_mul, Nat.sub_zero]
  | n + 1, g => by
    rw [AA_s, AA_CA hq p h c n]
    unfold CA
    have e1 : sm (fun i => (10 - q) ^ i * q * 10 ^ (n + 1 - 1 - i) * g (h - i * p)) (n + 1) = q * 10 ^ n * g h + sm (fun i => (10 - q) ^ (i + 1) * q * 10 ^ (n - 1 - i) * g (h - (i + 1) * p)) n := by
      rw [Nat.add_comm n 1, sm_split]
      have : sm (fun i => (10 - q) ^ i * q * 10 ^ (1 + n - 1 - i) * g (h - i * p)) 1 = q * 10 ^ n * g h := by
        show 0 + (10 - q) ^ 0 * q * 10 ^ (1 + n - 1 - 0) * g (h - 0 * p) = _
        rw [Nat.zero_mul, Nat.sub_zero, Nat.zero_add, Nat.pow_zero, Nat.one_mul, Nat.sub_zero, show 1 + n - 1 = n by omega]
      rw [this]
      congr 1
      apply sm_cong
      intro i hi
      rw [show 1 + i = i + 1 by omega, show 1 + n - 1 - (i + 1) = n - 1 - i by omega]
    rw [e1]
    have e2 : sm (fun i => (10 - q) ^ i * q * 10 ^ (n - 1 - i) * ((10 - q) * g (h - i * p - p) + q * g h)) n = sm (fun i => (10 - q) ^ (i + 1) * q * 10 ^ (n - 1 - i) * g (h - (i + 1) * p)) n + q * g h * sm (fun i => (10 - q) ^ i * q * 10 ^ (n - 1 - i)) n := by
      rw [← sm_mul, ← sm_add]
      apply sm_cong
      intro i hi
      show (10 - q) ^ i * q * 10 ^ (n - 1 - i) * ((10 - q) * g (h - i * p - p) + q * g h) = (10 - q) ^ (i + 1) * q * 10 ^ (n - 1 - i) * g (h - (i + 1) * p) + q * g h * ((10 - q) ^ i * q * 10 ^ (n - 1 - i))
      rw [Nat.sub_sub h, show i * p + p = (i + 1) * p from (Nat.succ_mul i p).symm, Nat.mul_add, Nat.pow_succ, Nat.mul_comm (q * g h)]
      congr 1
      generalize g (h - (i + 1) * p) = x
      generalize (10 - q) ^ i = y
      generalize 10 ^ (n - 1 - i) = z
      simp only [Nat.mul_assoc, Nat.mul_left_comm, Nat.mul_comm]
    show sm (fun i => (10 - q) ^ i * q * 10 ^ (n - 1 - i) * ((10 - q) * g (h - i * p - p) + q * g h)) n + (10 - q) ^ n * ((10 - q) * g (c - n * p - p) + q * g h) = _
    rw [e2, Nat.sub_sub c, show n * p + p = (n + 1) * p from (Nat.succ_mul n p).symm, ← ten hq n, Nat.pow_succ]
    generalize sm (fun i => (10 - q) ^ (i + 1) * q * 10 ^ (n - 1 - i) * g (h - (i + 1) * p)) n = s1
    generalize sm (fun i => (10 - q) ^ i * q * 10 ^ (n - 1 - i)) n = s2
    generalize g (c - (n + 1) * p) = x
    generalize (10 - q) ^ n = y
    generalize (10 - q) = z
    generalize g h = w
    grind
theorem AA_le {q : Nat} (hq : q ≤ 10) (p h c : Nat) : ∀ n g B, (∀ w, g w ≤ B ∨ ¬ (w ≤ c ∨ w ≤ h)) → AA q p h c g n ≤ 10 ^ n * B
  | 0, g, B, hg => by
    show 0 + 1 * g c ≤ 1 * B
    rcases hg c with q | q
    · omega
    · exact absurd (Or.inl (Nat.le_refl _)) q
  | n + 1, g, B, hg => by
    rw [AA_s, Nat.pow_succ, Nat.mul_assoc]
    refine AA_le hq p h c n _ _ (fun w => ?_)
    rcases hg (w - p) with q1 | q1
    · left
      rcases hg h with q2 | q2
      · have h1 := Nat.mul_le_mul_left (10 - q) q1
        have h2 := Nat.mul_le_mul_left q q2
        have h3 : (10 - q) * B + q * B = 10 * B := by rw [← Nat.add_mul, show 10 - q + q = 10 by omega]
        show (10 - q) * g (w - p) + q * g h ≤ 10 * B
        omega
      · exact absurd (Or.inr (Nat.le_refl _)) q2
    · right; omega
theorem cmp0 {a : Nat} (ha : a < 2 ^ 63) : (lg_cmp (lN a) 0 = 0 ↔ a = 0) ∧ (lg_cmp (lN a) 0 ≤ 0 ↔ a = 0) := by
  unfold lg_cmp
  rcases Nat.eq_zero_or_pos a with h | h
  · subst h; decide
  · have : lN a > 0 := (pk_lLT (a := 0) (by omega) ha).mpr h
    rw [if_pos this]
    exact ⟨⟨fun e => absurd e (by decide), fun e => by omega⟩, ⟨fun e => absurd e (by decide), fun e => by omega⟩⟩
theorem gcd_st (a b : Nat) : Nat.gcd a b = Nat.gcd b (a % b) := by
  rw [Nat.gcd_comm a b, Nat.gcd_rec b a, Nat.gcd_comm]
theorem mod_half {b r : Nat} (h0 : 0 < r) (h : r < b) {k : Nat} (hb : b < 2 ^ (k + 1)) : b % r < 2 ^ k := by
  have h1 := Nat.mod_lt b h0
  rw [Nat.pow_succ] at hb
  rcases Nat.lt_or_ge r (2 ^ k + 1) with q | q
  · omega
  · have : b % r = b - r := by
      rw [Nat.mod_eq_sub_mod (by omega), Nat.mod_eq_of_lt (by omega)]
    omega
theorem c_gcd : ∀ k a b i n, a < 2 ^ 63 → b < 2 ^ k → k ≤ 40 → i + 2 * k ≤ 99 → 2 * k < n → loopF (fun kk q => bX0_greatestDivisor_9 kk q.1 q.2.1 q.2.2) n (lN a, lN b, nI i) = some (lN (Nat.gcd a b))
  | k, a, b, i, 0, _, _, _, _, hn => by omega
  | k, a, b, i, n + 1, ha, hb, hk, hi, hn => by
    have hk2 : 2 ^ k ≤ 2 ^ 40 := Nat.pow_le_pow_right (by decide) hk
    show bX0_greatestDivisor_9 (loopF (fun kk q => bX0_greatestDivisor_9 kk q.1 q.2.1 q.2.2) n) (lN a) (lN b) (nI i) = _
    have body : ∀ (K : Int64 × Int64 × Int32 → Option Int64) (a b i : Nat), a < 2 ^ 63 → b < 2 ^ 63 → i < 100 → bX0_greatestDivisor_9 K (lN a) (lN b) (nI i) = if b = 0 then some (lN a) else K (lN b, lN (a % b), nI (i + 1)) := by
      intro K a b i ha hb hi
      unfold bX0_greatestDivisor_9
      rw [if_neg (show ¬ (100 : Int32) ≤ nI i from nI_ge (b := 100) hi (by omega))]
      by_cases d : b = 0
      · rw [if_pos ((cmp0 hb).1.mpr d), if_pos d]
      · rw [if_neg (fun e => d ((cmp0 hb).1.mp e)), if_neg d, gNzL_ok (fun e => d ((pk_lEQ (b := 0) hb (by omega)).mp e)), pk_lRem ha (by omega) hb, nI_1]
    rw [body _ a b i ha (by omega) (by omega)]
    by_cases d : b = 0
    · rw [if_pos d, d, Nat.gcd_zero_right]
    · rw [if_neg d]
      have hr := Nat.mod_lt a (show b > 0 by omega)
      have hk1 : 1 ≤ k := by
        rcases Nat.eq_zero_or_pos k with q | q
        · subst q; have : b < 1 := hb; omega
        · exact q
      obtain ⟨n', rfl⟩ : ∃ n', n = n' + 1 := ⟨n - 1, by omega⟩
      show bX0_greatestDivisor_9 (loopF (fun kk q => bX0_greatestDivisor_9 kk q.1 q.2.1 q.2.2) n') (lN b) (lN (a % b)) (nI (i + 1)) = _
      rw [body _ b (a % b) (i + 1) (by omega) (by omega) (by omega), gcd_st a b]
      by_cases d2 : a % b = 0
      · rw [if_pos d2, d2, Nat.gcd_zero_right]
      · rw [if_neg d2, gcd_st b (a % b)]
        obtain ⟨k', rfl⟩ : ∃ k', k = k' + 1 := ⟨k - 1, by omega⟩
        exact c_gcd k' (a % b) (b % (a % b)) (i + 2) n' (by omega) (mod_half (by omega) hr hb) (by omega) (by omega) (by omega)
theorem m_gcd {v6 v8 : Nat} {a4 : Int32} {u : Int32} {N : Nat → Int32} (h6 : v6 < 2 ^ 63) (h8 : v8 < 2 ^ 63) : ∀ k a b n, a < 2 ^ 63 → b < 2 ^ k → k ≤ 40 → 0 < Nat.gcd a b → 2 * k < n → loopF (fun kk q => bX10_bees_244 kk a4 q.1 q.2.1 q.2.2.1 q.2.2.2.1 q.2.2.2.2.1 q.2.2.2.2.2) n (lN v6, lN v8, lN a, lN b, u, N) = some (lN ((if a4 = 0 then v6 else v8) / Nat.gcd a b), u, N)
  | k, a, b, 0, _, _, _, _, hn => by omega
  | k, a, b, n + 1, ha, hb, hk, hg, hn => by
    have hk2 : 2 ^ k ≤ 2 ^ 40 := Nat.pow_le_pow_right (by decide) hk
    show bX10_bees_244 (loopF (fun kk q => bX10_bees_244 kk a4 q.1 q.2.1 q.2.2.1 q.2.2.2.1 q.2.2.2.2.1 q.2.2.2.2.2) n) a4 (lN v6) (lN v8) (lN a) (lN b) u N = _
    have body : ∀ (K : Int64 × Int64 × Int64 × Int64 × Int32 × (Nat → Int32) → Option (Int64 × Int32 × (Nat → Int32))) (a b : Nat), a < 2 ^ 63 → b < 2 ^ 63 → 0 < Nat.gcd a b → bX10_bees_244 K a4 (lN v6) (lN v8) (lN a) (lN b) u N = if b = 0 then some (lN ((if a4 = 0 then v6 else v8) / Nat.gcd a b), u, N) else K (lN v6, lN v8, lN b, lN (a % b), u, N) := by
      intro K a b ha hb hg
      unfold bX10_bees_244
      by_cases d : b = 0
      · rw [if_pos ((cmp0 hb).1.mpr d), if_pos d]
        rw [d, Nat.gcd_zero_right] at hg ⊢
        have hz : ¬ lN a = 0 := fun e => by have := (pk_lEQ (b := 0) ha (by omega)).mp e; omega
        by_cases d4 : a4 = 0
        · rw [if_pos d4, if_pos d4, gNzL_ok hz, pk_lDiv h6 hg ha]
        · rw [if_neg d4, if_neg d4, gNzL_ok hz, pk_lDiv h8 hg ha]
      · rw [if_neg (fun e => d ((cmp0 hb).1.mp e)), if_neg d, gNzL_ok (fun e => d ((pk_lEQ (b := 0) hb (by omega)).mp e)), pk_lRem ha (by omega) hb]
    rw [body _ a b ha (by omega) hg]
    by_cases d : b = 0
    · rw [if_pos d]
    · rw [if_neg d]
      have hr := Nat.mod_lt a (show b > 0 by omega)
      have hk1 : 1 ≤ k := by
        rcases Nat.eq_zero_or_pos k with q | q
        · subst q; have : b < 1 := hb; omega
        · exact q
      obtain ⟨n', rfl⟩ : ∃ n', n = n' + 1 := ⟨n - 1, by omega⟩
      show bX10_bees_244 (loopF (fun kk q => bX10_bees_244 kk a4 q.1 q.2.1 q.2.2.1 q.2.2.2.1 q.2.2.2.2.1 q.2.2.2.2.2) n') a4 (lN v6) (lN v8) (lN b) (lN (a % b)) u N = _
      rw [gcd_st a b] at hg ⊢
      rw [body _ b (a % b) (by omega) (by omega) hg]
      by_cases d2 : a % b = 0
      · rw [if_pos d2]
      · rw [if_neg d2]
        rw [gcd_st b (a % b)] at hg ⊢
        obtain ⟨k', rfl⟩ : ∃ k', k = k' + 1 := ⟨k - 1, by omega⟩
        exact m_gcd h6 h8 k' (a % b) (b % (a % b)) n' (by omega) (mod_half (by omega) hr hb) (by omega) hg (by omega)
theorem c_ten {k : Nat} (hk : k ≤ 10) : fX0_powerOfTen (nI k) = some (lN (10 ^ k)) := by
  unfold fX0_powerOfTen
  refine loopF_run k (fun i => (lN (10 ^ i), nI i)) _ (fun i hi K => ?_) (fun K => ?_) (FU_gt (by omega))
  · show bX0_powerOfTen_4 K (nI k) (lN (10 ^ i)) (nI i) = _
    unfold bX0_powerOfTen_4
    rw [if_neg (nI_ge hi (by omega)), show lN (10 ^ i) * 10 = lN (10 ^ i * 10) from lN_mul _ 10, nI_1]
    rfl
  · show bX0_powerOfTen_4 K (nI k) (lN (10 ^ k)) (nI k) = _
    unfold bX0_powerOfTen_4
    rw [if_pos (Int32.le_refl _)]
theorem c_worth {c s : Nat} (hc : c ≤ 1000000) (hs : s ≤ 1000000) {a : Nat} (ha : a ≤ 1) : fX0_worth (nI c - nI s) (nI a) = some (lN (gw a (c - s))) := by
  unfold fX0_worth gw
  have ha2 : a = 0 ∨ a = 1 := by omega
  rcases ha2 with rfl | rfl
  · rw [if_pos (show nI 0 = 0 from rfl), if_pos rfl]
    by_cases d : s < c
    · rw [if_pos ((sub_gt hc hs).mpr d), pk_sub (by omega), nI_l (by omega)]
    · rw [if_neg (fun e => d ((sub_gt hc hs).mp e)), show c - s = 0 by omega]; rfl
  · rw [if_neg (show ¬ nI 1 = 0 by decide), if_neg (show ¬ 1 = 0 by decide)]
    by_cases d : s < c
    · rw [if_pos ((sub_gt hc hs).mpr d), if_neg (show ¬ c - s = 0 by omega)]; rfl
    · rw [if_neg (fun e => d ((sub_gt hc hs).mp e)), if_pos (show c - s = 0 by omega)]; rfl
theorem c_tenths {h n q a f : Nat} {c p : Nat → Nat} {C P : Nat → Int32} (hC : Row 8 1000000 C c) (hP : Row 8 9 P p) (hh : h ≤ 1000000) (hn : n ≤ 10) (hq : q ≤ 10) (ha : a ≤ 1) (hf : f < 8) : fX0_beesInTenths (nI h) C P (nI f) (nI n) (nI q) (nI a) = some (lN (CA q (p f) h (c f) (gw a) n)) := by
  unfold fX0_beesInTenths
  obtain ⟨p1, p2⟩ := hP f hf
  obtain ⟨c1, c2⟩ := hC f hf
  rw [ge0 hf, cl8 hf, p1]
  have e10 : ((10 - nI q : Int32)).toInt64 = lN (10 - q) := by rw [show (10 : Int32) - nI q = nI (10 - q) from pk_sub (a := 10) hq, nI_l (by omega)]
  refine loopF_run n (fun i => (nI (p f), lN ((10 - q) ^ i), lN (sm (fun i => (10 - q) ^ i * q * 10 ^ (n - 1 - i) * gw a (h - i * p f)) i), nI i)) _ (fun i hi K => ?_) (fun K => ?_) (FU_gt (by omega))
  · show bX0_beesInTenths_17 K (nI h) C (nI f) (nI n) (nI q) (nI a) (nI (p f)) (lN ((10 - q) ^ i)) (lN (sm (fun i => (10 - q) ^ i * q * 10 ^ (n - 1 - i) * gw a (h - i * p f)) i)) (nI i) = _
    have hip : i * p f ≤ 10 * 9 := Nat.mul_le_mul (by omega) p2
    unfold bX0_beesInTenths_17
    rw [if_neg (nI_ge hi (by omega)), show nI n - 1 = nI (n - 1) from pk_sub (b := 1) (by omega), pk_sub (show i ≤ n - 1 by omega), c_ten (by omega), bnd_some, pk_mul, c_worth hh (by omega) ha, bnd_some, e10, nI_l (by omega), lN_mul, lN_mul, lN_mul, lN_mul, lN_add, nI_1]
    rfl
  · show bX0_beesInTenths_17 K (nI h) C (nI f) (nI n) (nI q) (nI a) (nI (p f)) (lN ((10 - q) ^ n)) (lN (sm (fun i => (10 - q) ^ i * q * 10 ^ (n - 1 - i) * gw a (h - i * p f)) n)) (nI n) = _
    have hip : n * p f ≤ 10 * 9 := Nat.mul_le_mul (by omega) p2
    unfold bX0_beesInTenths_17
    rw [if_pos (Int32.le_refl _), ge0 hf, cl8 hf, c1, pk_mul, c_worth c2 (by omega) ha, bnd_some, lN_mul, lN_add]
    rfl
theorem has10 : ∀ i, i < 10 → ∀ m, m < 1024 → fX10_has (nI m) (nI i) = some (if m.testBit i then 1 else 0) := by
  intro i hi m hm
  unfold fX10_has
  have e : nI i &&& 31 = nI i := (show ∀ i, i < 10 → nI i &&& 31 = nI i by decide) i hi
  have hs : ((nI i).toBitVec.smod 32).toNat = i := (show ∀ i, i < 10 → ((nI i).toBitVec.smod 32).toNat = i by decide) i hi
  rw [e, pk_shrN (by omega) (nI i) i hs]
  have e1 : nI (m / 2 ^ i) &&& 1 = nI (m / 2 ^ i % 2) := pk_andN (Nat.lt_of_le_of_lt (Nat.div_le_self _ _) (by omega)) (m := 1) 1 (by decide)
  rw [e1, Nat.testBit_eq_decide_div_mod_eq]
  rcases Nat.mod_two_eq_zero_or_one (m / 2 ^ i) with q | q
  · rw [q]; rfl
  · rw [q]; rfl
theorem m_one {h n q a f m : Nat} {c p : Nat → Nat} {C P : Nat → Int32} (hC : Row 8 1000000 C c) (hP : Row 8 9 P p) (hh : h ≤ 1000000) (hn : n ≤ 10) (hq : q ≤ 10) (ha : a ≤ 1) (hf : f < 8) (hm : m < 2 ^ n) (s v8 : Nat) (u : Int32) (N : Nat → Int32) (K96 : Int32 × Int64 × Int64 × Int32 × Int32 × (Nat → Int32) → Option (Int64 × Int32 × (Nat → Int32))) :
    loopF (fun k z => bX10_bees_119 K96 k (nI h) P (nI n) (nI q) (nI a) z.1 z.2.1 z.2.2.1 z.2.2.2.1 z.2.2.2.2.1 z.2.2.2.2.2.1 z.2.2.2.2.2.2.1 z.2.2.2.2.2.2.2.1 z.2.2.2.2.2.2.2.2) FU (nI f, lN s, lN v8, nI m, 1, C f, 0, u, N) = K96 (nI f, lN (s + wt q m n * gw a (wl (p f) h (c f) m n)), lN v8, nI (m + 1), u, N) := by
  obtain ⟨p1, p2⟩ := hP f hf
  obtain ⟨c1, c2⟩ := hC f hf
  have hm2 : m < 1024 := Nat.lt_of_lt_of_le hm (Nat.pow_le_pow_right (n := 2) (by decide) hn)
  have hwl : ∀ i, wl (p f) h (c f) m i ≤ 1000000 := by
    intro i
    induction i with
    | zero => exact c2
    | succ i ih => show (if m.testBit i then h else wl (p f) h (c f) m i - p f) ≤ _; split <;> omega
  have e10 : ((10 - nI q : Int32)).toInt64 = lN (10 - q) := by rw [show (10 : Int32) - nI q = nI (10 - q) from pk_sub (a := 10) hq, nI_l (by omega)]
  rw [c1]
  refine loopF_run n (fun i => (nI f, lN s, lN v8, nI m, lN (wt q m i), nI (wl (p f) h (c f) m i), nI i, u, N)) _ (fun i hi K => ?_) (fun K => ?_) (FU_gt (by omega))
  · show bX10_bees_119 K96 K (nI h) P (nI n) (nI q) (nI a) (nI f) (lN s) (lN v8) (nI m) (lN (wt q m i)) (nI (wl (p f) h (c f) m i)) (nI i) u N = K (nI f, lN s, lN v8, nI m, lN (wt q m i * (if m.testBit i then q else 10 - q)), nI (if m.testBit i then h else wl (p f) h (c f) m i - p f), nI (i + 1), u, N)
    have := hwl i
    unfold bX10_bees_119 bX10_bees_147
    rw [if_neg (nI_ge hi (by omega)), has10 i (by omega) m hm2, bnd_some, bnd_some, e10, nI_l (show q < 2 ^ 31 by omega), ge0 hf, ge0 hf, cl8 hf, p1, nI_1, lN_mul, lN_mul]
    cases m.testBit i with
    | true => rfl
    | false =>
      simp only [if_false, Bool.false_eq_true, if_true]
      by_cases d : wl (p f) h (c f) m i ≤ p f
      · rw [if_pos (nI_le d (by omega)), show wl (p f) h (c f) m i - p f = 0 by omega]; rfl
      · rw [if_neg (nI_ge (by omega) (by omega)), pk_sub (by omega)]
  · show bX10_bees_119 K96 K (nI h) P (nI n) (nI q) (nI a) (nI f) (lN s) (lN v8) (nI m) (lN (wt q m n)) (nI (wl (p f) h (c f) m n)) (nI n) u N = _
    have := hwl n
    unfold bX10_bees_119 bX10_bees_227 gw
    have ha2 : a = 0 ∨ a = 1 := by omega
    rw [if_pos (Int32.le_refl _), nI_l (by omega), lN_mul, lN_add, nI_1]
    rcases ha2 with rfl | rfl
    · rfl
    · rw [if_neg (show ¬ nI 1 = 0 by decide), if_neg (show ¬ 1 = 0 by decide)]
      by_cases d : wl (p f) h (c f) m n = 0
      · rw [d, if_pos (show nI 0 = 0 from rfl), if_pos rfl, lN_add, Nat.mul_one]
      · rw [if_neg (nI_ne0 (by omega) (by omega)), if_neg d, Nat.mul_zero]
        show K96 (nI f, lN s + lN 0, lN v8, nI (m + 1), u, N) = _
        rw [lN_add]
theorem m_sum {h n q a f : Nat} {c p : Nat → Nat} {C P : Nat → Int32} (hC : Row 8 1000000 C c) (hP : Row 8 9 P p) (hh : h ≤ 1000000) (hn : n ≤ 10) (hq : q ≤ 10) (ha : a ≤ 1) (hf : f < 8) (v8 : Nat) (a4 u : Int32) (N : Nat → Int32) : loopF (fun k z => bX10_bees_96 k (nI h) C P (nI n) (nI q) (nI a) a4 z.1 z.2.1 z.2.2.1 z.2.2.2.1 z.2.2.2.2.1 z.2.2.2.2.2) FU (nI f, 0, lN v8, 0, u, N) = loopF (fun kk z => bX10_bees_244 kk a4 z.1 z.2.1 z.2.2.1 z.2.2.2.1 z.2.2.2.2.1 z.2.2.2.2.2) FU (lN (AA q (p f) h (c f) (gw a) n), lN v8, lN (AA q (p f) h (c f) (gw a) n), lN v8, u, N) := by
  have hn2 : 2 ^ n ≤ 2 ^ 10 := Nat.pow_le_pow_right (n := 2) (by decide) hn
  have e1 : (1 : Int32) <<< (nI n &&& 31) = nI (2 ^ n) := (show ∀ k, k ≤ 10 → (1 : Int32) <<< (nI k &&& 31) = nI (2 ^ k) by decide +kernel) n hn
  refine loopF_run (2 ^ n) (fun i => (nI f, lN (sm (fun m => wt q m n * gw a (wl (p f) h (c f) m n)) i), lN v8, nI i, u, N)) _ (fun i hi K => ?_) (fun K => ?_) (FU_gt (by omega))
  · show bX10_bees_96 K (nI h) C P (nI n) (nI q) (nI a) a4 (nI f) (lN (sm (fun m => wt q m n * gw a (wl (p f) h (c f) m n)) i)) (lN v8) (nI i) u N = _
    unfold bX10_bees_96
    rw [e1, if_neg (nI_ge hi (by omega)), ge0 hf, cl8 hf]
    exact m_one hC hP hh hn hq ha hf hi _ v8 u N K
  · show bX10_bees_96 K (nI h) C P (nI n) (nI q) (nI a) a4 (nI f) (lN (sm (fun m => wt q m n * gw a (wl (p f) h (c f) m n)) (2 ^ n))) (lN v8) (nI (2 ^ n)) u N = _
    unfold bX10_bees_96
    rw [e1, if_pos (Int32.le_refl _)]
    rfl
theorem r_bees {T W h sh : Nat} {c p : Nat → Nat} {C C' P P' N : Nat → Int32} {u : Int32} (hG : GH T W h sh p) (hC : R2 8 1000000 C C' c) (hP : R2 8 9 P P' p) (a1 a2 a3 a4 : Int32) : ∃ r q1 q2, fX9_bees (nI W) (nI h) C P a1 a2 a3 a4 = some r ∧ fX10_bees (nI W) (nI h) u C' P' N a1 a2 a3 a4 = some (r, q1, q2) := by
  unfold fX9_bees fX10_bees
  have g2 := hG.2.1
  have hh : h ≤ 1000000 := hG.2.2.2.2.1
  rcases win a1 0 10 (by decide) (by decide) with ⟨e1, e2⟩ | ⟨n, _, hn, rfl, e1, e2⟩
  · exact ⟨_, u, N, by rw [show fX9_isWithin a1 0 10 = some 0 from e1]; rfl, by rw [show fX10_in a1 0 10 = some 0 from e2]; rfl⟩
  · rw [show fX9_isWithin (nI n) 0 10 = some 1 from e1, show fX10_in (nI n) 0 10 = some 1 from e2, bnd_some, bnd_some, if_neg n10, if_neg n10]
    rcases win a2 0 10 (by decide) (by decide) with ⟨e1, e2⟩ | ⟨q, _, hq, rfl, e1, e2⟩
    · exact ⟨_, u, N, by rw [show fX9_isWithin a2 0 10 = some 0 from e1]; rfl, by rw [show fX10_in a2 0 10 = some 0 from e2]; rfl⟩
    · rw [show fX9_isWithin (nI q) 0 10 = some 1 from e1, show fX10_in (nI q) 0 10 = some 1 from e2, bnd_some, bnd_some, if_neg n10, if_neg n10]
      rcases win a3 0 1 (by decide) (by decide) with ⟨e1, e2⟩ | ⟨a, _, ha, rfl, e1, e2⟩
      · exact ⟨_, u, N, by rw [show fX9_isWithin a3 0 1 = some 0 from e1]; rfl, by rw [show fX10_in a3 0 1 = some 0 from e2]; rfl⟩
      · rw [show fX9_isWithin (nI a) 0 1 = some 1 from e1, show fX10_in (nI a) 0 1 = some 1 from e2, bnd_some, bnd_some, if_neg n10, if_neg n10]
        rcases win a4 0 1 (by decide) (by decide) with ⟨e1, e2⟩ | ⟨d, _, hd, rfl, e1, e2⟩
        · exact ⟨_, u, N, by rw [show fX9_isWithin a4 0 1 = some 0 from e1]; rfl, by rw [show fX10_in a4 0 1 = some 0 from e2]; rfl⟩
        · rw [show fX9_isWithin (nI d) 0 1 = some 1 from e1, show fX10_in (nI d) 0 1 = some 1 from e2, bnd_some, bnd_some, if_neg n10, if_neg n10, c_foremost g2 hC.1, bnd_some]
          cases hfo : fo W c 8 with
          | none =>
            have : W = 0 := (fo_none8 g2).mp hfo
            rw [oI_n, if_pos rfl, this]
            exact ⟨_, u, N, rfl, rfl⟩
          | some f =>
            have hf := (fo_some hfo).1
            have hWp : 0 < W := by
              rcases Nat.eq_zero_or_pos W with z | z
              · rw [(fo_none8 (c := c) g2).mpr z] at hfo; cases hfo
              · exact z
            have hW0 : ¬ nI W = 0 := nI_ne0 hWp (by omega)
            obtain ⟨N2, e, hN⟩ := m_asNow (wI := nI W) (up := u) (C := C') (N := N)
            rw [oI_s, if_neg (nI_m1 (by omega)), c_ten hn, bnd_some, if_neg hW0, e, bnd_some]
            simp only
            rw [m_first g2 (hC.2.same hN), bnd_some, hfo, oI_s]
            have hA := AA_CA hq (p f) h (c f) n (gw a)
            have hle : AA q (p f) h (c f) (gw a) n ≤ 10 ^ n * 1000000 := by
              refine AA_le hq _ _ _ n _ _ (fun w => ?_)
              have := (hC.1 f hf).2
              unfold gw
              split
              · omega
              · left; split <;> omega
            have hp10 : 10 ^ n ≤ 10 ^ 10 := Nat.pow_le_pow_right (n := 10) (by decide) hn
            have hp0 : 0 < 10 ^ n := Nat.pow_pos (by decide)
            have hg0 : 0 < Nat.gcd (AA q (p f) h (c f) (gw a) n) (10 ^ n) := Nat.gcd_pos_of_pos_right _ hp0
            have hgl : Nat.gcd (AA q (p f) h (c f) (gw a) n) (10 ^ n) ≤ 10 ^ n := Nat.gcd_le_right _ hp0
            refine ⟨lN ((if nI d = 0 then AA q (p f) h (c f) (gw a) n else 10 ^ n) / Nat.gcd (AA q (p f) h (c f) (gw a) n) (10 ^ n)), nI W, N2, ?_, ?_⟩
            · have key : bX9_bees_86 (nI h) C P (nI d) (lN (10 ^ n)) (nI a) (nI q) (nI n) (nI f) = some (lN ((if nI d = 0 then AA q (p f) h (c f) (gw a) n else 10 ^ n) / Nat.gcd (AA q (p f) h (c f) (gw a) n) (10 ^ n))) := by
                unfold bX9_bees_86 fX0_partInLowestTerms fX0_greatestDivisor bX0_partInLowestTerms_17
                rw [c_tenths hC.1 hP.1 hh hn hq ha hf, bnd_some, ← hA]
                rw [show loopF (fun k q => bX0_greatestDivisor_9 k q.1 q.2.1 q.2.2) FU (lN (AA q (p f) h (c f) (gw a) n), lN (10 ^ n), 0) = _ from c_gcd 34 (AA q (p f) h (c f) (gw a) n) (10 ^ n) 0 FU (by omega) (by omega) (by omega) (by omega) (FU_gt (by omega)), bnd_some]
                have hc0 : ¬ lg_cmp (lN (Nat.gcd (AA q (p f) h (c f) (gw a) n) (10 ^ n))) 0 ≤ 0 := fun z => by have := (cmp0 (by omega)).2.mp z; omega
                have hz : ¬ lN (Nat.gcd (AA q (p f) h (c f) (gw a) n) (10 ^ n)) = 0 := fun z => by have := (pk_lEQ (b := 0) (by omega) (by omega)).mp z; omega
                rw [if_neg hc0, if_neg hc0, gNzL_ok hz, gNzL_ok hz, pk_lDiv (by omega) hg0 (by omega), pk_lDiv (by omega) hg0 (by omega)]
                split <;> rfl
              have ha2 : a = 0 ∨ a = 1 := by omega
              rcases ha2 with rfl | rfl
              · rw [if_neg (show ¬ nI 0 = 1 by decide)]; exact key
              · rw [if_pos (show nI 1 = 1 from rfl)]; exact key
            · refine (loopF_run n (fun i => (nI f, (0 : Int64), lN (10 ^ i), nI i, nI W, N2)) _ (fun i hi K => ?_) (fun K => ?_) (FU_gt (by omega))).trans (m_gcd (by omega) (by omega) 34 _ _ FU (by omega) (by omega) (by omega) hg0 (FU_gt (by omega)))
              · show bX10_bees_73 K (nI h) C' P' (nI n) (nI q) (nI a) (nI d) (nI f) 0 (lN (10 ^ i)) (nI i) (nI W) N2 = _
                unfold bX10_bees_73
                rw [if_neg (nI_ge hi (by omega)), show lN (10 ^ i) * 10 = lN (10 ^ i * 10) from lN_mul _ 10, nI_1]
                rfl
              · show bX10_bees_73 K (nI h) C' P' (nI n) (nI q) (nI a) (nI d) (nI f) 0 (lN (10 ^ n)) (nI n) (nI W) N2 = _
                unfold bX10_bees_73
                rw [if_pos (Int32.le_refl _)]
                exact m_sum hC.2 hP.2 hh hn hq ha hf (10 ^ n) (nI d) (nI W) N2
