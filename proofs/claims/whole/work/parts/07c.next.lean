
theorem nI_and (a b : Nat) : nI a &&& nI b = nI (a &&& b) := by
  apply Int32.toBitVec_inj.mp
  rw [Int32.toBitVec_and]
  show BitVec.ofNat 32 a &&& BitVec.ofNat 32 b = BitVec.ofNat 32 (a &&& b)
  rw [BitVec.ofNat_and]
theorem p2_ex (v : Nat) (h1 : 1 ≤ v) (h2 : v ≤ 1000000) : ∃ k, k ≤ 19 ∧ 2 ^ k ≤ v ∧ v < 2 ^ (k + 1) := by
  obtain ⟨k, hk, hm⟩ := pk_least (fun k => v < 2 ^ k) ⟨20, by show v < 2 ^ 20; omega⟩
  have h0 : k ≠ 0 := by rintro rfl; have : v < 2 ^ 0 := hk; omega
  have h20 : k ≤ 20 := by
    rcases Nat.lt_or_ge 20 k with q | q
    · have := hm 20 q; exact absurd (show v < 2 ^ 20 by omega) this
    · exact q
  refine ⟨k - 1, by omega, ?_, ?_⟩
  · have := hm (k - 1) (by omega); omega
  · rw [show k - 1 + 1 = k by omega]; exact hk
theorem p2_tb {v k : Nat} (h1 : 2 ^ k ≤ v) (h2 : v < 2 ^ (k + 1)) : v.testBit k = true := by
  rw [Nat.testBit_eq_decide_div_mod_eq]
  have : v / 2 ^ k = 1 := Nat.div_eq_of_lt_le (by omega) (by rw [Nat.pow_succ] at h2; omega)
  rw [this]; rfl
theorem p2_dec : ∀ k, k ≤ 19 → (nI (2 ^ k) &&& (nI (2 ^ k) - 1)) = 0 := by decide +kernel
theorem lw4 {v k : Nat} (hv : v ≤ 1000000) (h1 : 2 ^ k ≤ v) (h2 : v < 2 ^ (k + 1)) (hk : k ≤ 19) : (nI v &&& (nI v - 1)) = 0 ↔ v = 2 ^ k := by
  constructor
  · intro h
    rcases Nat.lt_or_ge (2 ^ k) v with q | q
    · exfalso
      rw [show nI v - 1 = nI (v - 1) from pk_sub (b := 1) (by omega), nI_and] at h
      have hl : v &&& (v - 1) ≤ v := Nat.and_le_left
      have h0 : v &&& (v - 1) = 0 := (nI_eq (b := 0) (by omega) (by omega)).mp h
      have : (v &&& (v - 1)).testBit k = true := by
        rw [Nat.testBit_and, p2_tb h1 h2, p2_tb (v := v - 1) (by omega) (by omega)]; rfl
      rw [h0, Nat.zero_testBit] at this
      cases this
    · omega
  · intro h; rw [h]; exact p2_dec k hk
def gp (v : Nat) : Nat → Nat
  | 0 => 0
  | i + 1 => if v < 2 ^ i then gp v i else 2 ^ i
theorem gp_is {v k : Nat} (h1 : 2 ^ k ≤ v) (h2 : v < 2 ^ (k + 1)) : ∀ i, k < i → gp v i = 2 ^ k
  | 0, h => by omega
  | i + 1, h => by
    show (if v < 2 ^ i then gp v i else 2 ^ i) = 2 ^ k
    rcases Nat.lt_or_ge k i with q | q
    · have : 2 ^ (k + 1) ≤ 2 ^ i := Nat.pow_le_pow_right (by decide) q
      rw [if_pos (by omega), gp_is h1 h2 i q]
    · have : k = i := by omega
      rw [← this, if_neg (by omega)]
theorem gp_0 : ∀ i, gp 0 i = 0
  | 0 => rfl
  | i + 1 => by
    show (if 0 < 2 ^ i then gp 0 i else 2 ^ i) = 0
    rw [if_pos (Nat.pow_pos (by decide)), gp_0 i]
theorem p2_lt : ∀ i, i < 20 → 2 ^ i ≤ 524288 := by decide
theorem c_great {v : Nat} (hv : v ≤ 1000000) : fX4_greatestPowerUpTo (nI v) = some (nI (gp v 20)) := by
  unfold fX4_greatestPowerUpTo
  refine loopF_run 20 (fun i => (nI (gp v i), nI (2 ^ i))) _ (fun i hi K => ?_) (fun K => ?_) (FU_gt (by omega))
  · have hp := p2_lt i hi
    show bX4_greatestPowerUpTo_4 K (nI v) (nI (gp v i)) (nI (2 ^ i)) = _
    unfold bX4_greatestPowerUpTo_4
    rw [if_neg (show ¬ 1000000 < nI (2 ^ i) from fun e => absurd ((nI_ltI (a := 1000000) (b := 2 ^ i) (by omega) (by omega)).mp e) (by omega))]
    have e2 : nI (2 ^ i) * 2 = nI (2 ^ (i + 1)) := by rw [Nat.pow_succ]; exact pk_mul (2 ^ i) 2
    by_cases d : v < 2 ^ i
    · rw [if_pos (nI_lt d (by omega))]
      unfold bX4_greatestPowerUpTo_20
      rw [e2]
      show _ = K (nI (if v < 2 ^ i then gp v i else 2 ^ i), nI (2 ^ (i + 1)))
      rw [if_pos d]
    · rw [if_neg (nI_nlt (by omega) (by omega))]
      unfold bX4_greatestPowerUpTo_20
      rw [e2]
      show _ = K (nI (if v < 2 ^ i then gp v i else 2 ^ i), nI (2 ^ (i + 1)))
      rw [if_neg d]
  · show bX4_greatestPowerUpTo_4 K (nI v) (nI (gp v 20)) (nI (2 ^ 20)) = _
    unfold bX4_greatestPowerUpTo_4
    rw [if_pos (show (1000000 : Int32) < nI (2 ^ 20) by decide)]
noncomputable def ndn (l : Nat) : Nat → Option Nat
  | 0 => none
  | v + 1 => if lwB l (v + 1) then some (v + 1) else ndn l v
theorem ndn_le (l : Nat) : ∀ v u, ndn l v = some u → u ≤ v
  | 0, u, h => by cases h
  | v + 1, u, h => by
    have h2 : (if lwB l (v + 1) then some (v + 1) else ndn l v) = some u := h
    split at h2
    · cases h2; omega
    · have := ndn_le l v u h2; omega
theorem ndn_skip {l s : Nat} : ∀ v, s ≤ v → (∀ u, s < u → u ≤ v → ¬ lwB l u = true) → ndn l v = ndn l s
  | 0, h, _ => by rw [show s = 0 by omega]
  | v + 1, h, hn => by
    rcases Nat.lt_or_ge v s with q | q
    · rw [show s = v + 1 by omega]
    · show (if lwB l (v + 1) then some (v + 1) else ndn l v) = _
      rw [if_neg (hn (v + 1) (by omega) (Nat.le_refl _))]
      exact ndn_skip v q (fun u h1 h2 => hn u h1 (by omega))
theorem m_nx {l : Nat} (hl : l ≤ 4) : ∀ v n, v ≤ 1000000 → v < n → loopF (fun k q => bX10_next_24 k (nI l) q) n (nI v) = some (oI (-6) (ndn l v))
  | v, 0, _, h => by omega
  | 0, n + 1, hv, h => by
    show bX10_next_24 _ (nI l) (nI 0) = _
    unfold bX10_next_24
    rw [if_pos (show nI 0 ≤ 0 by decide)]; rfl
  | v + 1, n + 1, hv, h => by
    show bX10_next_24 _ (nI l) (nI (v + 1)) = _
    unfold bX10_next_24
    rw [if_neg (nI_nle (by omega) (by omega)), (law_both hl hv).2, bnd_some]
    show _ = some (oI (-6) (if lwB l (v + 1) then some (v + 1) else ndn l v))
    cases hb : lwB l (v + 1) with
    | true => rfl
    | false =>
      rw [if_pos (show (if false = true then (1 : Int32) else 0) = 0 from rfl), pk_m1]
      exact m_nx hl v n (by omega) (by omega)
theorem c_nx {l : Nat} (hl : l ≤ 4) : ∀ v n, v ≤ 1000000 → v < n → loopF (fun k q => bX4_nearestAtOrBelow_6 k (nI l) q) n (nI v) = some (oI (-6) (ndn l v))
  | v, 0, _, h => by omega
  | 0, n + 1, hv, h => by
    show bX4_nearestAtOrBelow_6 _ (nI l) (nI 0) = _
    unfold bX4_nearestAtOrBelow_6
    rw [if_pos (show nI 0 < 1 by decide)]; rfl
  | v + 1, n + 1, hv, h => by
    show bX4_nearestAtOrBelow_6 _ (nI l) (nI (v + 1)) = _
    unfold bX4_nearestAtOrBelow_6
    rw [if_neg (show ¬ nI (v + 1) < 1 from nI_nlt (b := 1) (by omega) (by omega)), (law_both hl hv).1, bnd_some]
    show _ = some (oI (-6) (if lwB l (v + 1) then some (v + 1) else ndn l v))
    cases hb : lwB l (v + 1) with
    | true => rfl
    | false =>
      rw [if_pos (show (if false = true then (1 : Int32) else 0) = 0 from rfl), pk_m1]
      exact c_nx hl v n (by omega) (by omega)
theorem c_start {l v : Nat} (hl : l ≤ 4) (hv : v ≤ 1000000) : ∃ s, fX4_startOfSearch (nI l) (nI v) = some (nI s) ∧ s ≤ v ∧ ndn l v = ndn l s := by
  unfold fX4_startOfSearch
  have hl5 : l = 0 ∨ l = 1 ∨ l = 2 ∨ l = 3 ∨ l = 4 := by omega
  rcases hl5 with rfl | rfl | rfl | rfl | rfl
  · exact ⟨v, rfl, Nat.le_refl _, rfl⟩
  · rw [if_neg (show ¬ nI 1 = 0 by decide), if_pos (show nI 1 = 1 from rfl)]
    obtain ⟨r, e1, r1, r2, r3⟩ := c_root hv
    refine ⟨r * r, by rw [e1, bnd_some, bnd_some, pk_mul], r1, ndn_skip v r1 (fun u h1 h2 hu => ?_)⟩
    obtain ⟨_, x, hx⟩ := lwB_iff.mp hu
    have q1 : r < x := sq_lt (by omega)
    have q2 : x < r + 1 := sq_lt (by omega)
    omega
  · exact ⟨v, rfl, Nat.le_refl _, rfl⟩
  · exact ⟨v, rfl, Nat.le_refl _, rfl⟩
  · rw [if_neg (show ¬ nI 4 = 0 by decide), if_neg (show ¬ nI 4 = 1 by decide), if_neg (show ¬ nI 4 = 2 by decide), if_neg (show ¬ nI 4 = 3 by decide), c_great hv, bnd_some]
    rcases Nat.eq_zero_or_pos v with h0 | h0
    · exact ⟨0, by rw [h0, gp_0], by omega, by rw [h0]⟩
    · obtain ⟨k, hk, h1, h2⟩ := p2_ex v h0 hv
      refine ⟨2 ^ k, by rw [gp_is h1 h2 20 (by omega)], h1, ndn_skip v h1 (fun u q1 q2 hu => ?_)⟩
      have : (nI u &&& (nI u - 1)) = 0 := (lwB_iff.mp hu).2
      have := (lw4 (by omega) (by omega) (by omega) hk).mp this
      omega
theorem isLaw_is (a : Int32) : fX9_isLaw a = fX9_isWithin a 0 4 := by
  unfold fX9_isLaw fX9_isWithin
  by_cases h1 : a < 0
  · rw [if_pos h1, bnd_some, gB_ok (Or.inl rfl)]
  · rw [if_neg h1]
    by_cases h2 : 4 < a
    · rw [if_pos h2, bnd_some, gB_ok (Or.inl rfl)]
    · rw [if_neg h2, bnd_some, gB_ok (Or.inr rfl)]
theorem r_next (a1 a2 : Int32) : ∃ r, fX9_next a1 a2 = some r ∧ fX10_next a1 a2 = some r := by
  unfold fX9_next fX10_next
  rw [isLaw_is]
  rcases win a1 0 4 (by decide) (by decide) with ⟨e1, e2⟩ | ⟨l, _, hl, rfl, e1, e2⟩
  · exact ⟨-2, by rw [show fX9_isWithin a1 0 4 = some 0 from e1]; rfl, by rw [show fX10_in a1 0 4 = some 0 from e2]; rfl⟩
  · rw [show fX9_isWithin (nI l) 0 4 = some 1 from e1, show fX10_in (nI l) 0 4 = some 1 from e2, bnd_some, bnd_some, if_neg n10, if_neg n10]
    rcases win a2 0 1000000 (by decide) (by decide) with ⟨e1, e2⟩ | ⟨v, _, hv, rfl, e1, e2⟩
    · exact ⟨-2, by rw [show fX9_isWithin a2 0 1000000 = some 0 from e1]; rfl, by rw [show fX10_in a2 0 1000000 = some 0 from e2]; rfl⟩
    · rw [show fX9_isWithin (nI v) 0 1000000 = some 1 from e1, show fX10_in (nI v) 0 1000000 = some 1 from e2, bnd_some, bnd_some, if_neg n10, if_neg n10]
      obtain ⟨s, es, hs, hn⟩ := c_start hl hv
      refine ⟨oI (-6) (ndn l v), ?_, m_nx hl v FU hv (FU_gt (by omega))⟩
      unfold fX4_nearestAtOrBelow
      rw [es, bnd_some, c_nx hl s FU (by omega) (FU_gt (by omega)), bnd_some, hn]
